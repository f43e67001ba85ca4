theorem m_8e18d96c : (.fieldLink "StackHost$Row" 13 "StackHost$Row" "items" "[J" : Cond) ∈ xt_tbl := xt_in (xt_t1 (List.mem_of_getElem? (i := 144) (by decide +kernel))) (by decide +kernel)
theorem m_d0ffeaec : (.fieldLink "StackHost$Row" 7 "StackHost$Row" "columns" "I" : Cond) ∈ xt_tbl := xt_in (xt_t1 (List.mem_of_getElem? (i := 155) (by decide +kernel))) (by decide +kernel)
set_option maxRecDepth 100000 in
def T_Row_at : List (Nat × Instr × Nat) := [(0, .aload_n 0, 1), (1, .getfield 13, 3), (4, .iload_n 1, 1), (5, .aload_n 0, 1), (6, .getfield 7, 3), (9, .imul, 1), (10, .iload_n 2, 1), (11, .iadd, 1), (12, .laload, 1), (13, .l2i, 1), (14, .ireturn, 1)]
theorem D_Row_at : ∀ q ∈ T_Row_at, decode b_Row_at q.1 = .ok (q.2.1, q.2.2) := by decide +kernel
def w_Row_at (x0 : Nat) (x1 : Int32) (x2 : Int32) (h : xb_H) (Qr : Int32 → xb_H → Prop) : Prop :=
    xb_k h x0 = 2 ∧ ∃ b2 : Nat, (xb_r h x0 0) = some b2 ∧ xb_k h b2 = 103 ∧ vp_in ((x1 * (xb_i h x0 2)) + x2) (xb_n h b2) ∧ Qr (Int64.toInt32 (xb_l h b2 (Int32.toNatClampNeg ((x1 * (xb_i h x0 2)) + x2)))) h

set_option maxHeartbeats 4000000 in
set_option maxRecDepth 100000 in
theorem ok_Row_at (l : Launch) (hfl : l.flags = pinnedFlags ++ [noTraceFlag]) (D : va_G) (A : Nat → Prop) (σ : Nat) (x0 : Nat) (x1 : Int32) (x2 : Int32) (h : xb_H) (Qr : Int32 → xb_H → Prop) (hw : w_Row_at x0 x1 x2 h Qr) : xt_Met l y_Row_at [.code y_Row_at b_Row_at 3 (some .int)] (xb_rm 2 0 0) (xb_Pc D A σ h [.ref x0, .int x1, .int x2]) (xb_Qc D A h (fun v h => ∃ r, v = some (.int r) ∧ Qr r h) (fun _ _ => False)) 0 0 A := by
  refine xb_ofAm (cc := b_Row_at) (by decide) (Nat.le_of_ble_eq_true rfl) ?_
  unfold w_Row_at at hw
  show xb_am l D A σ 2 0 0 h (fun v h => ∃ r, v = some (.int r) ∧ Qr r h) (fun _ _ => False) y_Row_at.cls y_Row_at.name b_Row_at 3 ([] : List ExceptionTableEntry) (some .int) 0 [(0, .ref x0), (1, .int x1), (2, .int x2)] [] h 0 0
  obtain ⟨MC, hMC⟩ : ∃ x, x = 0 := ⟨_, rfl⟩
  obtain ⟨MS, hMS⟩ : ∃ x, x = 0 := ⟨_, rfl⟩
  rw [show xb_am l D A σ 2 0 0 = xb_am l D A σ 2 MC MS by rw [hMC, hMS]]
  obtain ⟨h0, hh0⟩ : ∃ x, x = h := ⟨_, rfl⟩
  rw [show xb_am l D A σ 2 MC MS h = xb_am l D A σ 2 MC MS h0 by rw [hh0]]
  intro p e s m args below meth c hC H locs ls k n hE hl hR hS hk hn
  obtain ⟨hx, hb, hown, hlocks, htab, hml, hr, hB, hA, hnm⟩ := id hC
  have hts := hB.1.1.at args
  refine lv_aload_n hx hb (xb_d D_Row_at 0 rfl) rfl (lv_at hl 0 rfl) ?_
  obtain ⟨hk1, hw⟩ := hw
  refine xb_getP (C := R_Row) (T := F_Row) (N := 3) hx hb 1 0 hts fin_Row hown hR hk1 (by decide) rfl (by decide) rfl (hts _ m_8e18d96c) (fun _ h9 => h9) (xb_d D_Row_at 1 rfl) ?_
  obtain ⟨b2, eb2, hw⟩ := hw
  refine xb_some eb2 ?_
  refine lv_iload_n hx hb (xb_d D_Row_at 2 rfl) rfl (lv_at hl 1 rfl) ?_
  refine lv_aload_n hx hb (xb_d D_Row_at 3 rfl) rfl (lv_at hl 0 rfl) ?_
  refine xb_getI (C := R_Row) (T := F_Row) (N := 3) hx hb 1 2 hts fin_Row hown hR hk1 (by decide) rfl (by decide) rfl (hts _ m_d0ffeaec) (fun _ h9 => h9) (xb_d D_Row_at 4 rfl) ?_
  refine lv_imul hx hb (xb_d D_Row_at 5 rfl) ?_
  refine lv_iload_n hx hb (xb_d D_Row_at 6 rfl) rfl (lv_at hl 2 rfl) ?_
  refine lv_iadd hx hb (xb_d D_Row_at 7 rfl) ?_
  obtain ⟨hk4, hw⟩ := hw
  obtain ⟨hi3, hw⟩ := hw
  refine xb_lald hx hb hR hk4 hi3 (xb_d D_Row_at 8 rfl) ?_
  refine lv_l2i hx hb (xb_d D_Row_at 9 rfl) rfl ?_
  exact xb_iret hx hb hr hlocks (show k ≤ MC by omega) (show n ≤ MS by omega) hE hR hS (xb_d D_Row_at 10 rfl) hw

theorem m_2c4f5cfd : (.fieldLink "StackHost$Row" 29 "StackHost$Row" "size" "I" : Cond) ∈ xt_tbl := xt_in (xt_t1 (List.mem_of_getElem? (i := 151) (by decide +kernel))) (by decide +kernel)
set_option maxRecDepth 100000 in
def T_Row_lines : List (Nat × Instr × Nat) := [(0, .aload_n 0, 1), (1, .getfield 29, 3), (4, .aload_n 0, 1), (5, .getfield 7, 3), (8, .idiv, 1), (9, .ireturn, 1)]
theorem D_Row_lines : ∀ q ∈ T_Row_lines, decode b_Row_lines q.1 = .ok (q.2.1, q.2.2) := by decide +kernel
def w_Row_lines (x0 : Nat) (h : xb_H) (Qr : Int32 → xb_H → Prop) : Prop :=
    xb_k h x0 = 2 ∧ ¬ (xb_i h x0 2) = 0 ∧ Qr ((xb_i h x0 1) / (xb_i h x0 2)) h

set_option maxHeartbeats 4000000 in
set_option maxRecDepth 100000 in
theorem ok_Row_lines (l : Launch) (hfl : l.flags = pinnedFlags ++ [noTraceFlag]) (D : va_G) (A : Nat → Prop) (σ : Nat) (x0 : Nat) (h : xb_H) (Qr : Int32 → xb_H → Prop) (hw : w_Row_lines x0 h Qr) : xt_Met l y_Row_lines [.code y_Row_lines b_Row_lines 1 (some .int)] (xb_rm 2 0 0) (xb_Pc D A σ h [.ref x0]) (xb_Qc D A h (fun v h => ∃ r, v = some (.int r) ∧ Qr r h) (fun _ _ => False)) 0 0 A := by
  refine xb_ofAm (cc := b_Row_lines) (by decide) (Nat.le_of_ble_eq_true rfl) ?_
  unfold w_Row_lines at hw
  show xb_am l D A σ 2 0 0 h (fun v h => ∃ r, v = some (.int r) ∧ Qr r h) (fun _ _ => False) y_Row_lines.cls y_Row_lines.name b_Row_lines 1 ([] : List ExceptionTableEntry) (some .int) 0 [(0, .ref x0)] [] h 0 0
  obtain ⟨MC, hMC⟩ : ∃ x, x = 0 := ⟨_, rfl⟩
  obtain ⟨MS, hMS⟩ : ∃ x, x = 0 := ⟨_, rfl⟩
  rw [show xb_am l D A σ 2 0 0 = xb_am l D A σ 2 MC MS by rw [hMC, hMS]]
  obtain ⟨h0, hh0⟩ : ∃ x, x = h := ⟨_, rfl⟩
  rw [show xb_am l D A σ 2 MC MS h = xb_am l D A σ 2 MC MS h0 by rw [hh0]]
  intro p e s m args below meth c hC H locs ls k n hE hl hR hS hk hn
  obtain ⟨hx, hb, hown, hlocks, htab, hml, hr, hB, hA, hnm⟩ := id hC
  have hts := hB.1.1.at args
  refine lv_aload_n hx hb (xb_d D_Row_lines 0 rfl) rfl (lv_at hl 0 rfl) ?_
  obtain ⟨hk1, hw⟩ := hw
  refine xb_getI (C := R_Row) (T := F_Row) (N := 3) hx hb 1 1 hts fin_Row hown hR hk1 (by decide) rfl (by decide) rfl (hts _ m_2c4f5cfd) (fun _ h9 => h9) (xb_d D_Row_lines 1 rfl) ?_
  refine lv_aload_n hx hb (xb_d D_Row_lines 2 rfl) rfl (lv_at hl 0 rfl) ?_
  refine xb_getI (C := R_Row) (T := F_Row) (N := 3) hx hb 1 2 hts fin_Row hown hR hk1 (by decide) rfl (by decide) rfl (hts _ m_d0ffeaec) (fun _ h9 => h9) (xb_d D_Row_lines 3 rfl) ?_
  obtain ⟨hz2, hw⟩ := hw
  refine lv_idiv hx hb (xb_d D_Row_lines 4 rfl) hz2 ?_
  exact xb_iret hx hb hr hlocks (show k ≤ MC by omega) (show n ≤ MS by omega) hE hR hS (xb_d D_Row_lines 5 rfl) hw

set_option maxRecDepth 100000 in
def T_Row_setAt : List (Nat × Instr × Nat) := [(0, .aload_n 0, 1), (1, .getfield 13, 3), (4, .iload_n 1, 1), (5, .aload_n 0, 1), (6, .getfield 7, 3), (9, .imul, 1), (10, .iload_n 2, 1), (11, .iadd, 1), (12, .lload_n 3, 1), (13, .lastore, 1), (14, .return_, 1)]
theorem D_Row_setAt : ∀ q ∈ T_Row_setAt, decode b_Row_setAt q.1 = .ok (q.2.1, q.2.2) := by decide +kernel
def w_Row_setAt (x0 : Nat) (x1 : Int32) (x2 : Int32) (x3 : Int64) (h : xb_H) (Qr : xb_H → Prop) : Prop :=
    xb_k h x0 = 2 ∧ ∃ b2 : Nat, (xb_r h x0 0) = some b2 ∧ xb_k h b2 = 103 ∧ vp_in ((x1 * (xb_i h x0 2)) + x2) (xb_n h b2) ∧ ∀ h5 : xb_H, h5 = xb_L h b2 (Int32.toNatClampNeg ((x1 * (xb_i h x0 2)) + x2)) x3 → Qr h5

set_option maxHeartbeats 4000000 in
set_option maxRecDepth 100000 in
theorem ok_Row_setAt (l : Launch) (hfl : l.flags = pinnedFlags ++ [noTraceFlag]) (D : va_G) (A : Nat → Prop) (σ : Nat) (x0 : Nat) (x1 : Int32) (x2 : Int32) (x3 : Int64) (h : xb_H) (Qr : xb_H → Prop) (hw : w_Row_setAt x0 x1 x2 x3 h Qr) : xt_Met l y_Row_setAt [.code y_Row_setAt b_Row_setAt 5 none] (xb_rm 2 0 0) (xb_Pc D A σ h [.ref x0, .int x1, .int x2, .long x3]) (xb_Qc D A h (fun v h => v = none ∧ Qr h) (fun _ _ => False)) 0 0 A := by
  refine xb_ofAm (cc := b_Row_setAt) (by decide) (Nat.le_of_ble_eq_true rfl) ?_
  unfold w_Row_setAt at hw
  show xb_am l D A σ 2 0 0 h (fun v h => v = none ∧ Qr h) (fun _ _ => False) y_Row_setAt.cls y_Row_setAt.name b_Row_setAt 5 ([] : List ExceptionTableEntry) none 0 [(0, .ref x0), (1, .int x1), (2, .int x2), (3, .long x3)] [] h 0 0
  obtain ⟨MC, hMC⟩ : ∃ x, x = 0 := ⟨_, rfl⟩
  obtain ⟨MS, hMS⟩ : ∃ x, x = 0 := ⟨_, rfl⟩
  rw [show xb_am l D A σ 2 0 0 = xb_am l D A σ 2 MC MS by rw [hMC, hMS]]
  obtain ⟨h0, hh0⟩ : ∃ x, x = h := ⟨_, rfl⟩
  rw [show xb_am l D A σ 2 MC MS h = xb_am l D A σ 2 MC MS h0 by rw [hh0]]
  intro p e s m args below meth c hC H locs ls k n hE hl hR hS hk hn
  obtain ⟨hx, hb, hown, hlocks, htab, hml, hr, hB, hA, hnm⟩ := id hC
  have hts := hB.1.1.at args
  refine lv_aload_n hx hb (xb_d D_Row_setAt 0 rfl) rfl (lv_at hl 0 rfl) ?_
  obtain ⟨hk1, hw⟩ := hw
  refine xb_getP (C := R_Row) (T := F_Row) (N := 3) hx hb 1 0 hts fin_Row hown hR hk1 (by decide) rfl (by decide) rfl (hts _ m_8e18d96c) (fun _ h9 => h9) (xb_d D_Row_setAt 1 rfl) ?_
  obtain ⟨b2, eb2, hw⟩ := hw
  refine xb_some eb2 ?_
  refine lv_iload_n hx hb (xb_d D_Row_setAt 2 rfl) rfl (lv_at hl 1 rfl) ?_
  refine lv_aload_n hx hb (xb_d D_Row_setAt 3 rfl) rfl (lv_at hl 0 rfl) ?_
  refine xb_getI (C := R_Row) (T := F_Row) (N := 3) hx hb 1 2 hts fin_Row hown hR hk1 (by decide) rfl (by decide) rfl (hts _ m_d0ffeaec) (fun _ h9 => h9) (xb_d D_Row_setAt 4 rfl) ?_
  refine lv_imul hx hb (xb_d D_Row_setAt 5 rfl) ?_
  refine lv_iload_n hx hb (xb_d D_Row_setAt 6 rfl) rfl (lv_at hl 2 rfl) ?_
  refine lv_iadd hx hb (xb_d D_Row_setAt 7 rfl) ?_
  refine lv_lload_n hx hb (xb_d D_Row_setAt 8 rfl) rfl (lv_at hl 3 rfl) ?_
  obtain ⟨hk3, hw⟩ := hw
  obtain ⟨hi4, hw⟩ := hw
  refine xb_last hx hb hR hS hk3 hi4 (xb_d D_Row_setAt 9 rfl) (fun H locs hR hS => ?_)
  obtain ⟨h5, eh5⟩ : ∃ x : xb_H, x = xb_L h b2 (Int32.toNatClampNeg ((x1 * (xb_i h x0 2)) + x2)) x3 := ⟨_, rfl⟩
  rw [← eh5] at hR
  have hw := hw h5 eh5
  have hE : xb_ext h0 h5 := by rw [eh5]; exact hE
  exact xb_vret hx hb hr hlocks (show k ≤ MC by omega) (show n ≤ MS by omega) hE hR hS (xb_d D_Row_setAt 10 rfl) hw

theorem m_31336272 : (.fieldLink "StackHost$StackModule" 71 "StackHost$StackModule" "faultCode" "I" : Cond) ∈ xt_tbl := xt_in (xt_t3 (List.mem_of_getElem? (i := 124) (by decide +kernel))) (by decide +kernel)
theorem m_5e22c58e : (.fieldLink "StackHost$StackModule" 74 "StackHost$StackModule" "faultPlace" "I" : Cond) ∈ xt_tbl := xt_in (xt_t3 (List.mem_of_getElem? (i := 126) (by decide +kernel))) (by decide +kernel)
set_option maxRecDepth 100000 in
def T_StackModule_fail : List (Nat × Instr × Nat) := [(0, .aload_n 0, 1), (1, .iload_n 1, 1), (2, .putfield 71, 3), (5, .aload_n 0, 1), (6, .iload_n 2, 1), (7, .putfield 74, 3), (10, .new 77, 3), (13, .dup, 1), (14, .ldc 79, 2), (16, .invokespecial 81, 3), (19, .athrow, 1)]
theorem D_StackModule_fail : ∀ q ∈ T_StackModule_fail, decode b_StackModule_fail q.1 = .ok (q.2.1, q.2.2) := by decide +kernel
def w_StackModule_fail (x0 : Nat) (x1 : Int32) (x2 : Int32) (h : xb_H) (bc : Nat) (bs : Nat) (Qr : xb_H → Prop) (Qt : String → xb_H → Prop) : Prop :=
    xb_k h x0 = 3 ∧ ∀ h2 : xb_H, h2 = xb_I h x0 17 x1 → ∀ h3 : xb_H, h3 = xb_I h2 x0 18 x2 → 1 ≤ bc ∧ 6 ≤ bs ∧ Qt "java/lang/IllegalArgumentException" h3

set_option maxHeartbeats 4000000 in
set_option maxRecDepth 100000 in
theorem ok_StackModule_fail (l : Launch) (hfl : l.flags = pinnedFlags ++ [noTraceFlag]) (D : va_G) (A : Nat → Prop) (σ : Nat) (x0 : Nat) (x1 : Int32) (x2 : Int32) (h : xb_H) (bc : Nat) (bs : Nat) (Qr : xb_H → Prop) (Qt : String → xb_H → Prop) (hw : w_StackModule_fail x0 x1 x2 h bc bs Qr Qt) : xt_Met l y_StackModule_fail [.code y_StackModule_fail b_StackModule_fail 3 none] (xb_rm 2 bc bs) (xb_Pc D A σ h [.ref x0, .int x1, .int x2]) (xb_Qc D A h (fun v h => v = none ∧ Qr h) Qt) bc bs A := by
  refine xb_ofAm (cc := b_StackModule_fail) (by decide) (Nat.le_of_ble_eq_true rfl) ?_
  unfold w_StackModule_fail at hw
  show xb_am l D A σ 2 bc bs h (fun v h => v = none ∧ Qr h) Qt y_StackModule_fail.cls y_StackModule_fail.name b_StackModule_fail 3 ([] : List ExceptionTableEntry) none 0 [(0, .ref x0), (1, .int x1), (2, .int x2)] [] h bc bs
  obtain ⟨MC, hMC⟩ : ∃ x, x = bc := ⟨_, rfl⟩
  obtain ⟨MS, hMS⟩ : ∃ x, x = bs := ⟨_, rfl⟩
  rw [show xb_am l D A σ 2 bc bs = xb_am l D A σ 2 MC MS by rw [hMC, hMS]]
  obtain ⟨h0, hh0⟩ : ∃ x, x = h := ⟨_, rfl⟩
  rw [show xb_am l D A σ 2 MC MS h = xb_am l D A σ 2 MC MS h0 by rw [hh0]]
  intro p e s m args below meth c hC H locs ls k n hE hl hR hS hk hn
  obtain ⟨hx, hb, hown, hlocks, htab, hml, hr, hB, hA, hnm⟩ := id hC
  have hts := hB.1.1.at args
  refine lv_aload_n hx hb (xb_d D_StackModule_fail 0 rfl) rfl (lv_at hl 0 rfl) ?_
  refine lv_iload_n hx hb (xb_d D_StackModule_fail 1 rfl) rfl (lv_at hl 1 rfl) ?_
  obtain ⟨hk1, hw⟩ := hw
  refine xb_putI (C := R_StackModule) (T := F_StackModule) (N := 19) (ty := .int) (x := x1) hx hb 2 17 hts fin_StackModule t_StackModule t_StackModule_ok n_StackModule hown hR hS hk1 (by decide) rfl (by decide) rfl (hts _ m_31336272) (fun _ h9 => h9) rfl (by decide +kernel) rfl rfl (xb_d D_StackModule_fail 2 rfl) (fun H locs hR hS => ?_)
  obtain ⟨h2, eh2⟩ : ∃ x : xb_H, x = xb_I h x0 17 x1 := ⟨_, rfl⟩
  rw [← eh2] at hR
  have hw := hw h2 eh2
  have hE : xb_ext h0 h2 := by rw [eh2]; exact hE
  refine lv_aload_n hx hb (xb_d D_StackModule_fail 3 rfl) rfl (lv_at hl 0 rfl) ?_
  refine lv_iload_n hx hb (xb_d D_StackModule_fail 4 rfl) rfl (lv_at hl 2 rfl) ?_
  have hk1 : xb_k h2 x0 = 3 := by rw [eh2]; exact hk1
  refine xb_putI (C := R_StackModule) (T := F_StackModule) (N := 19) (ty := .int) (x := x2) hx hb 2 18 hts fin_StackModule t_StackModule t_StackModule_ok n_StackModule hown hR hS hk1 (by decide) rfl (by decide) rfl (hts _ m_5e22c58e) (fun _ h9 => h9) rfl (by decide +kernel) rfl rfl (xb_d D_StackModule_fail 5 rfl) (fun H locs hR hS => ?_)
  obtain ⟨h3, eh3⟩ : ∃ x : xb_H, x = xb_I h2 x0 18 x2 := ⟨_, rfl⟩
  rw [← eh3] at hR
  have hw := hw h3 eh3
  have hE : xb_ext h0 h3 := by rw [eh3]; exact hE
  obtain ⟨hc9, hs9, hw⟩ := hw
  exact xb_throw (names := ["java/lang/RuntimeException", "java/lang/Exception"]) hx hb (hml.trans hl.1.symm) hlocks hfl hown xsite_d36153 hB hS (show k + 1 ≤ MC by omega) (show n + 6 ≤ MS by omega) (by decide) (Nat.le_of_ble_eq_true rfl) htab (xb_d D_StackModule_fail 6 rfl) (xb_d D_StackModule_fail 7 rfl) xt_l2 (xb_d D_StackModule_fail 8 rfl) (xb_d D_StackModule_fail 9 rfl) (xb_d D_StackModule_fail 10 rfl) hE hR hw

set_option maxRecDepth 100000 in
def T_StackModule_sameBytes : List (Nat × Instr × Nat) := [(0, .iconst 0, 1), (1, .istore 5, 2), (3, .iload 5, 2), (5, .iload 4, 2), (7, .if_icmp .ge 26, 3), (10, .aload_n 0, 1), (11, .iload_n 1, 1), (12, .iload 5, 2), (14, .iadd, 1), (15, .baload, 1), (16, .aload_n 2, 1), (17, .iload_n 3, 1), (18, .iload 5, 2), (20, .iadd, 1), (21, .baload, 1), (22, .if_icmp .eq 5, 3), (25, .iconst 0, 1), (26, .ireturn, 1), (27, .iinc 5 1, 3), (30, .goto (-27), 3), (33, .iconst 1, 1), (34, .ireturn, 1)]
theorem D_StackModule_sameBytes : ∀ q ∈ T_StackModule_sameBytes, decode b_StackModule_sameBytes q.1 = .ok (q.2.1, q.2.2) := by decide +kernel
def w_StackModule_sameBytes_L3 (Qr : Int32 → xb_H → Prop) : Nat → Nat → Int32 → Nat → Int32 → Int32 → Int32 → xb_H → Prop
  | 0, _, _, _, _, _, _, _ => False
  | n9 + 1, x0, x1, x2, x3, x4, x5, h =>
    ((x4 ≤ x5 → Qr 1 h) ∧ (¬ x4 ≤ x5 → xb_k h x0 = 100 ∧ vp_in (x1 + x5) (xb_n h x0) ∧ xb_k h x2 = 100 ∧ vp_in (x3 + x5) (xb_n h x2) ∧ (((xb_i h x0 (Int32.toNatClampNeg (x1 + x5))) = (xb_i h x2 (Int32.toNatClampNeg (x3 + x5))) → w_StackModule_sameBytes_L3 Qr n9 x0 x1 x2 x3 x4 (x5 + 1) h) ∧ (¬ (xb_i h x0 (Int32.toNatClampNeg (x1 + x5))) = (xb_i h x2 (Int32.toNatClampNeg (x3 + x5))) → Qr 0 h))))

def w_StackModule_sameBytes (x0 : Nat) (x1 : Int32) (x2 : Nat) (x3 : Int32) (x4 : Int32) (h : xb_H) (Qr : Int32 → xb_H → Prop) : Prop :=
    (∃ n8 : Nat, w_StackModule_sameBytes_L3 Qr n8 x0 x1 x2 x3 x4 0 h)

set_option maxHeartbeats 4000000 in
set_option maxRecDepth 100000 in
theorem am_StackModule_sameBytes_L3 (l : Launch) (hfl : l.flags = pinnedFlags ++ [noTraceFlag]) (D : va_G) (A : Nat → Prop) (σ MC MS : Nat) (h0 : xb_H) (Qr : Int32 → xb_H → Prop) (n9 : Nat) : ∀ (x0 : Nat) (x1 : Int32) (x2 : Nat) (x3 : Int32) (x4 : Int32) (x5 : Int32) (h : xb_H), w_StackModule_sameBytes_L3 Qr n9 x0 x1 x2 x3 x4 x5 h → xb_am l D A σ 2 MC MS h0 (fun v h => ∃ r, v = some (.int r) ∧ Qr r h) (fun _ _ => False) y_StackModule_sameBytes.cls y_StackModule_sameBytes.name b_StackModule_sameBytes 6 ([] : List ExceptionTableEntry) (some .boolean) 3 [(0, .ref x0), (1, .int x1), (2, .ref x2), (3, .int x3), (4, .int x4), (5, .int x5)] [] h 0 0 := by
  induction n9 with
  | zero => intro x0 x1 x2 x3 x4 x5 h hw; exact False.elim hw
  | succ n9 ih =>
    intro x0 x1 x2 x3 x4 x5 h hw
    unfold w_StackModule_sameBytes_L3 at hw
    intro p e s m args below meth c hC H locs ls k n hE hl hR hS hk hn
    obtain ⟨hx, hb, hown, hlocks, htab, hml, hr, hB, hA, hnm⟩ := id hC
    have hts := hB.1.1.at args
    refine lv_iload hx hb (xb_d D_StackModule_sameBytes 2 rfl) (lv_at hl 5 rfl) ?_
    refine lv_iload hx hb (xb_d D_StackModule_sameBytes 3 rfl) (lv_at hl 4 rfl) ?_
    refine lv_icmp_ge (tgt := 33) hx hb (xb_d D_StackModule_sameBytes 4 rfl) rfl (fun hc1 => ?_) (fun hc1 => ?_)
    · have hw := hw.1 hc1
      refine lv_iconst (v := 1) hx hb (xb_d D_StackModule_sameBytes 20 rfl) (by decide) ?_
      exact xb_zret hx hb hr hlocks (show k ≤ MC by omega) (show n ≤ MS by omega) (by decide) hE hR hS (xb_d D_StackModule_sameBytes 21 rfl) hw
    · have hw := hw.2 hc1
      refine lv_aload_n hx hb (xb_d D_StackModule_sameBytes 5 rfl) rfl (lv_at hl 0 rfl) ?_
      refine lv_iload_n hx hb (xb_d D_StackModule_sameBytes 6 rfl) rfl (lv_at hl 1 rfl) ?_
      refine lv_iload hx hb (xb_d D_StackModule_sameBytes 7 rfl) (lv_at hl 5 rfl) ?_
      refine lv_iadd hx hb (xb_d D_StackModule_sameBytes 8 rfl) ?_
      obtain ⟨hk3, hw⟩ := hw
      obtain ⟨hi2, hw⟩ := hw
      refine xb_bald hx hb hR hk3 hi2 (xb_d D_StackModule_sameBytes 9 rfl) ?_
      refine lv_aload_n hx hb (xb_d D_StackModule_sameBytes 10 rfl) rfl (lv_at hl 2 rfl) ?_
      refine lv_iload_n hx hb (xb_d D_StackModule_sameBytes 11 rfl) rfl (lv_at hl 3 rfl) ?_
      refine lv_iload hx hb (xb_d D_StackModule_sameBytes 12 rfl) (lv_at hl 5 rfl) ?_
      refine lv_iadd hx hb (xb_d D_StackModule_sameBytes 13 rfl) ?_
      obtain ⟨hk5, hw⟩ := hw
      obtain ⟨hi4, hw⟩ := hw
      refine xb_bald hx hb hR hk5 hi4 (xb_d D_StackModule_sameBytes 14 rfl) ?_
      refine lv_icmp_eq (tgt := 27) hx hb (xb_d D_StackModule_sameBytes 15 rfl) rfl (fun hc6 => ?_) (fun hc6 => ?_)
      · have hw := hw.1 hc6
        refine lv_iinc (v := (x5 + 1)) (k := 5) hx hb (xb_d D_StackModule_sameBytes 18 rfl) hl rfl (by first | rfl | decide) (by decide) rfl (fun ls hl => ?_)
        have hl : lv_has ls 6 [(5, .int (x5 + 1)), (0, .ref x0), (1, .int x1), (2, .ref x2), (3, .int x3), (4, .int x4)] := hl
        refine lv_goto (tgt := 3) hx hb (xb_d D_StackModule_sameBytes 19 rfl) rfl ?_
        exact ih x0 x1 x2 x3 x4 (x5 + 1) h hw p e s m args below meth c hC H locs ls k n hE (lv_sub hl [1, 2, 3, 4, 5, 0] rfl) hR hS (by omega) (by omega)
      · have hw := hw.2 hc6
        refine lv_iconst (v := 0) hx hb (xb_d D_StackModule_sameBytes 16 rfl) (by decide) ?_
        exact xb_zret hx hb hr hlocks (show k ≤ MC by omega) (show n ≤ MS by omega) (by decide) hE hR hS (xb_d D_StackModule_sameBytes 17 rfl) hw

set_option maxHeartbeats 4000000 in
set_option maxRecDepth 100000 in
theorem ok_StackModule_sameBytes (l : Launch) (hfl : l.flags = pinnedFlags ++ [noTraceFlag]) (D : va_G) (A : Nat → Prop) (σ : Nat) (x0 : Nat) (x1 : Int32) (x2 : Nat) (x3 : Int32) (x4 : Int32) (h : xb_H) (Qr : Int32 → xb_H → Prop) (hw : w_StackModule_sameBytes x0 x1 x2 x3 x4 h Qr) : xt_Met l y_StackModule_sameBytes [.code y_StackModule_sameBytes b_StackModule_sameBytes 6 (some .boolean)] (xb_rm 2 0 0) (xb_Pc D A σ h [.ref x0, .int x1, .ref x2, .int x3, .int x4]) (xb_Qc D A h (fun v h => ∃ r, v = some (.int r) ∧ Qr r h) (fun _ _ => False)) 0 0 A := by
  refine xb_ofAm (cc := b_StackModule_sameBytes) (by decide) (Nat.le_of_ble_eq_true rfl) ?_
  unfold w_StackModule_sameBytes at hw
  show xb_am l D A σ 2 0 0 h (fun v h => ∃ r, v = some (.int r) ∧ Qr r h) (fun _ _ => False) y_StackModule_sameBytes.cls y_StackModule_sameBytes.name b_StackModule_sameBytes 6 ([] : List ExceptionTableEntry) (some .boolean) 0 [(0, .ref x0), (1, .int x1), (2, .ref x2), (3, .int x3), (4, .int x4)] [] h 0 0
  obtain ⟨MC, hMC⟩ : ∃ x, x = 0 := ⟨_, rfl⟩
  obtain ⟨MS, hMS⟩ : ∃ x, x = 0 := ⟨_, rfl⟩
  rw [show xb_am l D A σ 2 0 0 = xb_am l D A σ 2 MC MS by rw [hMC, hMS]]
  obtain ⟨h0, hh0⟩ : ∃ x, x = h := ⟨_, rfl⟩
  rw [show xb_am l D A σ 2 MC MS h = xb_am l D A σ 2 MC MS h0 by rw [hh0]]
  intro p e s m args below meth c hC H locs ls k n hE hl hR hS hk hn
  obtain ⟨hx, hb, hown, hlocks, htab, hml, hr, hB, hA, hnm⟩ := id hC
  have hts := hB.1.1.at args
  refine lv_iconst (v := 0) hx hb (xb_d D_StackModule_sameBytes 0 rfl) (by decide) ?_
  refine lv_istore hx hb (xb_d D_StackModule_sameBytes 1 rfl) hl (by decide) rfl (fun ls hl => ?_)
  have hl : lv_has ls 6 [(5, .int 0), (0, .ref x0), (1, .int x1), (2, .ref x2), (3, .int x3), (4, .int x4)] := hl
  obtain ⟨n8, hw⟩ := hw
  exact am_StackModule_sameBytes_L3 l hfl D A σ MC MS h0 Qr n8 x0 x1 x2 x3 x4 0 h hw p e s m args below meth c hC H locs ls k n hE (lv_sub hl [1, 2, 3, 4, 5, 0] rfl) hR hS (by omega) (by omega)

theorem m_9b75983f : (.constantLong "StackHost$Whole" 15 (-9223372036854775808) : Cond) ∈ xt_tbl := xt_in (xt_t8 (List.mem_of_getElem? (i := 158) (by decide +kernel))) (by decide +kernel)
set_option maxRecDepth 100000 in
def T_Whole_isBelow : List (Nat × Instr × Nat) := [(0, .lload_n 0, 1), (1, .ldc2_w 15, 3), (4, .lxor, 1), (5, .lload_n 2, 1), (6, .ldc2_w 15, 3), (9, .lxor, 1), (10, .lcmp, 1), (11, .ifCond .ge 7, 3), (14, .iconst 1, 1), (15, .goto 4, 3), (18, .iconst 0, 1), (19, .ireturn, 1)]
theorem D_Whole_isBelow : ∀ q ∈ T_Whole_isBelow, decode b_Whole_isBelow q.1 = .ok (q.2.1, q.2.2) := by decide +kernel
def w_Whole_isBelow_L19 (Qr : Int32 → xb_H → Prop) (y0 : Int32) (h : xb_H) : Prop :=
    (y0 = 0 ∨ y0 = 1) ∧ Qr y0 h

def w_Whole_isBelow (x0 : Int64) (x2 : Int64) (h : xb_H) (Qr : Int32 → xb_H → Prop) : Prop :=
    (((x2 ^^^ (-9223372036854775808)) ≤ (x0 ^^^ (-9223372036854775808)) → w_Whole_isBelow_L19 Qr 0 h) ∧ (¬ (x2 ^^^ (-9223372036854775808)) ≤ (x0 ^^^ (-9223372036854775808)) → w_Whole_isBelow_L19 Qr 1 h))

set_option maxHeartbeats 4000000 in
set_option maxRecDepth 100000 in
theorem am_Whole_isBelow_L19 (l : Launch) (hfl : l.flags = pinnedFlags ++ [noTraceFlag]) (D : va_G) (A : Nat → Prop) (σ MC MS : Nat) (h0 : xb_H) (Qr : Int32 → xb_H → Prop) (y0 : Int32) (h : xb_H) (hw : w_Whole_isBelow_L19 Qr y0 h) : xb_am l D A σ 2 MC MS h0 (fun v h => ∃ r, v = some (.int r) ∧ Qr r h) (fun _ _ => False) y_Whole_isBelow.cls y_Whole_isBelow.name b_Whole_isBelow 4 ([] : List ExceptionTableEntry) (some .boolean) 19 [] [.int y0] h 0 0 := by
  unfold w_Whole_isBelow_L19 at hw
  intro p e s m args below meth c hC H locs ls k n hE hl hR hS hk hn
  obtain ⟨hx, hb, hown, hlocks, htab, hml, hr, hB, hA, hnm⟩ := id hC
  have hts := hB.1.1.at args
  exact xb_zret hx hb hr hlocks (show k ≤ MC by omega) (show n ≤ MS by omega) hw.1 hE hR hS (xb_d D_Whole_isBelow 11 rfl) hw.2

set_option maxHeartbeats 4000000 in
set_option maxRecDepth 100000 in
theorem ok_Whole_isBelow (l : Launch) (hfl : l.flags = pinnedFlags ++ [noTraceFlag]) (D : va_G) (A : Nat → Prop) (σ : Nat) (x0 : Int64) (x2 : Int64) (h : xb_H) (Qr : Int32 → xb_H → Prop) (hw : w_Whole_isBelow x0 x2 h Qr) : xt_Met l y_Whole_isBelow [.code y_Whole_isBelow b_Whole_isBelow 4 (some .boolean)] (xb_rm 2 0 0) (xb_Pc D A σ h [.long x0, .long x2]) (xb_Qc D A h (fun v h => ∃ r, v = some (.int r) ∧ Qr r h) (fun _ _ => False)) 0 0 A := by
  refine xb_ofAm (cc := b_Whole_isBelow) (by decide) (Nat.le_of_ble_eq_true rfl) ?_
  unfold w_Whole_isBelow at hw
  show xb_am l D A σ 2 0 0 h (fun v h => ∃ r, v = some (.int r) ∧ Qr r h) (fun _ _ => False) y_Whole_isBelow.cls y_Whole_isBelow.name b_Whole_isBelow 4 ([] : List ExceptionTableEntry) (some .boolean) 0 [(0, .long x0), (2, .long x2)] [] h 0 0
  obtain ⟨MC, hMC⟩ : ∃ x, x = 0 := ⟨_, rfl⟩
  obtain ⟨MS, hMS⟩ : ∃ x, x = 0 := ⟨_, rfl⟩
  rw [show xb_am l D A σ 2 0 0 = xb_am l D A σ 2 MC MS by rw [hMC, hMS]]
  obtain ⟨h0, hh0⟩ : ∃ x, x = h := ⟨_, rfl⟩
  rw [show xb_am l D A σ 2 MC MS h = xb_am l D A σ 2 MC MS h0 by rw [hh0]]
  intro p e s m args below meth c hC H locs ls k n hE hl hR hS hk hn
  obtain ⟨hx, hb, hown, hlocks, htab, hml, hr, hB, hA, hnm⟩ := id hC
  have hts := hB.1.1.at args
  refine lv_lload_n hx hb (xb_d D_Whole_isBelow 0 rfl) rfl (lv_at hl 0 rfl) ?_
  refine lv_ldc2 (v := (-9223372036854775808)) hx hb hown (hts _ m_9b75983f) (xb_d D_Whole_isBelow 1 rfl) ?_
  refine lv_lxor hx hb (xb_d D_Whole_isBelow 2 rfl) ?_
  refine lv_lload_n hx hb (xb_d D_Whole_isBelow 3 rfl) rfl (lv_at hl 1 rfl) ?_
  refine lv_ldc2 (v := (-9223372036854775808)) hx hb hown (hts _ m_9b75983f) (xb_d D_Whole_isBelow 4 rfl) ?_
  refine lv_lxor hx hb (xb_d D_Whole_isBelow 5 rfl) ?_
  refine xb_lc_ge (tgt := 18) hx hb (xb_d D_Whole_isBelow 6 rfl) (xb_d D_Whole_isBelow 7 rfl) rfl (fun hc1 => ?_) (fun hc1 => ?_)
  · have hw := hw.1 hc1
    refine lv_iconst (v := 0) hx hb (xb_d D_Whole_isBelow 10 rfl) (by decide) ?_
    exact am_Whole_isBelow_L19 l hfl D A σ MC MS h0 Qr 0 h hw p e s m args below meth c hC H locs ls k n hE (lv_sub hl [] rfl) hR hS (by omega) (by omega)
  · have hw := hw.2 hc1
    refine lv_iconst (v := 1) hx hb (xb_d D_Whole_isBelow 8 rfl) (by decide) ?_
    refine lv_goto (tgt := 19) hx hb (xb_d D_Whole_isBelow 9 rfl) rfl ?_
    exact am_Whole_isBelow_L19 l hfl D A σ MC MS h0 Qr 1 h hw p e s m args below meth c hC H locs ls k n hE (lv_sub hl [] rfl) hR hS (by omega) (by omega)

theorem m_a9b84ac2 : (.fieldLink "StackHost$Reader" 41 "StackHost$Reader" "at" "I" : Cond) ∈ xt_tbl := xt_in (xt_t1 (List.mem_of_getElem? (i := 53) (by decide +kernel))) (by decide +kernel)
theorem m_d1ba4be8 : (.fieldLink "StackHost$Reader" 25 "StackHost$Reader" "code" "[B" : Cond) ∈ xt_tbl := xt_in (xt_t1 (List.mem_of_getElem? (i := 51) (by decide +kernel))) (by decide +kernel)
theorem m_76d8349c : (.fieldLink "StackHost$Reader" 15 "StackHost$Reader" "into" "LStackHost$StackModule;" : Cond) ∈ xt_tbl := xt_in (xt_t1 (List.mem_of_getElem? (i := 50) (by decide +kernel))) (by decide +kernel)
theorem m_6fcde429 : (.methodLink "StackHost$Reader" 37 y_StackModule_fail : Cond) ∈ xt_tbl := xt_in (xt_t3 (List.mem_of_getElem? (i := 173) (by decide +kernel))) (by decide +kernel)
theorem m_865d5b07 : (.instanceMethod y_StackModule_fail : Cond) ∈ xt_tbl := xt_in (xt_t3 (List.mem_of_getElem? (i := 174) (by decide +kernel))) (by decide +kernel)
theorem m_113f8f75 : (.selects "StackHost$StackModule" y_StackModule_fail y_StackModule_fail : Cond) ∈ xt_tbl := xt_in (xt_t3 (List.mem_of_getElem? (i := 175) (by decide +kernel))) (by decide +kernel)
theorem m_73e65e5f : (.code y_StackModule_fail b_StackModule_fail 3 none : Cond) ∈ xt_tbl := xt_in (xt_t3 (List.mem_of_getElem? (i := 176) (by decide +kernel))) (by decide +kernel)
theorem m_9c375545 : (.initialized "StackHost$StackModule" : Cond) ∈ xt_tbl := xt_in (xt_t1 (List.mem_of_getElem? (i := 18) (by decide +kernel))) (by decide +kernel)
theorem m_49916c4b : (.fieldLink "StackHost$Reader" 30 "StackHost$Reader" "limit" "I" : Cond) ∈ xt_tbl := xt_in (xt_t1 (List.mem_of_getElem? (i := 54) (by decide +kernel))) (by decide +kernel)
theorem nm_StackModule_fail : xt_nm y_StackModule_fail 2 := ⟨by decide +kernel, by decide +kernel⟩
set_option maxRecDepth 100000 in
def T_Reader_count : List (Nat × Instr × Nat) := [(0, .iconst 0, 1), (1, .istore_n 1, 1), (2, .iconst 0, 1), (3, .istore_n 2, 1), (4, .iload_n 2, 1), (5, .iconst 5, 1), (6, .if_icmp .ge 101, 3), (9, .aload_n 0, 1), (10, .getfield 41, 3), (13, .aload_n 0, 1), (14, .getfield 30, 3), (17, .if_icmp .lt 15, 3), (20, .aload_n 0, 1), (21, .getfield 15, 3), (24, .iconst 2, 1), (25, .aload_n 0, 1), (26, .getfield 30, 3), (29, .invokevirtual 37, 3), (32, .aload_n 0, 1), (33, .getfield 25, 3), (36, .aload_n 0, 1), (37, .getfield 41, 3), (40, .baload, 1), (41, .sipush 255, 3), (44, .iand, 1), (45, .istore_n 3, 1), (46, .iload_n 2, 1), (47, .iconst 4, 1), (48, .if_icmp .ne 21, 3), (51, .iload_n 3, 1), (52, .bipush 15, 2), (54, .if_icmp .le 15, 3), (57, .aload_n 0, 1), (58, .getfield 15, 3), (61, .iconst 3, 1), (62, .aload_n 0, 1), (63, .getfield 41, 3), (66, .invokevirtual 37, 3), (69, .aload_n 0, 1), (70, .dup, 1), (71, .getfield 41, 3), (74, .iconst 1, 1), (75, .iadd, 1), (76, .putfield 41, 3), (79, .iload_n 1, 1), (80, .iload_n 3, 1), (81, .bipush 127, 2), (83, .iand, 1), (84, .bipush 7, 2), (86, .iload_n 2, 1), (87, .imul, 1), (88, .ishl, 1), (89, .ior, 1), (90, .istore_n 1, 1), (91, .iload_n 3, 1), (92, .sipush 128, 3), (95, .if_icmp .ge 6, 3), (98, .goto 9, 3), (101, .iinc 2 1, 3), (104, .goto (-100), 3), (107, .iload_n 1, 1), (108, .ireturn, 1)]
theorem D_Reader_count : ∀ q ∈ T_Reader_count, decode b_Reader_count q.1 = .ok (q.2.1, q.2.2) := by decide +kernel
def w_Reader_count_L107 (Qr : Int32 → xb_H → Prop) (Qt : String → xb_H → Prop) (x1 : Int32) (h : xb_H) (bc : Nat) (bs : Nat) : Prop :=
    Qr x1 h

def w_Reader_count_L69 (K4 : Nat → Int32 → Int32 → xb_H → Nat → Nat → Prop) (Qr : Int32 → xb_H → Prop) (Qt : String → xb_H → Prop) (x0 : Nat) (x1 : Int32) (x2 : Int32) (x3 : Int32) (h : xb_H) (bc : Nat) (bs : Nat) : Prop :=
    xb_k h x0 = 4 ∧ ∀ h2 : xb_H, h2 = xb_I h x0 3 ((xb_i h x0 3) + 1) → ∀ v3 : Int32, v3 = (x1 ||| ((x3 &&& 127) <<< ((7 * x2) &&& 31))) → (((128 : Int32) ≤ x3 → K4 x0 v3 (x2 + 1) h2 bc bs) ∧ (¬ (128 : Int32) ≤ x3 → w_Reader_count_L107 Qr Qt v3 h2 bc bs))

def w_Reader_count_L32 (K4 : Nat → Int32 → Int32 → xb_H → Nat → Nat → Prop) (Qr : Int32 → xb_H → Prop) (Qt : String → xb_H → Prop) (x0 : Nat) (x1 : Int32) (x2 : Int32) (h : xb_H) (bc : Nat) (bs : Nat) : Prop :=
    xb_k h x0 = 4 ∧ ∃ b2 : Nat, (xb_r h x0 1) = some b2 ∧ xb_k h b2 = 100 ∧ vp_in (xb_i h x0 3) (xb_n h b2) ∧ ∀ v5 : Int32, v5 = ((xb_i h b2 (Int32.toNatClampNeg (xb_i h x0 3))) &&& 255) → ((¬ x2 = (4 : Int32) → w_Reader_count_L69 K4 Qr Qt x0 x1 x2 v5 h bc bs) ∧ (x2 = (4 : Int32) → ((v5 ≤ (15 : Int32) → w_Reader_count_L69 K4 Qr Qt x0 x1 x2 v5 h bc bs) ∧ (¬ v5 ≤ (15 : Int32) → ∃ b8 : Nat, (xb_r h x0 0) = some b8 ∧ xb_k h b8 = 3 ∧ ∃ c12 sc12 : Nat, c12 ≤ bc ∧ sc12 ≤ bs ∧ w_StackModule_fail b8 3 (xb_i h x0 3) h c12 sc12 (fun (h10 : xb_H) => xb_ext h h10 → w_Reader_count_L69 K4 Qr Qt x0 x1 x2 v5 h10 (bc - c12) (bs - sc12)) Qt))))

def w_Reader_count_L4 (Qr : Int32 → xb_H → Prop) (Qt : String → xb_H → Prop) : Nat → Nat → Int32 → Int32 → xb_H → Nat → Nat → Prop
  | 0, _, _, _, _, _, _ => False
  | n9 + 1, x0, x1, x2, h, bc, bs =>
    (((5 : Int32) ≤ x2 → w_Reader_count_L107 Qr Qt x1 h bc bs) ∧ (¬ (5 : Int32) ≤ x2 → xb_k h x0 = 4 ∧ (((xb_i h x0 3) < (xb_i h x0 4) → w_Reader_count_L32 (w_Reader_count_L4 Qr Qt n9) Qr Qt x0 x1 x2 h bc bs) ∧ (¬ (xb_i h x0 3) < (xb_i h x0 4) → ∃ b4 : Nat, (xb_r h x0 0) = some b4 ∧ xb_k h b4 = 3 ∧ ∃ c8 sc8 : Nat, c8 ≤ bc ∧ sc8 ≤ bs ∧ w_StackModule_fail b4 2 (xb_i h x0 4) h c8 sc8 (fun (h6 : xb_H) => xb_ext h h6 → w_Reader_count_L32 (w_Reader_count_L4 Qr Qt n9) Qr Qt x0 x1 x2 h6 (bc - c8) (bs - sc8)) Qt))))

def w_Reader_count (x0 : Nat) (h : xb_H) (bc : Nat) (bs : Nat) (Qr : Int32 → xb_H → Prop) (Qt : String → xb_H → Prop) : Prop :=
    (∃ n8 : Nat, w_Reader_count_L4 Qr Qt n8 x0 0 0 h bc bs)

set_option maxHeartbeats 4000000 in
set_option maxRecDepth 100000 in
theorem am_Reader_count_L107 (l : Launch) (hfl : l.flags = pinnedFlags ++ [noTraceFlag]) (D : va_G) (A : Nat → Prop) (σ MC MS : Nat) (h0 : xb_H) (Qr : Int32 → xb_H → Prop) (Qt : String → xb_H → Prop) (x1 : Int32) (h : xb_H) (bc : Nat) (bs : Nat) (hw : w_Reader_count_L107 Qr Qt x1 h bc bs) : xb_am l D A σ 3 MC MS h0 (fun v h => ∃ r, v = some (.int r) ∧ Qr r h) Qt y_Reader_count.cls y_Reader_count.name b_Reader_count 4 ([] : List ExceptionTableEntry) (some .int) 107 [(1, .int x1)] [] h bc bs := by
  unfold w_Reader_count_L107 at hw
  intro p e s m args below meth c hC H locs ls k n hE hl hR hS hk hn
  obtain ⟨hx, hb, hown, hlocks, htab, hml, hr, hB, hA, hnm⟩ := id hC
  have hts := hB.1.1.at args
  refine lv_iload_n hx hb (xb_d D_Reader_count 60 rfl) rfl (lv_at hl 0 rfl) ?_
  exact xb_iret hx hb hr hlocks (show k ≤ MC by omega) (show n ≤ MS by omega) hE hR hS (xb_d D_Reader_count 61 rfl) hw

set_option maxHeartbeats 4000000 in
set_option maxRecDepth 100000 in
theorem am_Reader_count_L69 (l : Launch) (hfl : l.flags = pinnedFlags ++ [noTraceFlag]) (D : va_G) (A : Nat → Prop) (σ MC MS : Nat) (h0 : xb_H) (Qr : Int32 → xb_H → Prop) (Qt : String → xb_H → Prop) (K4 : Nat → Int32 → Int32 → xb_H → Nat → Nat → Prop) (hK4 : ∀ (x0 : Nat) (x1 : Int32) (x2 : Int32) (h : xb_H) (bc : Nat) (bs : Nat), K4 x0 x1 x2 h bc bs → xb_am l D A σ 3 MC MS h0 (fun v h => ∃ r, v = some (.int r) ∧ Qr r h) Qt y_Reader_count.cls y_Reader_count.name b_Reader_count 4 ([] : List ExceptionTableEntry) (some .int) 4 [(0, .ref x0), (1, .int x1), (2, .int x2)] [] h bc bs) (x0 : Nat) (x1 : Int32) (x2 : Int32) (x3 : Int32) (h : xb_H) (bc : Nat) (bs : Nat) (hw : w_Reader_count_L69 K4 Qr Qt x0 x1 x2 x3 h bc bs) : xb_am l D A σ 3 MC MS h0 (fun v h => ∃ r, v = some (.int r) ∧ Qr r h) Qt y_Reader_count.cls y_Reader_count.name b_Reader_count 4 ([] : List ExceptionTableEntry) (some .int) 69 [(0, .ref x0), (1, .int x1), (2, .int x2), (3, .int x3)] [] h bc bs := by
  unfold w_Reader_count_L69 at hw
  intro p e s m args below meth c hC H locs ls k n hE hl hR hS hk hn
  obtain ⟨hx, hb, hown, hlocks, htab, hml, hr, hB, hA, hnm⟩ := id hC
  have hts := hB.1.1.at args
  refine lv_aload_n hx hb (xb_d D_Reader_count 38 rfl) rfl (lv_at hl 0 rfl) ?_
  refine lv_dup hx hb (xb_d D_Reader_count 39 rfl) rfl ?_
  obtain ⟨hk1, hw⟩ := hw
  refine xb_getI (C := R_Reader) (T := F_Reader) (N := 6) hx hb 3 3 hts fin_Reader hown hR hk1 (by decide) rfl (by decide) rfl (hts _ m_a9b84ac2) (fun _ h9 => h9) (xb_d D_Reader_count 40 rfl) ?_
  refine lv_iconst (v := 1) hx hb (xb_d D_Reader_count 41 rfl) (by decide) ?_
  refine lv_iadd hx hb (xb_d D_Reader_count 42 rfl) ?_
  refine xb_putI (C := R_Reader) (T := F_Reader) (N := 6) (ty := .int) (x := ((xb_i h x0 3) + 1)) hx hb 3 3 hts fin_Reader t_Reader t_Reader_ok n_Reader hown hR hS hk1 (by decide) rfl (by decide) rfl (hts _ m_a9b84ac2) (fun _ h9 => h9) rfl (by decide +kernel) rfl rfl (xb_d D_Reader_count 43 rfl) (fun H locs hR hS => ?_)
  obtain ⟨h2, eh2⟩ : ∃ x : xb_H, x = xb_I h x0 3 ((xb_i h x0 3) + 1) := ⟨_, rfl⟩
  rw [← eh2] at hR
  have hw := hw h2 eh2
  have hE : xb_ext h0 h2 := by rw [eh2]; exact hE
  refine lv_iload_n hx hb (xb_d D_Reader_count 44 rfl) rfl (lv_at hl 1 rfl) ?_
  refine lv_iload_n hx hb (xb_d D_Reader_count 45 rfl) rfl (lv_at hl 3 rfl) ?_
  refine lv_bipush (v := 127) hx hb (xb_d D_Reader_count 46 rfl) (by decide) ?_
  refine lv_iand hx hb (xb_d D_Reader_count 47 rfl) ?_
  refine lv_bipush (v := 7) hx hb (xb_d D_Reader_count 48 rfl) (by decide) ?_
  refine lv_iload_n hx hb (xb_d D_Reader_count 49 rfl) rfl (lv_at hl 2 rfl) ?_
  refine lv_imul hx hb (xb_d D_Reader_count 50 rfl) ?_
  refine lv_ishl hx hb (xb_d D_Reader_count 51 rfl) ?_
  refine lv_ior hx hb (xb_d D_Reader_count 52 rfl) ?_
  obtain ⟨v3, ev3⟩ : ∃ x : Int32, x = (x1 ||| ((x3 &&& 127) <<< ((7 * x2) &&& 31))) := ⟨_, rfl⟩
  have hw := hw v3 ev3
  refine xt_numi (y := v3) ev3.symm ?_
  refine lv_istore_n hx hb (xb_d D_Reader_count 53 rfl) rfl hl (by decide) rfl (fun ls hl => ?_)
  have hl : lv_has ls 4 [(1, .int v3), (0, .ref x0), (2, .int x2), (3, .int x3)] := hl
  refine lv_iload_n hx hb (xb_d D_Reader_count 54 rfl) rfl (lv_at hl 3 rfl) ?_
  refine lv_sipush (v := 128) hx hb (xb_d D_Reader_count 55 rfl) (by decide) ?_
  refine lv_icmp_ge (tgt := 101) hx hb (xb_d D_Reader_count 56 rfl) rfl (fun hc4 => ?_) (fun hc4 => ?_)
  · have hw := hw.1 hc4
    refine lv_iinc (v := (x2 + 1)) (k := 2) hx hb (xb_d D_Reader_count 58 rfl) hl rfl (by first | rfl | decide) (by decide) rfl (fun ls hl => ?_)
    have hl : lv_has ls 4 [(2, .int (x2 + 1)), (1, .int v3), (0, .ref x0), (3, .int x3)] := hl
    refine lv_goto (tgt := 4) hx hb (xb_d D_Reader_count 59 rfl) rfl ?_
    exact hK4 x0 v3 (x2 + 1) h2 bc bs hw p e s m args below meth c hC H locs ls k n hE (lv_sub hl [2, 1, 0] rfl) hR hS (by omega) (by omega)
  · have hw := hw.2 hc4
    refine lv_goto (tgt := 107) hx hb (xb_d D_Reader_count 57 rfl) rfl ?_
    exact am_Reader_count_L107 l hfl D A σ MC MS h0 Qr Qt v3 h2 bc bs hw p e s m args below meth c hC H locs ls k n hE (lv_sub hl [0] rfl) hR hS (by omega) (by omega)

set_option maxHeartbeats 4000000 in
set_option maxRecDepth 100000 in
theorem am_Reader_count_L32 (l : Launch) (hfl : l.flags = pinnedFlags ++ [noTraceFlag]) (D : va_G) (A : Nat → Prop) (σ MC MS : Nat) (h0 : xb_H) (Qr : Int32 → xb_H → Prop) (Qt : String → xb_H → Prop) (K4 : Nat → Int32 → Int32 → xb_H → Nat → Nat → Prop) (hK4 : ∀ (x0 : Nat) (x1 : Int32) (x2 : Int32) (h : xb_H) (bc : Nat) (bs : Nat), K4 x0 x1 x2 h bc bs → xb_am l D A σ 3 MC MS h0 (fun v h => ∃ r, v = some (.int r) ∧ Qr r h) Qt y_Reader_count.cls y_Reader_count.name b_Reader_count 4 ([] : List ExceptionTableEntry) (some .int) 4 [(0, .ref x0), (1, .int x1), (2, .int x2)] [] h bc bs) (x0 : Nat) (x1 : Int32) (x2 : Int32) (h : xb_H) (bc : Nat) (bs : Nat) (hw : w_Reader_count_L32 K4 Qr Qt x0 x1 x2 h bc bs) : xb_am l D A σ 3 MC MS h0 (fun v h => ∃ r, v = some (.int r) ∧ Qr r h) Qt y_Reader_count.cls y_Reader_count.name b_Reader_count 4 ([] : List ExceptionTableEntry) (some .int) 32 [(0, .ref x0), (1, .int x1), (2, .int x2)] [] h bc bs := by
  unfold w_Reader_count_L32 at hw
  intro p e s m args below meth c hC H locs ls k n hE hl hR hS hk hn
  obtain ⟨hx, hb, hown, hlocks, htab, hml, hr, hB, hA, hnm⟩ := id hC
  have hts := hB.1.1.at args
  refine lv_aload_n hx hb (xb_d D_Reader_count 18 rfl) rfl (lv_at hl 0 rfl) ?_
  obtain ⟨hk1, hw⟩ := hw
  refine xb_getP (C := R_Reader) (T := F_Reader) (N := 6) hx hb 3 1 hts fin_Reader hown hR hk1 (by decide) rfl (by decide) rfl (hts _ m_d1ba4be8) (fun _ h9 => h9) (xb_d D_Reader_count 19 rfl) ?_
  obtain ⟨b2, eb2, hw⟩ := hw
  refine xb_some eb2 ?_
  refine lv_aload_n hx hb (xb_d D_Reader_count 20 rfl) rfl (lv_at hl 0 rfl) ?_
  refine xb_getI (C := R_Reader) (T := F_Reader) (N := 6) hx hb 3 3 hts fin_Reader hown hR hk1 (by decide) rfl (by decide) rfl (hts _ m_a9b84ac2) (fun _ h9 => h9) (xb_d D_Reader_count 21 rfl) ?_
  obtain ⟨hk4, hw⟩ := hw
  obtain ⟨hi3, hw⟩ := hw
  refine xb_bald hx hb hR hk4 hi3 (xb_d D_Reader_count 22 rfl) ?_
  refine lv_sipush (v := 255) hx hb (xb_d D_Reader_count 23 rfl) (by decide) ?_
  refine lv_iand hx hb (xb_d D_Reader_count 24 rfl) ?_
  obtain ⟨v5, ev5⟩ : ∃ x : Int32, x = ((xb_i h b2 (Int32.toNatClampNeg (xb_i h x0 3))) &&& 255) := ⟨_, rfl⟩
  have hw := hw v5 ev5
  refine xt_numi (y := v5) ev5.symm ?_
  refine lv_istore_n hx hb (xb_d D_Reader_count 25 rfl) rfl hl (by decide) rfl (fun ls hl => ?_)
  have hl : lv_has ls 4 [(3, .int v5), (0, .ref x0), (1, .int x1), (2, .int x2)] := hl
  refine lv_iload_n hx hb (xb_d D_Reader_count 26 rfl) rfl (lv_at hl 3 rfl) ?_
  refine lv_iconst (v := 4) hx hb (xb_d D_Reader_count 27 rfl) (by decide) ?_
  refine lv_icmp_ne (tgt := 69) hx hb (xb_d D_Reader_count 28 rfl) rfl (fun hc6 => ?_) (fun hc6 => ?_)
  · have hw := hw.1 hc6
    exact am_Reader_count_L69 l hfl D A σ MC MS h0 Qr Qt K4 hK4 x0 x1 x2 v5 h bc bs hw p e s m args below meth c hC H locs ls k n hE (lv_sub hl [1, 2, 3, 0] rfl) hR hS (by omega) (by omega)
  · have hw := hw.2 hc6
    refine lv_iload_n hx hb (xb_d D_Reader_count 29 rfl) rfl (lv_at hl 0 rfl) ?_
    refine lv_bipush (v := 15) hx hb (xb_d D_Reader_count 30 rfl) (by decide) ?_
    refine lv_icmp_le (tgt := 69) hx hb (xb_d D_Reader_count 31 rfl) rfl (fun hc7 => ?_) (fun hc7 => ?_)
    · have hw := hw.1 hc7
      exact am_Reader_count_L69 l hfl D A σ MC MS h0 Qr Qt K4 hK4 x0 x1 x2 v5 h bc bs hw p e s m args below meth c hC H locs ls k n hE (lv_sub hl [1, 2, 3, 0] rfl) hR hS (by omega) (by omega)
    · have hw := hw.2 hc7
      refine lv_aload_n hx hb (xb_d D_Reader_count 32 rfl) rfl (lv_at hl 1 rfl) ?_
      refine xb_getP (C := R_Reader) (T := F_Reader) (N := 6) hx hb 3 0 hts fin_Reader hown hR hk1 (by decide) rfl (by decide) rfl (hts _ m_76d8349c) (fun _ h9 => h9) (xb_d D_Reader_count 33 rfl) ?_
      obtain ⟨b8, eb8, hw⟩ := hw
      refine xb_some eb8 ?_
      refine lv_iconst (v := 3) hx hb (xb_d D_Reader_count 34 rfl) (by decide) ?_
      refine lv_aload_n hx hb (xb_d D_Reader_count 35 rfl) rfl (lv_at hl 1 rfl) ?_
      refine xb_getI (C := R_Reader) (T := F_Reader) (N := 6) hx hb 3 3 hts fin_Reader hown hR hk1 (by decide) rfl (by decide) rfl (hts _ m_a9b84ac2) (fun _ h9 => h9) (xb_d D_Reader_count 36 rfl) ?_
      obtain ⟨hk9, hw⟩ := hw
      obtain ⟨c12, sc12, hlc12, hlsc12, hw⟩ := hw
      refine xb_call (D := D) (A := A) (σ := σ) (h := h) (d := 2) (mc := c12) (ms := sc12) (maxL := 3) (rest := []) (av := [.ref b8, .int 3, .int (xb_i h x0 3)]) (fun T hT X => by obtain ⟨cb, r1, r2, r3⟩ := xb_recv (ci := 2) hR rfl hk9 (by decide); exact xt_invV X hx hown (hts _ m_6fcde429) (hts _ m_865d5b07) (hts _ m_113f8f75) (xt_sigOf (hts _ m_73e65e5f)) nm_StackModule_fail (by rw [hT]; exact r1) r2 r3 (g := F0 m 66 ls [.int (xb_i h x0 3), .int 3, .ref b8]) rfl (argsL := [.int 3, .int (xb_i h x0 3)]) (rest := []) rfl rfl (by rw [hb]; exact (xb_d D_Reader_count 37 rfl))) (ok_StackModule_fail l hfl D A σ b8 3 (xb_i h x0 3) h c12 sc12 _ _ hw) (hml.trans hl.1.symm) (by rw [hb]; exact (xb_d D_Reader_count 37 rfl)) (Nat.le_of_ble_eq_true rfl) (Nat.le_of_ble_eq_true rfl) (Nat.le_of_ble_eq_true rfl) (show k + c12 ≤ MC by omega) (show n + sc12 ≤ MS by omega) (xt_w1 hB.1 m_73e65e5f) (xt_cdOf hB.1 m_73e65e5f) (hts _ m_9c375545) hB hR hS hA (fun vv h10 H locs hq hEh10 hR hS => ?_) (fun XX ax h10 H locs hq hEh10 hex hR hS => ?_)
      · obtain ⟨rfl, hw⟩ := hq
        have hw := hw hEh10
        have hE := hE.tr hEh10
        refine W.eq (g2 := F0 m 69 ls []) rfl ?_
        exact am_Reader_count_L69 l hfl D A σ MC MS h0 Qr Qt K4 hK4 x0 x1 x2 v5 h10 (bc - c12) (bs - sc12) hw p e s m args below meth c hC H locs ls (k + c12) (n + sc12) hE (lv_sub hl [1, 2, 3, 0] rfl) hR hS (by omega) (by omega)
      · exact xb_pass hlocks (fun x hx9 => by rw [htab] at hx9; first | cases hx9 | (simp [tableOf] at hx9; rcases hx9 with rfl | rfl | rfl <;> decide)) (show (k + c12) ≤ MC by omega) (show (n + sc12) ≤ MS by omega) (hE.tr hEh10) hR hS hex hq

set_option maxHeartbeats 4000000 in
set_option maxRecDepth 100000 in
theorem am_Reader_count_L4 (l : Launch) (hfl : l.flags = pinnedFlags ++ [noTraceFlag]) (D : va_G) (A : Nat → Prop) (σ MC MS : Nat) (h0 : xb_H) (Qr : Int32 → xb_H → Prop) (Qt : String → xb_H → Prop) (n9 : Nat) : ∀ (x0 : Nat) (x1 : Int32) (x2 : Int32) (h : xb_H) (bc : Nat) (bs : Nat), w_Reader_count_L4 Qr Qt n9 x0 x1 x2 h bc bs → xb_am l D A σ 3 MC MS h0 (fun v h => ∃ r, v = some (.int r) ∧ Qr r h) Qt y_Reader_count.cls y_Reader_count.name b_Reader_count 4 ([] : List ExceptionTableEntry) (some .int) 4 [(0, .ref x0), (1, .int x1), (2, .int x2)] [] h bc bs := by
  induction n9 with
  | zero => intro x0 x1 x2 h bc bs hw; exact False.elim hw
  | succ n9 ih =>
    intro x0 x1 x2 h bc bs hw
    unfold w_Reader_count_L4 at hw
    intro p e s m args below meth c hC H locs ls k n hE hl hR hS hk hn
    obtain ⟨hx, hb, hown, hlocks, htab, hml, hr, hB, hA, hnm⟩ := id hC
    have hts := hB.1.1.at args
    refine lv_iload_n hx hb (xb_d D_Reader_count 4 rfl) rfl (lv_at hl 2 rfl) ?_
    refine lv_iconst (v := 5) hx hb (xb_d D_Reader_count 5 rfl) (by decide) ?_
    refine lv_icmp_ge (tgt := 107) hx hb (xb_d D_Reader_count 6 rfl) rfl (fun hc1 => ?_) (fun hc1 => ?_)
    · have hw := hw.1 hc1
      exact am_Reader_count_L107 l hfl D A σ MC MS h0 Qr Qt x1 h bc bs hw p e s m args below meth c hC H locs ls k n hE (lv_sub hl [1] rfl) hR hS (by omega) (by omega)
    · have hw := hw.2 hc1
      refine lv_aload_n hx hb (xb_d D_Reader_count 7 rfl) rfl (lv_at hl 0 rfl) ?_
      obtain ⟨hk2, hw⟩ := hw
      refine xb_getI (C := R_Reader) (T := F_Reader) (N := 6) hx hb 3 3 hts fin_Reader hown hR hk2 (by decide) rfl (by decide) rfl (hts _ m_a9b84ac2) (fun _ h9 => h9) (xb_d D_Reader_count 8 rfl) ?_
      refine lv_aload_n hx hb (xb_d D_Reader_count 9 rfl) rfl (lv_at hl 0 rfl) ?_
      refine xb_getI (C := R_Reader) (T := F_Reader) (N := 6) hx hb 3 4 hts fin_Reader hown hR hk2 (by decide) rfl (by decide) rfl (hts _ m_49916c4b) (fun _ h9 => h9) (xb_d D_Reader_count 10 rfl) ?_
      refine lv_icmp_lt (tgt := 32) hx hb (xb_d D_Reader_count 11 rfl) rfl (fun hc3 => ?_) (fun hc3 => ?_)
      · have hw := hw.1 hc3
        exact am_Reader_count_L32 l hfl D A σ MC MS h0 Qr Qt (w_Reader_count_L4 Qr Qt n9) ih x0 x1 x2 h bc bs hw p e s m args below meth c hC H locs ls k n hE (lv_sub hl [0, 1, 2] rfl) hR hS (by omega) (by omega)
      · have hw := hw.2 hc3
        refine lv_aload_n hx hb (xb_d D_Reader_count 12 rfl) rfl (lv_at hl 0 rfl) ?_
        refine xb_getP (C := R_Reader) (T := F_Reader) (N := 6) hx hb 3 0 hts fin_Reader hown hR hk2 (by decide) rfl (by decide) rfl (hts _ m_76d8349c) (fun _ h9 => h9) (xb_d D_Reader_count 13 rfl) ?_
        obtain ⟨b4, eb4, hw⟩ := hw
        refine xb_some eb4 ?_
        refine lv_iconst (v := 2) hx hb (xb_d D_Reader_count 14 rfl) (by decide) ?_
        refine lv_aload_n hx hb (xb_d D_Reader_count 15 rfl) rfl (lv_at hl 0 rfl) ?_
        refine xb_getI (C := R_Reader) (T := F_Reader) (N := 6) hx hb 3 4 hts fin_Reader hown hR hk2 (by decide) rfl (by decide) rfl (hts _ m_49916c4b) (fun _ h9 => h9) (xb_d D_Reader_count 16 rfl) ?_
        obtain ⟨hk5, hw⟩ := hw
        obtain ⟨c8, sc8, hlc8, hlsc8, hw⟩ := hw
        refine xb_call (D := D) (A := A) (σ := σ) (h := h) (d := 2) (mc := c8) (ms := sc8) (maxL := 3) (rest := []) (av := [.ref b4, .int 2, .int (xb_i h x0 4)]) (fun T hT X => by obtain ⟨cb, r1, r2, r3⟩ := xb_recv (ci := 2) hR rfl hk5 (by decide); exact xt_invV X hx hown (hts _ m_6fcde429) (hts _ m_865d5b07) (hts _ m_113f8f75) (xt_sigOf (hts _ m_73e65e5f)) nm_StackModule_fail (by rw [hT]; exact r1) r2 r3 (g := F0 m 29 ls [.int (xb_i h x0 4), .int 2, .ref b4]) rfl (argsL := [.int 2, .int (xb_i h x0 4)]) (rest := []) rfl rfl (by rw [hb]; exact (xb_d D_Reader_count 17 rfl))) (ok_StackModule_fail l hfl D A σ b4 2 (xb_i h x0 4) h c8 sc8 _ _ hw) (hml.trans hl.1.symm) (by rw [hb]; exact (xb_d D_Reader_count 17 rfl)) (Nat.le_of_ble_eq_true rfl) (Nat.le_of_ble_eq_true rfl) (Nat.le_of_ble_eq_true rfl) (show k + c8 ≤ MC by omega) (show n + sc8 ≤ MS by omega) (xt_w1 hB.1 m_73e65e5f) (xt_cdOf hB.1 m_73e65e5f) (hts _ m_9c375545) hB hR hS hA (fun vv h6 H locs hq hEh6 hR hS => ?_) (fun XX ax h6 H locs hq hEh6 hex hR hS => ?_)
        · obtain ⟨rfl, hw⟩ := hq
          have hw := hw hEh6
          have hE := hE.tr hEh6
          refine W.eq (g2 := F0 m 32 ls []) rfl ?_
          exact am_Reader_count_L32 l hfl D A σ MC MS h0 Qr Qt (w_Reader_count_L4 Qr Qt n9) ih x0 x1 x2 h6 (bc - c8) (bs - sc8) hw p e s m args below meth c hC H locs ls (k + c8) (n + sc8) hE (lv_sub hl [0, 1, 2] rfl) hR hS (by omega) (by omega)
        · exact xb_pass hlocks (fun x hx9 => by rw [htab] at hx9; first | cases hx9 | (simp [tableOf] at hx9; rcases hx9 with rfl | rfl | rfl <;> decide)) (show (k + c8) ≤ MC by omega) (show (n + sc8) ≤ MS by omega) (hE.tr hEh6) hR hS hex hq

set_option maxHeartbeats 4000000 in
set_option maxRecDepth 100000 in
theorem ok_Reader_count (l : Launch) (hfl : l.flags = pinnedFlags ++ [noTraceFlag]) (D : va_G) (A : Nat → Prop) (σ : Nat) (x0 : Nat) (h : xb_H) (bc : Nat) (bs : Nat) (Qr : Int32 → xb_H → Prop) (Qt : String → xb_H → Prop) (hw : w_Reader_count x0 h bc bs Qr Qt) : xt_Met l y_Reader_count [.code y_Reader_count b_Reader_count 4 (some .int)] (xb_rm 3 bc bs) (xb_Pc D A σ h [.ref x0]) (xb_Qc D A h (fun v h => ∃ r, v = some (.int r) ∧ Qr r h) Qt) bc bs A := by
  refine xb_ofAm (cc := b_Reader_count) (by decide) (Nat.le_of_ble_eq_true rfl) ?_
  unfold w_Reader_count at hw
  show xb_am l D A σ 3 bc bs h (fun v h => ∃ r, v = some (.int r) ∧ Qr r h) Qt y_Reader_count.cls y_Reader_count.name b_Reader_count 4 ([] : List ExceptionTableEntry) (some .int) 0 [(0, .ref x0)] [] h bc bs
  obtain ⟨MC, hMC⟩ : ∃ x, x = bc := ⟨_, rfl⟩
  obtain ⟨MS, hMS⟩ : ∃ x, x = bs := ⟨_, rfl⟩
  rw [show xb_am l D A σ 3 bc bs = xb_am l D A σ 3 MC MS by rw [hMC, hMS]]
  obtain ⟨h0, hh0⟩ : ∃ x, x = h := ⟨_, rfl⟩
  rw [show xb_am l D A σ 3 MC MS h = xb_am l D A σ 3 MC MS h0 by rw [hh0]]
  intro p e s m args below meth c hC H locs ls k n hE hl hR hS hk hn
  obtain ⟨hx, hb, hown, hlocks, htab, hml, hr, hB, hA, hnm⟩ := id hC
  have hts := hB.1.1.at args
  refine lv_iconst (v := 0) hx hb (xb_d D_Reader_count 0 rfl) (by decide) ?_
  refine lv_istore_n hx hb (xb_d D_Reader_count 1 rfl) rfl hl (by decide) rfl (fun ls hl => ?_)
  have hl : lv_has ls 4 [(1, .int 0), (0, .ref x0)] := hl
  refine lv_iconst (v := 0) hx hb (xb_d D_Reader_count 2 rfl) (by decide) ?_
  refine lv_istore_n hx hb (xb_d D_Reader_count 3 rfl) rfl hl (by decide) rfl (fun ls hl => ?_)
  have hl : lv_has ls 4 [(2, .int 0), (1, .int 0), (0, .ref x0)] := hl
  obtain ⟨n8, hw⟩ := hw
  exact am_Reader_count_L4 l hfl D A σ MC MS h0 Qr Qt n8 x0 0 0 h bc bs hw p e s m args below meth c hC H locs ls k n hE (lv_sub hl [2, 1, 0] rfl) hR hS (by omega) (by omega)

theorem m_7fedb969 : (.methodLink "StackHost$Whole" 9 y_Whole_isBelow : Cond) ∈ xt_tbl := xt_in (xt_t8 (List.mem_of_getElem? (i := 155) (by decide +kernel))) (by decide +kernel)
theorem m_ed9d4f6c : (.static y_Whole_isBelow : Cond) ∈ xt_tbl := xt_in (xt_t8 (List.mem_of_getElem? (i := 156) (by decide +kernel))) (by decide +kernel)
theorem m_912e4ef6 : (.initialized "StackHost$Whole" : Cond) ∈ xt_tbl := xt_in (xt_t1 (List.mem_of_getElem? (i := 32) (by decide +kernel))) (by decide +kernel)
theorem m_0b5c2741 : (.code y_Whole_isBelow b_Whole_isBelow 4 (some .boolean) : Cond) ∈ xt_tbl := xt_in (xt_t8 (List.mem_of_getElem? (i := 157) (by decide +kernel))) (by decide +kernel)
theorem nm_Whole_isBelow : xt_nm y_Whole_isBelow 2 := ⟨by decide +kernel, by decide +kernel⟩
set_option maxRecDepth 100000 in
def T_Whole_holds : List (Nat × Instr × Nat) := [(0, .iload_n 0, 1), (1, .tableswitch 149 0 8 #[51, 63, 75, 87, 93, 105, 111, 123, 137], 51), (52, .lload_n 1, 1), (53, .lload_n 3, 1), (54, .lcmp, 1), (55, .ifCond .ne 7, 3), (58, .iconst 1, 1), (59, .goto 4, 3), (62, .iconst 0, 1), (63, .ireturn, 1), (64, .lload_n 1, 1), (65, .lload_n 3, 1), (66, .lcmp, 1), (67, .ifCond .eq 7, 3), (70, .iconst 1, 1), (71, .goto 4, 3), (74, .iconst 0, 1), (75, .ireturn, 1), (76, .lload_n 1, 1), (77, .lload_n 3, 1), (78, .lcmp, 1), (79, .ifCond .ge 7, 3), (82, .iconst 1, 1), (83, .goto 4, 3), (86, .iconst 0, 1), (87, .ireturn, 1), (88, .lload_n 1, 1), (89, .lload_n 3, 1), (90, .invokestatic 9, 3), (93, .ireturn, 1), (94, .lload_n 1, 1), (95, .lload_n 3, 1), (96, .lcmp, 1), (97, .ifCond .le 7, 3), (100, .iconst 1, 1), (101, .goto 4, 3), (104, .iconst 0, 1), (105, .ireturn, 1), (106, .lload_n 3, 1), (107, .lload_n 1, 1), (108, .invokestatic 9, 3), (111, .ireturn, 1), (112, .lload_n 1, 1), (113, .lload_n 3, 1), (114, .lcmp, 1), (115, .ifCond .gt 7, 3), (118, .iconst 1, 1), (119, .goto 4, 3), (122, .iconst 0, 1), (123, .ireturn, 1), (124, .lload_n 3, 1), (125, .lload_n 1, 1), (126, .invokestatic 9, 3), (129, .ifCond .ne 7, 3), (132, .iconst 1, 1), (133, .goto 4, 3), (136, .iconst 0, 1), (137, .ireturn, 1), (138, .lload_n 1, 1), (139, .lload_n 3, 1), (140, .lcmp, 1), (141, .ifCond .lt 7, 3), (144, .iconst 1, 1), (145, .goto 4, 3), (148, .iconst 0, 1), (149, .ireturn, 1), (150, .lload_n 1, 1), (151, .lload_n 3, 1), (152, .invokestatic 9, 3), (155, .ifCond .ne 7, 3), (158, .iconst 1, 1), (159, .goto 4, 3), (162, .iconst 0, 1), (163, .ireturn, 1)]
theorem D_Whole_holds : ∀ q ∈ T_Whole_holds, decode b_Whole_holds q.1 = .ok (q.2.1, q.2.2) := by decide +kernel
def w_Whole_holds_L163 (Qr : Int32 → xb_H → Prop) (y0 : Int32) (h : xb_H) : Prop :=
    (y0 = 0 ∨ y0 = 1) ∧ Qr y0 h

def w_Whole_holds_L149 (Qr : Int32 → xb_H → Prop) (y0 : Int32) (h : xb_H) : Prop :=
    (y0 = 0 ∨ y0 = 1) ∧ Qr y0 h

def w_Whole_holds_L137 (Qr : Int32 → xb_H → Prop) (y0 : Int32) (h : xb_H) : Prop :=
    (y0 = 0 ∨ y0 = 1) ∧ Qr y0 h

def w_Whole_holds_L123 (Qr : Int32 → xb_H → Prop) (y0 : Int32) (h : xb_H) : Prop :=
    (y0 = 0 ∨ y0 = 1) ∧ Qr y0 h

def w_Whole_holds_L105 (Qr : Int32 → xb_H → Prop) (y0 : Int32) (h : xb_H) : Prop :=
    (y0 = 0 ∨ y0 = 1) ∧ Qr y0 h

def w_Whole_holds_L87 (Qr : Int32 → xb_H → Prop) (y0 : Int32) (h : xb_H) : Prop :=
    (y0 = 0 ∨ y0 = 1) ∧ Qr y0 h

def w_Whole_holds_L75 (Qr : Int32 → xb_H → Prop) (y0 : Int32) (h : xb_H) : Prop :=
    (y0 = 0 ∨ y0 = 1) ∧ Qr y0 h

def w_Whole_holds_L63 (Qr : Int32 → xb_H → Prop) (y0 : Int32) (h : xb_H) : Prop :=
    (y0 = 0 ∨ y0 = 1) ∧ Qr y0 h

def w_Whole_holds (x0 : Int32) (x1 : Int64) (x3 : Int64) (h : xb_H) (Qr : Int32 → xb_H → Prop) : Prop :=
    ((x0 = 0 → ((¬ x1 = x3 → w_Whole_holds_L63 Qr 0 h) ∧ (x1 = x3 → w_Whole_holds_L63 Qr 1 h))) ∧ (x0 = 1 → ((x1 = x3 → w_Whole_holds_L75 Qr 0 h) ∧ (¬ x1 = x3 → w_Whole_holds_L75 Qr 1 h))) ∧ (x0 = 2 → ((x3 ≤ x1 → w_Whole_holds_L87 Qr 0 h) ∧ (¬ x3 ≤ x1 → w_Whole_holds_L87 Qr 1 h))) ∧ (x0 = 3 → w_Whole_isBelow x1 x3 h (fun (r9 : Int32) (h8 : xb_H) => xb_ext h h8 → (r9 = 0 ∨ r9 = 1) ∧ Qr r9 h8)) ∧ (x0 = 4 → ((x1 ≤ x3 → w_Whole_holds_L105 Qr 0 h) ∧ (¬ x1 ≤ x3 → w_Whole_holds_L105 Qr 1 h))) ∧ (x0 = 5 → w_Whole_isBelow x3 x1 h (fun (r14 : Int32) (h13 : xb_H) => xb_ext h h13 → (r14 = 0 ∨ r14 = 1) ∧ Qr r14 h13)) ∧ (x0 = 6 → ((x3 < x1 → w_Whole_holds_L123 Qr 0 h) ∧ (¬ x3 < x1 → w_Whole_holds_L123 Qr 1 h))) ∧ (x0 = 7 → w_Whole_isBelow x3 x1 h (fun (r19 : Int32) (h18 : xb_H) => xb_ext h h18 → ((¬ r19 = (0 : Int32) → w_Whole_holds_L137 Qr 0 h18) ∧ (r19 = (0 : Int32) → w_Whole_holds_L137 Qr 1 h18)))) ∧ (x0 = 8 → ((x1 < x3 → w_Whole_holds_L149 Qr 0 h) ∧ (¬ x1 < x3 → w_Whole_holds_L149 Qr 1 h))) ∧ (¬ x0 = 0 → ¬ x0 = 1 → ¬ x0 = 2 → ¬ x0 = 3 → ¬ x0 = 4 → ¬ x0 = 5 → ¬ x0 = 6 → ¬ x0 = 7 → ¬ x0 = 8 → w_Whole_isBelow x1 x3 h (fun (r24 : Int32) (h23 : xb_H) => xb_ext h h23 → ((¬ r24 = (0 : Int32) → w_Whole_holds_L163 Qr 0 h23) ∧ (r24 = (0 : Int32) → w_Whole_holds_L163 Qr 1 h23)))))

set_option maxHeartbeats 4000000 in
set_option maxRecDepth 100000 in
theorem am_Whole_holds_L163 (l : Launch) (hfl : l.flags = pinnedFlags ++ [noTraceFlag]) (D : va_G) (A : Nat → Prop) (σ MC MS : Nat) (h0 : xb_H) (Qr : Int32 → xb_H → Prop) (y0 : Int32) (h : xb_H) (hw : w_Whole_holds_L163 Qr y0 h) : xb_am l D A σ 3 MC MS h0 (fun v h => ∃ r, v = some (.int r) ∧ Qr r h) (fun _ _ => False) y_Whole_holds.cls y_Whole_holds.name b_Whole_holds 5 ([] : List ExceptionTableEntry) (some .boolean) 163 [] [.int y0] h 0 0 := by
  unfold w_Whole_holds_L163 at hw
  intro p e s m args below meth c hC H locs ls k n hE hl hR hS hk hn
  obtain ⟨hx, hb, hown, hlocks, htab, hml, hr, hB, hA, hnm⟩ := id hC
  have hts := hB.1.1.at args
  exact xb_zret hx hb hr hlocks (show k ≤ MC by omega) (show n ≤ MS by omega) hw.1 hE hR hS (xb_d D_Whole_holds 73 rfl) hw.2

set_option maxHeartbeats 4000000 in
set_option maxRecDepth 100000 in
theorem am_Whole_holds_L149 (l : Launch) (hfl : l.flags = pinnedFlags ++ [noTraceFlag]) (D : va_G) (A : Nat → Prop) (σ MC MS : Nat) (h0 : xb_H) (Qr : Int32 → xb_H → Prop) (y0 : Int32) (h : xb_H) (hw : w_Whole_holds_L149 Qr y0 h) : xb_am l D A σ 3 MC MS h0 (fun v h => ∃ r, v = some (.int r) ∧ Qr r h) (fun _ _ => False) y_Whole_holds.cls y_Whole_holds.name b_Whole_holds 5 ([] : List ExceptionTableEntry) (some .boolean) 149 [] [.int y0] h 0 0 := by
  unfold w_Whole_holds_L149 at hw
  intro p e s m args below meth c hC H locs ls k n hE hl hR hS hk hn
  obtain ⟨hx, hb, hown, hlocks, htab, hml, hr, hB, hA, hnm⟩ := id hC
  have hts := hB.1.1.at args
  exact xb_zret hx hb hr hlocks (show k ≤ MC by omega) (show n ≤ MS by omega) hw.1 hE hR hS (xb_d D_Whole_holds 65 rfl) hw.2

set_option maxHeartbeats 4000000 in
set_option maxRecDepth 100000 in
theorem am_Whole_holds_L137 (l : Launch) (hfl : l.flags = pinnedFlags ++ [noTraceFlag]) (D : va_G) (A : Nat → Prop) (σ MC MS : Nat) (h0 : xb_H) (Qr : Int32 → xb_H → Prop) (y0 : Int32) (h : xb_H) (hw : w_Whole_holds_L137 Qr y0 h) : xb_am l D A σ 3 MC MS h0 (fun v h => ∃ r, v = some (.int r) ∧ Qr r h) (fun _ _ => False) y_Whole_holds.cls y_Whole_holds.name b_Whole_holds 5 ([] : List ExceptionTableEntry) (some .boolean) 137 [] [.int y0] h 0 0 := by
  unfold w_Whole_holds_L137 at hw
  intro p e s m args below meth c hC H locs ls k n hE hl hR hS hk hn
  obtain ⟨hx, hb, hown, hlocks, htab, hml, hr, hB, hA, hnm⟩ := id hC
  have hts := hB.1.1.at args
  exact xb_zret hx hb hr hlocks (show k ≤ MC by omega) (show n ≤ MS by omega) hw.1 hE hR hS (xb_d D_Whole_holds 57 rfl) hw.2

set_option maxHeartbeats 4000000 in
set_option maxRecDepth 100000 in
theorem am_Whole_holds_L123 (l : Launch) (hfl : l.flags = pinnedFlags ++ [noTraceFlag]) (D : va_G) (A : Nat → Prop) (σ MC MS : Nat) (h0 : xb_H) (Qr : Int32 → xb_H → Prop) (y0 : Int32) (h : xb_H) (hw : w_Whole_holds_L123 Qr y0 h) : xb_am l D A σ 3 MC MS h0 (fun v h => ∃ r, v = some (.int r) ∧ Qr r h) (fun _ _ => False) y_Whole_holds.cls y_Whole_holds.name b_Whole_holds 5 ([] : List ExceptionTableEntry) (some .boolean) 123 [] [.int y0] h 0 0 := by
  unfold w_Whole_holds_L123 at hw
  intro p e s m args below meth c hC H locs ls k n hE hl hR hS hk hn
  obtain ⟨hx, hb, hown, hlocks, htab, hml, hr, hB, hA, hnm⟩ := id hC
  have hts := hB.1.1.at args
  exact xb_zret hx hb hr hlocks (show k ≤ MC by omega) (show n ≤ MS by omega) hw.1 hE hR hS (xb_d D_Whole_holds 49 rfl) hw.2

set_option maxHeartbeats 4000000 in
set_option maxRecDepth 100000 in
theorem am_Whole_holds_L105 (l : Launch) (hfl : l.flags = pinnedFlags ++ [noTraceFlag]) (D : va_G) (A : Nat → Prop) (σ MC MS : Nat) (h0 : xb_H) (Qr : Int32 → xb_H → Prop) (y0 : Int32) (h : xb_H) (hw : w_Whole_holds_L105 Qr y0 h) : xb_am l D A σ 3 MC MS h0 (fun v h => ∃ r, v = some (.int r) ∧ Qr r h) (fun _ _ => False) y_Whole_holds.cls y_Whole_holds.name b_Whole_holds 5 ([] : List ExceptionTableEntry) (some .boolean) 105 [] [.int y0] h 0 0 := by
  unfold w_Whole_holds_L105 at hw
  intro p e s m args below meth c hC H locs ls k n hE hl hR hS hk hn
  obtain ⟨hx, hb, hown, hlocks, htab, hml, hr, hB, hA, hnm⟩ := id hC
  have hts := hB.1.1.at args
  exact xb_zret hx hb hr hlocks (show k ≤ MC by omega) (show n ≤ MS by omega) hw.1 hE hR hS (xb_d D_Whole_holds 37 rfl) hw.2

set_option maxHeartbeats 4000000 in
set_option maxRecDepth 100000 in
theorem am_Whole_holds_L87 (l : Launch) (hfl : l.flags = pinnedFlags ++ [noTraceFlag]) (D : va_G) (A : Nat → Prop) (σ MC MS : Nat) (h0 : xb_H) (Qr : Int32 → xb_H → Prop) (y0 : Int32) (h : xb_H) (hw : w_Whole_holds_L87 Qr y0 h) : xb_am l D A σ 3 MC MS h0 (fun v h => ∃ r, v = some (.int r) ∧ Qr r h) (fun _ _ => False) y_Whole_holds.cls y_Whole_holds.name b_Whole_holds 5 ([] : List ExceptionTableEntry) (some .boolean) 87 [] [.int y0] h 0 0 := by
  unfold w_Whole_holds_L87 at hw
  intro p e s m args below meth c hC H locs ls k n hE hl hR hS hk hn
  obtain ⟨hx, hb, hown, hlocks, htab, hml, hr, hB, hA, hnm⟩ := id hC
  have hts := hB.1.1.at args
  exact xb_zret hx hb hr hlocks (show k ≤ MC by omega) (show n ≤ MS by omega) hw.1 hE hR hS (xb_d D_Whole_holds 25 rfl) hw.2

set_option maxHeartbeats 4000000 in
set_option maxRecDepth 100000 in
theorem am_Whole_holds_L75 (l : Launch) (hfl : l.flags = pinnedFlags ++ [noTraceFlag]) (D : va_G) (A : Nat → Prop) (σ MC MS : Nat) (h0 : xb_H) (Qr : Int32 → xb_H → Prop) (y0 : Int32) (h : xb_H) (hw : w_Whole_holds_L75 Qr y0 h) : xb_am l D A σ 3 MC MS h0 (fun v h => ∃ r, v = some (.int r) ∧ Qr r h) (fun _ _ => False) y_Whole_holds.cls y_Whole_holds.name b_Whole_holds 5 ([] : List ExceptionTableEntry) (some .boolean) 75 [] [.int y0] h 0 0 := by
  unfold w_Whole_holds_L75 at hw
  intro p e s m args below meth c hC H locs ls k n hE hl hR hS hk hn
  obtain ⟨hx, hb, hown, hlocks, htab, hml, hr, hB, hA, hnm⟩ := id hC
  have hts := hB.1.1.at args
  exact xb_zret hx hb hr hlocks (show k ≤ MC by omega) (show n ≤ MS by omega) hw.1 hE hR hS (xb_d D_Whole_holds 17 rfl) hw.2

set_option maxHeartbeats 4000000 in
set_option maxRecDepth 100000 in
theorem am_Whole_holds_L63 (l : Launch) (hfl : l.flags = pinnedFlags ++ [noTraceFlag]) (D : va_G) (A : Nat → Prop) (σ MC MS : Nat) (h0 : xb_H) (Qr : Int32 → xb_H → Prop) (y0 : Int32) (h : xb_H) (hw : w_Whole_holds_L63 Qr y0 h) : xb_am l D A σ 3 MC MS h0 (fun v h => ∃ r, v = some (.int r) ∧ Qr r h) (fun _ _ => False) y_Whole_holds.cls y_Whole_holds.name b_Whole_holds 5 ([] : List ExceptionTableEntry) (some .boolean) 63 [] [.int y0] h 0 0 := by
  unfold w_Whole_holds_L63 at hw
  intro p e s m args below meth c hC H locs ls k n hE hl hR hS hk hn
  obtain ⟨hx, hb, hown, hlocks, htab, hml, hr, hB, hA, hnm⟩ := id hC
  have hts := hB.1.1.at args
  exact xb_zret hx hb hr hlocks (show k ≤ MC by omega) (show n ≤ MS by omega) hw.1 hE hR hS (xb_d D_Whole_holds 9 rfl) hw.2

set_option maxHeartbeats 4000000 in
set_option maxRecDepth 100000 in
theorem ok_Whole_holds (l : Launch) (hfl : l.flags = pinnedFlags ++ [noTraceFlag]) (D : va_G) (A : Nat → Prop) (σ : Nat) (x0 : Int32) (x1 : Int64) (x3 : Int64) (h : xb_H) (Qr : Int32 → xb_H → Prop) (hw : w_Whole_holds x0 x1 x3 h Qr) : xt_Met l y_Whole_holds [.code y_Whole_holds b_Whole_holds 5 (some .boolean)] (xb_rm 3 0 0) (xb_Pc D A σ h [.int x0, .long x1, .long x3]) (xb_Qc D A h (fun v h => ∃ r, v = some (.int r) ∧ Qr r h) (fun _ _ => False)) 0 0 A := by
  refine xb_ofAm (cc := b_Whole_holds) (by decide) (Nat.le_of_ble_eq_true rfl) ?_
  unfold w_Whole_holds at hw
  show xb_am l D A σ 3 0 0 h (fun v h => ∃ r, v = some (.int r) ∧ Qr r h) (fun _ _ => False) y_Whole_holds.cls y_Whole_holds.name b_Whole_holds 5 ([] : List ExceptionTableEntry) (some .boolean) 0 [(0, .int x0), (1, .long x1), (3, .long x3)] [] h 0 0
  obtain ⟨MC, hMC⟩ : ∃ x, x = 0 := ⟨_, rfl⟩
  obtain ⟨MS, hMS⟩ : ∃ x, x = 0 := ⟨_, rfl⟩
  rw [show xb_am l D A σ 3 0 0 = xb_am l D A σ 3 MC MS by rw [hMC, hMS]]
  obtain ⟨h0, hh0⟩ : ∃ x, x = h := ⟨_, rfl⟩
  rw [show xb_am l D A σ 3 MC MS h = xb_am l D A σ 3 MC MS h0 by rw [hh0]]
  intro p e s m args below meth c hC H locs ls k n hE hl hR hS hk hn
  obtain ⟨hx, hb, hown, hlocks, htab, hml, hr, hB, hA, hnm⟩ := id hC
  have hts := hB.1.1.at args
  refine lv_iload_n hx hb (xb_d D_Whole_holds 0 rfl) rfl (lv_at hl 0 rfl) ?_
  by_cases hc1 : x0 = 0
  · have hw := hw.1 hc1
    refine xt_numi hc1 ?_
    refine lv_tableIn (off := 51) (tgt := 52) hx hb (xb_d D_Whole_holds 1 rfl) (by decide +kernel) (by decide +kernel) (by decide +kernel) (by decide) ?_
    refine lv_lload_n hx hb (xb_d D_Whole_holds 2 rfl) rfl (lv_at hl 1 rfl) ?_
    refine lv_lload_n hx hb (xb_d D_Whole_holds 3 rfl) rfl (lv_at hl 2 rfl) ?_
    refine xb_lc_ne (tgt := 62) hx hb (xb_d D_Whole_holds 4 rfl) (xb_d D_Whole_holds 5 rfl) rfl (fun hc2 => ?_) (fun hc2 => ?_)
    · have hw := hw.1 hc2
      refine lv_iconst (v := 0) hx hb (xb_d D_Whole_holds 8 rfl) (by decide) ?_
      exact am_Whole_holds_L63 l hfl D A σ MC MS h0 Qr 0 h hw p e s m args below meth c hC H locs ls k n hE (lv_sub hl [] rfl) hR hS (by omega) (by omega)
    · have hw := hw.2 hc2
      refine lv_iconst (v := 1) hx hb (xb_d D_Whole_holds 6 rfl) (by decide) ?_
      refine lv_goto (tgt := 63) hx hb (xb_d D_Whole_holds 7 rfl) rfl ?_
      exact am_Whole_holds_L63 l hfl D A σ MC MS h0 Qr 1 h hw p e s m args below meth c hC H locs ls k n hE (lv_sub hl [] rfl) hR hS (by omega) (by omega)
  have hw := hw.2
  by_cases hc3 : x0 = 1
  · have hw := hw.1 hc3
    refine xt_numi hc3 ?_
    refine lv_tableIn (off := 63) (tgt := 64) hx hb (xb_d D_Whole_holds 1 rfl) (by decide +kernel) (by decide +kernel) (by decide +kernel) (by decide) ?_
    refine lv_lload_n hx hb (xb_d D_Whole_holds 10 rfl) rfl (lv_at hl 1 rfl) ?_
    refine lv_lload_n hx hb (xb_d D_Whole_holds 11 rfl) rfl (lv_at hl 2 rfl) ?_
    refine xb_lc_eq (tgt := 74) hx hb (xb_d D_Whole_holds 12 rfl) (xb_d D_Whole_holds 13 rfl) rfl (fun hc4 => ?_) (fun hc4 => ?_)
    · have hw := hw.1 hc4
      refine lv_iconst (v := 0) hx hb (xb_d D_Whole_holds 16 rfl) (by decide) ?_
      exact am_Whole_holds_L75 l hfl D A σ MC MS h0 Qr 0 h hw p e s m args below meth c hC H locs ls k n hE (lv_sub hl [] rfl) hR hS (by omega) (by omega)
    · have hw := hw.2 hc4
      refine lv_iconst (v := 1) hx hb (xb_d D_Whole_holds 14 rfl) (by decide) ?_
      refine lv_goto (tgt := 75) hx hb (xb_d D_Whole_holds 15 rfl) rfl ?_
      exact am_Whole_holds_L75 l hfl D A σ MC MS h0 Qr 1 h hw p e s m args below meth c hC H locs ls k n hE (lv_sub hl [] rfl) hR hS (by omega) (by omega)
  have hw := hw.2
  by_cases hc5 : x0 = 2
  · have hw := hw.1 hc5
    refine xt_numi hc5 ?_
    refine lv_tableIn (off := 75) (tgt := 76) hx hb (xb_d D_Whole_holds 1 rfl) (by decide +kernel) (by decide +kernel) (by decide +kernel) (by decide) ?_
    refine lv_lload_n hx hb (xb_d D_Whole_holds 18 rfl) rfl (lv_at hl 1 rfl) ?_
    refine lv_lload_n hx hb (xb_d D_Whole_holds 19 rfl) rfl (lv_at hl 2 rfl) ?_
    refine xb_lc_ge (tgt := 86) hx hb (xb_d D_Whole_holds 20 rfl) (xb_d D_Whole_holds 21 rfl) rfl (fun hc6 => ?_) (fun hc6 => ?_)
    · have hw := hw.1 hc6
      refine lv_iconst (v := 0) hx hb (xb_d D_Whole_holds 24 rfl) (by decide) ?_
      exact am_Whole_holds_L87 l hfl D A σ MC MS h0 Qr 0 h hw p e s m args below meth c hC H locs ls k n hE (lv_sub hl [] rfl) hR hS (by omega) (by omega)
    · have hw := hw.2 hc6
      refine lv_iconst (v := 1) hx hb (xb_d D_Whole_holds 22 rfl) (by decide) ?_
      refine lv_goto (tgt := 87) hx hb (xb_d D_Whole_holds 23 rfl) rfl ?_
      exact am_Whole_holds_L87 l hfl D A σ MC MS h0 Qr 1 h hw p e s m args below meth c hC H locs ls k n hE (lv_sub hl [] rfl) hR hS (by omega) (by omega)
  have hw := hw.2
  by_cases hc7 : x0 = 3
  · have hw := hw.1 hc7
    refine xt_numi hc7 ?_
    refine lv_tableIn (off := 87) (tgt := 88) hx hb (xb_d D_Whole_holds 1 rfl) (by decide +kernel) (by decide +kernel) (by decide +kernel) (by decide) ?_
    refine lv_lload_n hx hb (xb_d D_Whole_holds 26 rfl) rfl (lv_at hl 1 rfl) ?_
    refine lv_lload_n hx hb (xb_d D_Whole_holds 27 rfl) rfl (lv_at hl 2 rfl) ?_
    refine xb_call (D := D) (A := A) (σ := σ) (h := h) (d := 2) (mc := 0) (ms := 0) (maxL := 4) (rest := []) (av := [.long x1, .long x3]) (fun T hT X => xt_invS X hx hown (hts _ m_7fedb969) (hts _ m_ed9d4f6c) (hts _ m_912e4ef6) (xt_sgS (hts _ m_0b5c2741)).1 (xt_sgS (hts _ m_0b5c2741)).2 nm_Whole_isBelow (g := F0 m 90 ls [.long x3, .long x1]) rfl (argsL := [.long x1, .long x3]) (rest := []) rfl rfl (by rw [hb]; exact (xb_d D_Whole_holds 28 rfl))) (ok_Whole_isBelow l hfl D A σ x1 x3 h _ hw) (hml.trans hl.1.symm) (by rw [hb]; exact (xb_d D_Whole_holds 28 rfl)) (Nat.le_of_ble_eq_true rfl) (Nat.le_of_ble_eq_true rfl) (Nat.le_of_ble_eq_true rfl) (show k + 0 ≤ MC by omega) (show n + 0 ≤ MS by omega) (xt_w1 hB.1 m_0b5c2741) (xt_cdOf hB.1 m_0b5c2741) (hts _ m_912e4ef6) hB hR hS hA (fun vv h8 H locs hq hEh8 hR hS => ?_) (fun XX ax h8 H locs hq hEh8 hex hR hS => ?_)
    · obtain ⟨r9, rfl, hw⟩ := hq
      have hw := hw hEh8
      have hE := hE.tr hEh8
      refine W.eq (g2 := F0 m 93 ls [.int r9]) rfl ?_
      exact xb_zret hx hb hr hlocks (show k ≤ MC by omega) (show n ≤ MS by omega) hw.1 hE hR hS (xb_d D_Whole_holds 29 rfl) hw.2
    · exact False.elim hq
  have hw := hw.2
  by_cases hc10 : x0 = 4
  · have hw := hw.1 hc10
    refine xt_numi hc10 ?_
    refine lv_tableIn (off := 93) (tgt := 94) hx hb (xb_d D_Whole_holds 1 rfl) (by decide +kernel) (by decide +kernel) (by decide +kernel) (by decide) ?_
    refine lv_lload_n hx hb (xb_d D_Whole_holds 30 rfl) rfl (lv_at hl 1 rfl) ?_
    refine lv_lload_n hx hb (xb_d D_Whole_holds 31 rfl) rfl (lv_at hl 2 rfl) ?_
    refine xb_lc_le (tgt := 104) hx hb (xb_d D_Whole_holds 32 rfl) (xb_d D_Whole_holds 33 rfl) rfl (fun hc11 => ?_) (fun hc11 => ?_)
    · have hw := hw.1 hc11
      refine lv_iconst (v := 0) hx hb (xb_d D_Whole_holds 36 rfl) (by decide) ?_
      exact am_Whole_holds_L105 l hfl D A σ MC MS h0 Qr 0 h hw p e s m args below meth c hC H locs ls k n hE (lv_sub hl [] rfl) hR hS (by omega) (by omega)
    · have hw := hw.2 hc11
      refine lv_iconst (v := 1) hx hb (xb_d D_Whole_holds 34 rfl) (by decide) ?_
      refine lv_goto (tgt := 105) hx hb (xb_d D_Whole_holds 35 rfl) rfl ?_
      exact am_Whole_holds_L105 l hfl D A σ MC MS h0 Qr 1 h hw p e s m args below meth c hC H locs ls k n hE (lv_sub hl [] rfl) hR hS (by omega) (by omega)
  have hw := hw.2
  by_cases hc12 : x0 = 5
  · have hw := hw.1 hc12
    refine xt_numi hc12 ?_
    refine lv_tableIn (off := 105) (tgt := 106) hx hb (xb_d D_Whole_holds 1 rfl) (by decide +kernel) (by decide +kernel) (by decide +kernel) (by decide) ?_
    refine lv_lload_n hx hb (xb_d D_Whole_holds 38 rfl) rfl (lv_at hl 2 rfl) ?_
    refine lv_lload_n hx hb (xb_d D_Whole_holds 39 rfl) rfl (lv_at hl 1 rfl) ?_
    refine xb_call (D := D) (A := A) (σ := σ) (h := h) (d := 2) (mc := 0) (ms := 0) (maxL := 4) (rest := []) (av := [.long x3, .long x1]) (fun T hT X => xt_invS X hx hown (hts _ m_7fedb969) (hts _ m_ed9d4f6c) (hts _ m_912e4ef6) (xt_sgS (hts _ m_0b5c2741)).1 (xt_sgS (hts _ m_0b5c2741)).2 nm_Whole_isBelow (g := F0 m 108 ls [.long x1, .long x3]) rfl (argsL := [.long x3, .long x1]) (rest := []) rfl rfl (by rw [hb]; exact (xb_d D_Whole_holds 40 rfl))) (ok_Whole_isBelow l hfl D A σ x3 x1 h _ hw) (hml.trans hl.1.symm) (by rw [hb]; exact (xb_d D_Whole_holds 40 rfl)) (Nat.le_of_ble_eq_true rfl) (Nat.le_of_ble_eq_true rfl) (Nat.le_of_ble_eq_true rfl) (show k + 0 ≤ MC by omega) (show n + 0 ≤ MS by omega) (xt_w1 hB.1 m_0b5c2741) (xt_cdOf hB.1 m_0b5c2741) (hts _ m_912e4ef6) hB hR hS hA (fun vv h13 H locs hq hEh13 hR hS => ?_) (fun XX ax h13 H locs hq hEh13 hex hR hS => ?_)
    · obtain ⟨r14, rfl, hw⟩ := hq
      have hw := hw hEh13
      have hE := hE.tr hEh13
      refine W.eq (g2 := F0 m 111 ls [.int r14]) rfl ?_
      exact xb_zret hx hb hr hlocks (show k ≤ MC by omega) (show n ≤ MS by omega) hw.1 hE hR hS (xb_d D_Whole_holds 41 rfl) hw.2
    · exact False.elim hq
  have hw := hw.2
  by_cases hc15 : x0 = 6
  · have hw := hw.1 hc15
    refine xt_numi hc15 ?_
    refine lv_tableIn (off := 111) (tgt := 112) hx hb (xb_d D_Whole_holds 1 rfl) (by decide +kernel) (by decide +kernel) (by decide +kernel) (by decide) ?_
    refine lv_lload_n hx hb (xb_d D_Whole_holds 42 rfl) rfl (lv_at hl 1 rfl) ?_
    refine lv_lload_n hx hb (xb_d D_Whole_holds 43 rfl) rfl (lv_at hl 2 rfl) ?_
    refine xb_lc_gt (tgt := 122) hx hb (xb_d D_Whole_holds 44 rfl) (xb_d D_Whole_holds 45 rfl) rfl (fun hc16 => ?_) (fun hc16 => ?_)
    · have hw := hw.1 hc16
      refine lv_iconst (v := 0) hx hb (xb_d D_Whole_holds 48 rfl) (by decide) ?_
      exact am_Whole_holds_L123 l hfl D A σ MC MS h0 Qr 0 h hw p e s m args below meth c hC H locs ls k n hE (lv_sub hl [] rfl) hR hS (by omega) (by omega)
    · have hw := hw.2 hc16
      refine lv_iconst (v := 1) hx hb (xb_d D_Whole_holds 46 rfl) (by decide) ?_
      refine lv_goto (tgt := 123) hx hb (xb_d D_Whole_holds 47 rfl) rfl ?_
      exact am_Whole_holds_L123 l hfl D A σ MC MS h0 Qr 1 h hw p e s m args below meth c hC H locs ls k n hE (lv_sub hl [] rfl) hR hS (by omega) (by omega)
  have hw := hw.2
  by_cases hc17 : x0 = 7
  · have hw := hw.1 hc17
    refine xt_numi hc17 ?_
    refine lv_tableIn (off := 123) (tgt := 124) hx hb (xb_d D_Whole_holds 1 rfl) (by decide +kernel) (by decide +kernel) (by decide +kernel) (by decide) ?_
    refine lv_lload_n hx hb (xb_d D_Whole_holds 50 rfl) rfl (lv_at hl 2 rfl) ?_
    refine lv_lload_n hx hb (xb_d D_Whole_holds 51 rfl) rfl (lv_at hl 1 rfl) ?_
    refine xb_call (D := D) (A := A) (σ := σ) (h := h) (d := 2) (mc := 0) (ms := 0) (maxL := 4) (rest := []) (av := [.long x3, .long x1]) (fun T hT X => xt_invS X hx hown (hts _ m_7fedb969) (hts _ m_ed9d4f6c) (hts _ m_912e4ef6) (xt_sgS (hts _ m_0b5c2741)).1 (xt_sgS (hts _ m_0b5c2741)).2 nm_Whole_isBelow (g := F0 m 126 ls [.long x1, .long x3]) rfl (argsL := [.long x3, .long x1]) (rest := []) rfl rfl (by rw [hb]; exact (xb_d D_Whole_holds 52 rfl))) (ok_Whole_isBelow l hfl D A σ x3 x1 h _ hw) (hml.trans hl.1.symm) (by rw [hb]; exact (xb_d D_Whole_holds 52 rfl)) (Nat.le_of_ble_eq_true rfl) (Nat.le_of_ble_eq_true rfl) (Nat.le_of_ble_eq_true rfl) (show k + 0 ≤ MC by omega) (show n + 0 ≤ MS by omega) (xt_w1 hB.1 m_0b5c2741) (xt_cdOf hB.1 m_0b5c2741) (hts _ m_912e4ef6) hB hR hS hA (fun vv h18 H locs hq hEh18 hR hS => ?_) (fun XX ax h18 H locs hq hEh18 hex hR hS => ?_)
    · obtain ⟨r19, rfl, hw⟩ := hq
      have hw := hw hEh18
      have hE := hE.tr hEh18
      refine W.eq (g2 := F0 m 129 ls [.int r19]) rfl ?_
      refine lv_if_ne (tgt := 136) hx hb (xb_d D_Whole_holds 53 rfl) rfl (fun hc20 => ?_) (fun hc20 => ?_)
      · have hw := hw.1 hc20
        refine lv_iconst (v := 0) hx hb (xb_d D_Whole_holds 56 rfl) (by decide) ?_
        exact am_Whole_holds_L137 l hfl D A σ MC MS h0 Qr 0 h18 hw p e s m args below meth c hC H locs ls k n hE (lv_sub hl [] rfl) hR hS (by omega) (by omega)
      · have hw := hw.2 hc20
        refine lv_iconst (v := 1) hx hb (xb_d D_Whole_holds 54 rfl) (by decide) ?_
        refine lv_goto (tgt := 137) hx hb (xb_d D_Whole_holds 55 rfl) rfl ?_
        exact am_Whole_holds_L137 l hfl D A σ MC MS h0 Qr 1 h18 hw p e s m args below meth c hC H locs ls k n hE (lv_sub hl [] rfl) hR hS (by omega) (by omega)
    · exact False.elim hq
  have hw := hw.2
  by_cases hc21 : x0 = 8
  · have hw := hw.1 hc21
    refine xt_numi hc21 ?_
    refine lv_tableIn (off := 137) (tgt := 138) hx hb (xb_d D_Whole_holds 1 rfl) (by decide +kernel) (by decide +kernel) (by decide +kernel) (by decide) ?_
    refine lv_lload_n hx hb (xb_d D_Whole_holds 58 rfl) rfl (lv_at hl 1 rfl) ?_
    refine lv_lload_n hx hb (xb_d D_Whole_holds 59 rfl) rfl (lv_at hl 2 rfl) ?_
    refine xb_lc_lt (tgt := 148) hx hb (xb_d D_Whole_holds 60 rfl) (xb_d D_Whole_holds 61 rfl) rfl (fun hc22 => ?_) (fun hc22 => ?_)
    · have hw := hw.1 hc22
      refine lv_iconst (v := 0) hx hb (xb_d D_Whole_holds 64 rfl) (by decide) ?_
      exact am_Whole_holds_L149 l hfl D A σ MC MS h0 Qr 0 h hw p e s m args below meth c hC H locs ls k n hE (lv_sub hl [] rfl) hR hS (by omega) (by omega)
    · have hw := hw.2 hc22
      refine lv_iconst (v := 1) hx hb (xb_d D_Whole_holds 62 rfl) (by decide) ?_
      refine lv_goto (tgt := 149) hx hb (xb_d D_Whole_holds 63 rfl) rfl ?_
      exact am_Whole_holds_L149 l hfl D A σ MC MS h0 Qr 1 h hw p e s m args below meth c hC H locs ls k n hE (lv_sub hl [] rfl) hR hS (by omega) (by omega)
  have hw := hw.2
  have hw := hw hc1 hc3 hc5 hc7 hc10 hc12 hc15 hc17 hc21
  refine lv_tableOut (tgt := 150) hx hb (xb_d D_Whole_holds 1 rfl) (by have a0 := xb_nl (0) 0 (by decide) hc1; have a1 := xb_nl (1) 1 (by decide) hc3; have a2 := xb_nl (2) 2 (by decide) hc5; have a3 := xb_nl (3) 3 (by decide) hc7; have a4 := xb_nl (4) 4 (by decide) hc10; have a5 := xb_nl (5) 5 (by decide) hc12; have a6 := xb_nl (6) 6 (by decide) hc15; have a7 := xb_nl (7) 7 (by decide) hc17; have a8 := xb_nl (8) 8 (by decide) hc21; omega) (by decide) ?_
  refine lv_lload_n hx hb (xb_d D_Whole_holds 66 rfl) rfl (lv_at hl 1 rfl) ?_
  refine lv_lload_n hx hb (xb_d D_Whole_holds 67 rfl) rfl (lv_at hl 2 rfl) ?_
  refine xb_call (D := D) (A := A) (σ := σ) (h := h) (d := 2) (mc := 0) (ms := 0) (maxL := 4) (rest := []) (av := [.long x1, .long x3]) (fun T hT X => xt_invS X hx hown (hts _ m_7fedb969) (hts _ m_ed9d4f6c) (hts _ m_912e4ef6) (xt_sgS (hts _ m_0b5c2741)).1 (xt_sgS (hts _ m_0b5c2741)).2 nm_Whole_isBelow (g := F0 m 152 ls [.long x3, .long x1]) rfl (argsL := [.long x1, .long x3]) (rest := []) rfl rfl (by rw [hb]; exact (xb_d D_Whole_holds 68 rfl))) (ok_Whole_isBelow l hfl D A σ x1 x3 h _ hw) (hml.trans hl.1.symm) (by rw [hb]; exact (xb_d D_Whole_holds 68 rfl)) (Nat.le_of_ble_eq_true rfl) (Nat.le_of_ble_eq_true rfl) (Nat.le_of_ble_eq_true rfl) (show k + 0 ≤ MC by omega) (show n + 0 ≤ MS by omega) (xt_w1 hB.1 m_0b5c2741) (xt_cdOf hB.1 m_0b5c2741) (hts _ m_912e4ef6) hB hR hS hA (fun vv h23 H locs hq hEh23 hR hS => ?_) (fun XX ax h23 H locs hq hEh23 hex hR hS => ?_)
  · obtain ⟨r24, rfl, hw⟩ := hq
    have hw := hw hEh23
    have hE := hE.tr hEh23
    refine W.eq (g2 := F0 m 155 ls [.int r24]) rfl ?_
    refine lv_if_ne (tgt := 162) hx hb (xb_d D_Whole_holds 69 rfl) rfl (fun hc25 => ?_) (fun hc25 => ?_)
    · have hw := hw.1 hc25
      refine lv_iconst (v := 0) hx hb (xb_d D_Whole_holds 72 rfl) (by decide) ?_
      exact am_Whole_holds_L163 l hfl D A σ MC MS h0 Qr 0 h23 hw p e s m args below meth c hC H locs ls k n hE (lv_sub hl [] rfl) hR hS (by omega) (by omega)
    · have hw := hw.2 hc25
      refine lv_iconst (v := 1) hx hb (xb_d D_Whole_holds 70 rfl) (by decide) ?_
      refine lv_goto (tgt := 163) hx hb (xb_d D_Whole_holds 71 rfl) rfl ?_
      exact am_Whole_holds_L163 l hfl D A σ MC MS h0 Qr 1 h23 hw p e s m args below meth c hC H locs ls k n hE (lv_sub hl [] rfl) hR hS (by omega) (by omega)
  · exact False.elim hq

