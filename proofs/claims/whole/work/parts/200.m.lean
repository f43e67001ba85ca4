theorem m_ab10058e : (.fieldLink "StackHost" 45 "StackHost" "machine" "LStackHost$Machine;" : Cond) ∈ xt_tbl := xt_in (xt_t2 (List.mem_of_getElem? (i := 89) (by decide +kernel))) (by decide +kernel)
theorem m_bae63374 : (.fieldLink "StackHost" 270 "StackHost$Machine" "depth" "I" : Cond) ∈ xt_tbl := xt_in (xt_t2 (List.mem_of_getElem? (i := 27) (by decide +kernel))) (by decide +kernel)
set_option maxRecDepth 100000 in
def T_H_calls : List (Nat × Instr × Nat) := [(0, .aload_n 0, 1), (1, .getfield 45, 3), (4, .getfield 270, 3), (7, .ireturn, 1)]
theorem D_H_calls : ∀ q ∈ T_H_calls, decode b_H_calls q.1 = .ok (q.2.1, q.2.2) := by decide +kernel

set_option maxHeartbeats 4000000 in
set_option maxRecDepth 100000 in
theorem ok_H_calls (l : Launch) (hfl : l.flags = pinnedFlags ++ [noTraceFlag]) (D : va_G) (A : Nat → Prop) (σ : Nat) (x0 : Nat) (h : xb_H) (Qr : Int32 → xb_H → Prop) (hw : w_H_calls x0 h Qr) : xb_Met l y_H_calls [.code y_H_calls b_H_calls 1 (some .int)] (xb_rm 2 0 0) (xb_Pc D A σ h [.ref x0]) (xb_Qc D A h 0 0 (fun v h _ _ => ∃ r, v = some (.int r) ∧ Qr r h) (fun _ _ _ _ => False)) A := by
  refine xb_ofAm (cc := b_H_calls) (by decide) (Nat.le_of_ble_eq_true rfl) ?_
  unfold w_H_calls at hw
  show xb_am l D A σ 2 0 0 h (fun v h _ _ => ∃ r, v = some (.int r) ∧ Qr r h) (fun _ _ _ _ => False) y_H_calls.cls y_H_calls.name b_H_calls 1 ([] : List ExceptionTableEntry) (some .int) 0 [(0, .ref x0)] [] h 0 0
  obtain ⟨MC, hMC⟩ : ∃ x, x = 0 := ⟨_, rfl⟩
  obtain ⟨MS, hMS⟩ : ∃ x, x = 0 := ⟨_, rfl⟩
  rw [show xb_am l D A σ 2 0 0 = xb_am l D A σ 2 MC MS by rw [hMC, hMS]]
  obtain ⟨h0, hh0⟩ : ∃ x, x = h := ⟨_, rfl⟩
  rw [show xb_am l D A σ 2 MC MS h = xb_am l D A σ 2 MC MS h0 by rw [hh0]]
  intro p e s m args below meth c hC H locs ls k n hE hl hR hS hk hn
  obtain ⟨hx, hb, hown, hlocks, htab, hml, hr, hB, hA, hnm⟩ := id hC
  have hts := hB.1.1.at args
  refine lv_aload_n hx hb (xb_d D_H_calls 0 rfl) rfl (lv_at hl 0 rfl) ?_
  obtain ⟨hk1, hw⟩ := hw
  refine xb_getP (C := R_H) (T := F_H) (N := 11) hx hb 0 7 hts fin_H hown hR hk1 (by decide) rfl (by decide) rfl (hts _ m_ab10058e) (fun _ h9 => h9) (xb_d D_H_calls 1 rfl) ?_
  obtain ⟨b2, eb2, hw⟩ := hw
  refine xb_some eb2 ?_
  obtain ⟨hk3, hw⟩ := hw
  refine xb_getI (C := R_Machine) (T := F_Machine) (N := 18) hx hb 7 4 hts fin_Machine hown hR hk3 (by decide) rfl (by decide) rfl (hts _ m_bae63374) (fun _ h9 => h9) (xb_d D_H_calls 2 rfl) ?_
  exact xb_iret 0 0 hx hb hr hlocks (show k + 0 ≤ MC by omega) (show n + 0 ≤ MS by omega) hE hR hS (xb_d D_H_calls 3 rfl) hw

theorem m_3ac6c4ed : (.fieldLink "StackHost" 36 "StackHost" "world" "LStackHost$World;" : Cond) ∈ xt_tbl := xt_in (xt_t2 (List.mem_of_getElem? (i := 88) (by decide +kernel))) (by decide +kernel)
theorem m_6985478d : (.fieldLink "StackHost" 338 "StackHost$World" "out" "LStackHost$Row;" : Cond) ∈ xt_tbl := xt_in (xt_t1 (List.mem_of_getElem? (i := 181) (by decide +kernel))) (by decide +kernel)
theorem m_d32f0086 : (.fieldLink "StackHost" 242 "StackHost$Row" "size" "I" : Cond) ∈ xt_tbl := xt_in (xt_t1 (List.mem_of_getElem? (i := 154) (by decide +kernel))) (by decide +kernel)
set_option maxRecDepth 100000 in
def T_H_clear : List (Nat × Instr × Nat) := [(0, .aload_n 0, 1), (1, .getfield 36, 3), (4, .getfield 338, 3), (7, .getfield 242, 3), (10, .istore_n 1, 1), (11, .aload_n 0, 1), (12, .getfield 36, 3), (15, .getfield 338, 3), (18, .iconst 0, 1), (19, .putfield 242, 3), (22, .iload_n 1, 1), (23, .ireturn, 1)]
theorem D_H_clear : ∀ q ∈ T_H_clear, decode b_H_clear q.1 = .ok (q.2.1, q.2.2) := by decide +kernel

set_option maxHeartbeats 4000000 in
set_option maxRecDepth 100000 in
theorem ok_H_clear (l : Launch) (hfl : l.flags = pinnedFlags ++ [noTraceFlag]) (D : va_G) (A : Nat → Prop) (σ : Nat) (x0 : Nat) (h : xb_H) (Qr : Int32 → xb_H → Prop) (hw : w_H_clear x0 h Qr) : xb_Met l y_H_clear [.code y_H_clear b_H_clear 2 (some .int)] (xb_rm 2 0 0) (xb_Pc D A σ h [.ref x0]) (xb_Qc D A h 0 0 (fun v h _ _ => ∃ r, v = some (.int r) ∧ Qr r h) (fun _ _ _ _ => False)) A := by
  refine xb_ofAm (cc := b_H_clear) (by decide) (Nat.le_of_ble_eq_true rfl) ?_
  unfold w_H_clear at hw
  show xb_am l D A σ 2 0 0 h (fun v h _ _ => ∃ r, v = some (.int r) ∧ Qr r h) (fun _ _ _ _ => False) y_H_clear.cls y_H_clear.name b_H_clear 2 ([] : List ExceptionTableEntry) (some .int) 0 [(0, .ref x0)] [] h 0 0
  obtain ⟨MC, hMC⟩ : ∃ x, x = 0 := ⟨_, rfl⟩
  obtain ⟨MS, hMS⟩ : ∃ x, x = 0 := ⟨_, rfl⟩
  rw [show xb_am l D A σ 2 0 0 = xb_am l D A σ 2 MC MS by rw [hMC, hMS]]
  obtain ⟨h0, hh0⟩ : ∃ x, x = h := ⟨_, rfl⟩
  rw [show xb_am l D A σ 2 MC MS h = xb_am l D A σ 2 MC MS h0 by rw [hh0]]
  intro p e s m args below meth c hC H locs ls k n hE hl hR hS hk hn
  obtain ⟨hx, hb, hown, hlocks, htab, hml, hr, hB, hA, hnm⟩ := id hC
  have hts := hB.1.1.at args
  refine lv_aload_n hx hb (xb_d D_H_clear 0 rfl) rfl (lv_at hl 0 rfl) ?_
  obtain ⟨hk1, hw⟩ := hw
  refine xb_getP (C := R_H) (T := F_H) (N := 11) hx hb 0 6 hts fin_H hown hR hk1 (by decide) rfl (by decide) rfl (hts _ m_3ac6c4ed) (fun _ h9 => h9) (xb_d D_H_clear 1 rfl) ?_
  obtain ⟨b2, eb2, hw⟩ := hw
  refine xb_some eb2 ?_
  obtain ⟨hk3, hw⟩ := hw
  refine xb_getP (C := R_World) (T := F_World) (N := 16) hx hb 6 6 hts fin_World hown hR hk3 (by decide) rfl (by decide) rfl (hts _ m_6985478d) (fun _ h9 => h9) (xb_d D_H_clear 2 rfl) ?_
  obtain ⟨b4, eb4, hw⟩ := hw
  refine xb_some eb4 ?_
  obtain ⟨hk5, hw⟩ := hw
  refine xb_getI (C := R_Row) (T := F_Row) (N := 3) hx hb 1 1 hts fin_Row hown hR hk5 (by decide) rfl (by decide) rfl (hts _ m_d32f0086) (fun _ h9 => h9) (xb_d D_H_clear 3 rfl) ?_
  obtain ⟨v6, ev6⟩ : ∃ x : Int32, x = (xb_i h b4 1) := ⟨_, rfl⟩
  have hw := hw v6 ev6
  refine xt_numi (y := v6) ev6.symm ?_
  refine lv_istore_n hx hb (xb_d D_H_clear 4 rfl) rfl hl (by decide) rfl (fun ls hl => ?_)
  have hl : lv_has ls 2 [(1, .int v6), (0, .ref x0)] := hl
  refine lv_aload_n hx hb (xb_d D_H_clear 5 rfl) rfl (lv_at hl 1 rfl) ?_
  refine xb_getP (C := R_H) (T := F_H) (N := 11) hx hb 0 6 hts fin_H hown hR hk1 (by decide) rfl (by decide) rfl (hts _ m_3ac6c4ed) (fun _ h9 => h9) (xb_d D_H_clear 6 rfl) ?_
  obtain ⟨b7, eb7, hw⟩ := hw
  refine xb_some eb7 ?_
  obtain ⟨hk8, hw⟩ := hw
  refine xb_getP (C := R_World) (T := F_World) (N := 16) hx hb 6 6 hts fin_World hown hR hk8 (by decide) rfl (by decide) rfl (hts _ m_6985478d) (fun _ h9 => h9) (xb_d D_H_clear 7 rfl) ?_
  obtain ⟨b9, eb9, hw⟩ := hw
  refine xb_some eb9 ?_
  refine lv_iconst (v := 0) hx hb (xb_d D_H_clear 8 rfl) (by decide) ?_
  obtain ⟨hk10, hw⟩ := hw
  refine xb_putI (C := R_Row) (T := F_Row) (N := 3) (ty := .int) (x := 0) hx hb 1 1 hts fin_Row t_Row t_Row_ok n_Row hown hR hS hk10 (by decide) rfl (by decide) rfl (hts _ m_d32f0086) (fun _ h9 => h9) rfl (by decide +kernel) rfl rfl (xb_d D_H_clear 9 rfl) (fun H locs hR hS => ?_)
  obtain ⟨h11, eh11⟩ : ∃ x : xb_H, x = xb_I h b9 1 0 := ⟨_, rfl⟩
  rw [← eh11] at hR
  have hw := hw h11 eh11
  have hE : xb_ext h0 h11 := by rw [eh11]; exact hE
  refine lv_iload_n hx hb (xb_d D_H_clear 10 rfl) rfl (lv_at hl 0 rfl) ?_
  exact xb_iret 0 0 hx hb hr hlocks (show k + 0 ≤ MC by omega) (show n + 0 ≤ MS by omega) hE hR hS (xb_d D_H_clear 11 rfl) hw

theorem m_1ee8d2b8 : (.fieldLink "StackHost" 58 "StackHost" "tapeSize" "I" : Cond) ∈ xt_tbl := xt_in (xt_t2 (List.mem_of_getElem? (i := 83) (by decide +kernel))) (by decide +kernel)
set_option maxRecDepth 100000 in
def T_H_end : List (Nat × Instr × Nat) := [(0, .iload_n 1, 1), (1, .ifCond .lt 11, 3), (4, .iload_n 1, 1), (5, .aload_n 0, 1), (6, .getfield 58, 3), (9, .if_icmp .le 13, 3), (12, .new 86, 3), (15, .dup, 1), (16, .ldc 88, 2), (18, .invokespecial 90, 3), (21, .athrow, 1), (22, .aload_n 0, 1), (23, .iload_n 1, 1), (24, .putfield 58, 3), (27, .return_, 1)]
theorem D_H_end : ∀ q ∈ T_H_end, decode b_H_end q.1 = .ok (q.2.1, q.2.2) := by decide +kernel

set_option maxHeartbeats 4000000 in
set_option maxRecDepth 100000 in
theorem am_H_end_L12 (l : Launch) (hfl : l.flags = pinnedFlags ++ [noTraceFlag]) (D : va_G) (A : Nat → Prop) (σ MC MS : Nat) (h0 : xb_H) (Qr : xb_H → Nat → Nat → Prop) (Qt : String → xb_H → Nat → Nat → Prop) (h : xb_H) (bc : Nat) (bs : Nat) (hw : w_H_end_L12 Qr Qt h bc bs) : xb_am l D A σ 2 MC MS h0 (fun v h bc bs => v = none ∧ Qr h bc bs) Qt y_H_end.cls y_H_end.name b_H_end 2 ([] : List ExceptionTableEntry) none 12 [] [] h bc bs := by
  unfold w_H_end_L12 at hw
  intro p e s m args below meth c hC H locs ls k n hE hl hR hS hk hn
  obtain ⟨hx, hb, hown, hlocks, htab, hml, hr, hB, hA, hnm⟩ := id hC
  have hts := hB.1.1.at args
  obtain ⟨hc9, hs9, hw⟩ := hw
  exact xb_throw (names := ["java/lang/RuntimeException", "java/lang/Exception"]) hx hb (hml.trans hl.1.symm) hlocks hfl hown xsite_83e14a hB hS (show k + bc ≤ MC by omega) (show n + bs ≤ MS by omega) hc9 hs9 (by decide) (Nat.le_of_ble_eq_true rfl) htab (xb_d D_H_end 6 rfl) (xb_d D_H_end 7 rfl) xt_l2 (xb_d D_H_end 8 rfl) (xb_d D_H_end 9 rfl) (xb_d D_H_end 10 rfl) hE hR hw

set_option maxHeartbeats 4000000 in
set_option maxRecDepth 100000 in
theorem ok_H_end (l : Launch) (hfl : l.flags = pinnedFlags ++ [noTraceFlag]) (D : va_G) (A : Nat → Prop) (σ : Nat) (x0 : Nat) (x1 : Int32) (h : xb_H) (bc : Nat) (bs : Nat) (Qr : xb_H → Nat → Nat → Prop) (Qt : String → xb_H → Nat → Nat → Prop) (hw : w_H_end x0 x1 h bc bs Qr Qt) : xb_Met l y_H_end [.code y_H_end b_H_end 2 none] (xb_rm 2 bc bs) (xb_Pc D A σ h [.ref x0, .int x1]) (xb_Qc D A h bc bs (fun v h bc bs => v = none ∧ Qr h bc bs) Qt) A := by
  refine xb_ofAm (cc := b_H_end) (by decide) (Nat.le_of_ble_eq_true rfl) ?_
  unfold w_H_end at hw
  show xb_am l D A σ 2 bc bs h (fun v h bc bs => v = none ∧ Qr h bc bs) Qt y_H_end.cls y_H_end.name b_H_end 2 ([] : List ExceptionTableEntry) none 0 [(0, .ref x0), (1, .int x1)] [] h bc bs
  obtain ⟨MC, hMC⟩ : ∃ x, x = bc := ⟨_, rfl⟩
  obtain ⟨MS, hMS⟩ : ∃ x, x = bs := ⟨_, rfl⟩
  rw [show xb_am l D A σ 2 bc bs = xb_am l D A σ 2 MC MS by rw [hMC, hMS]]
  obtain ⟨h0, hh0⟩ : ∃ x, x = h := ⟨_, rfl⟩
  rw [show xb_am l D A σ 2 MC MS h = xb_am l D A σ 2 MC MS h0 by rw [hh0]]
  intro p e s m args below meth c hC H locs ls k n hE hl hR hS hk hn
  obtain ⟨hx, hb, hown, hlocks, htab, hml, hr, hB, hA, hnm⟩ := id hC
  have hts := hB.1.1.at args
  refine lv_iload_n hx hb (xb_d D_H_end 0 rfl) rfl (lv_at hl 1 rfl) ?_
  refine lv_if_lt (tgt := 12) hx hb (xb_d D_H_end 1 rfl) rfl (fun hc1 => ?_) (fun hc1 => ?_)
  · have hw := hw.1 hc1
    exact am_H_end_L12 l hfl D A σ MC MS h0 Qr Qt h bc bs hw p e s m args below meth c hC H locs ls k n hE (lv_sub hl [] rfl) hR hS (by omega) (by omega)
  · have hw := hw.2 hc1
    refine lv_iload_n hx hb (xb_d D_H_end 2 rfl) rfl (lv_at hl 1 rfl) ?_
    refine lv_aload_n hx hb (xb_d D_H_end 3 rfl) rfl (lv_at hl 0 rfl) ?_
    obtain ⟨hk2, hw⟩ := hw
    refine xb_getI (C := R_H) (T := F_H) (N := 11) hx hb 0 1 hts fin_H hown hR hk2 (by decide) rfl (by decide) rfl (hts _ m_1ee8d2b8) (fun _ h9 => h9) (xb_d D_H_end 4 rfl) ?_
    refine lv_icmp_le (tgt := 22) hx hb (xb_d D_H_end 5 rfl) rfl (fun hc3 => ?_) (fun hc3 => ?_)
    · have hw := hw.1 hc3
      refine lv_aload_n hx hb (xb_d D_H_end 11 rfl) rfl (lv_at hl 0 rfl) ?_
      refine lv_iload_n hx hb (xb_d D_H_end 12 rfl) rfl (lv_at hl 1 rfl) ?_
      refine xb_putI (C := R_H) (T := F_H) (N := 11) (ty := .int) (x := x1) hx hb 0 1 hts fin_H t_H t_H_ok n_H hown hR hS hk2 (by decide) rfl (by decide) rfl (hts _ m_1ee8d2b8) (fun _ h9 => h9) rfl (by decide +kernel) rfl rfl (xb_d D_H_end 13 rfl) (fun H locs hR hS => ?_)
      obtain ⟨h4, eh4⟩ : ∃ x : xb_H, x = xb_I h x0 1 x1 := ⟨_, rfl⟩
      rw [← eh4] at hR
      have hw := hw h4 eh4
      have hE : xb_ext h0 h4 := by rw [eh4]; exact hE
      exact xb_vret bc bs hx hb hr hlocks (show k + bc ≤ MC by omega) (show n + bs ≤ MS by omega) hE hR hS (xb_d D_H_end 14 rfl) hw
    · have hw := hw.2 hc3
      exact am_H_end_L12 l hfl D A σ MC MS h0 Qr Qt h bc bs hw p e s m args below meth c hC H locs ls k n hE (lv_sub hl [] rfl) hR hS (by omega) (by omega)

theorem m_f8008c10 : (.fieldLink "StackHost" 100 "StackHost" "faultPlace" "I" : Cond) ∈ xt_tbl := xt_in (xt_t2 (List.mem_of_getElem? (i := 92) (by decide +kernel))) (by decide +kernel)
theorem m_149cae13 : (.fieldLink "StackHost" 97 "StackHost" "faultCode" "I" : Cond) ∈ xt_tbl := xt_in (xt_t2 (List.mem_of_getElem? (i := 91) (by decide +kernel))) (by decide +kernel)
set_option maxRecDepth 100000 in
def T_H_fault : List (Nat × Instr × Nat) := [(0, .iload_n 1, 1), (1, .ifCond .lt 8, 3), (4, .iload_n 1, 1), (5, .iconst 1, 1), (6, .if_icmp .le 13, 3), (9, .new 117, 3), (12, .dup, 1), (13, .ldc 119, 2), (15, .invokespecial 121, 3), (18, .athrow, 1), (19, .iload_n 1, 1), (20, .ifCond .ne 10, 3), (23, .aload_n 0, 1), (24, .getfield 97, 3), (27, .goto 7, 3), (30, .aload_n 0, 1), (31, .getfield 100, 3), (34, .ireturn, 1)]
theorem D_H_fault : ∀ q ∈ T_H_fault, decode b_H_fault q.1 = .ok (q.2.1, q.2.2) := by decide +kernel

set_option maxHeartbeats 4000000 in
set_option maxRecDepth 100000 in
theorem am_H_fault_L34 (l : Launch) (hfl : l.flags = pinnedFlags ++ [noTraceFlag]) (D : va_G) (A : Nat → Prop) (σ MC MS : Nat) (h0 : xb_H) (Qr : Int32 → xb_H → Nat → Nat → Prop) (Qt : String → xb_H → Nat → Nat → Prop) (y0 : Int32) (h : xb_H) (bc : Nat) (bs : Nat) (hw : w_H_fault_L34 Qr Qt y0 h bc bs) : xb_am l D A σ 2 MC MS h0 (fun v h bc bs => ∃ r, v = some (.int r) ∧ Qr r h bc bs) Qt y_H_fault.cls y_H_fault.name b_H_fault 2 ([] : List ExceptionTableEntry) (some .int) 34 [] [.int y0] h bc bs := by
  unfold w_H_fault_L34 at hw
  intro p e s m args below meth c hC H locs ls k n hE hl hR hS hk hn
  obtain ⟨hx, hb, hown, hlocks, htab, hml, hr, hB, hA, hnm⟩ := id hC
  have hts := hB.1.1.at args
  exact xb_iret bc bs hx hb hr hlocks (show k + bc ≤ MC by omega) (show n + bs ≤ MS by omega) hE hR hS (xb_d D_H_fault 17 rfl) hw

set_option maxHeartbeats 4000000 in
set_option maxRecDepth 100000 in
theorem am_H_fault_L9 (l : Launch) (hfl : l.flags = pinnedFlags ++ [noTraceFlag]) (D : va_G) (A : Nat → Prop) (σ MC MS : Nat) (h0 : xb_H) (Qr : Int32 → xb_H → Nat → Nat → Prop) (Qt : String → xb_H → Nat → Nat → Prop) (h : xb_H) (bc : Nat) (bs : Nat) (hw : w_H_fault_L9 Qr Qt h bc bs) : xb_am l D A σ 2 MC MS h0 (fun v h bc bs => ∃ r, v = some (.int r) ∧ Qr r h bc bs) Qt y_H_fault.cls y_H_fault.name b_H_fault 2 ([] : List ExceptionTableEntry) (some .int) 9 [] [] h bc bs := by
  unfold w_H_fault_L9 at hw
  intro p e s m args below meth c hC H locs ls k n hE hl hR hS hk hn
  obtain ⟨hx, hb, hown, hlocks, htab, hml, hr, hB, hA, hnm⟩ := id hC
  have hts := hB.1.1.at args
  obtain ⟨hc9, hs9, hw⟩ := hw
  exact xb_throw (names := ["java/lang/RuntimeException", "java/lang/Exception"]) hx hb (hml.trans hl.1.symm) hlocks hfl hown xsite_df35ce hB hS (show k + bc ≤ MC by omega) (show n + bs ≤ MS by omega) hc9 hs9 (by decide) (Nat.le_of_ble_eq_true rfl) htab (xb_d D_H_fault 5 rfl) (xb_d D_H_fault 6 rfl) xt_l2 (xb_d D_H_fault 7 rfl) (xb_d D_H_fault 8 rfl) (xb_d D_H_fault 9 rfl) hE hR hw

set_option maxHeartbeats 4000000 in
set_option maxRecDepth 100000 in
theorem ok_H_fault (l : Launch) (hfl : l.flags = pinnedFlags ++ [noTraceFlag]) (D : va_G) (A : Nat → Prop) (σ : Nat) (x0 : Nat) (x1 : Int32) (h : xb_H) (bc : Nat) (bs : Nat) (Qr : Int32 → xb_H → Nat → Nat → Prop) (Qt : String → xb_H → Nat → Nat → Prop) (hw : w_H_fault x0 x1 h bc bs Qr Qt) : xb_Met l y_H_fault [.code y_H_fault b_H_fault 2 (some .int)] (xb_rm 2 bc bs) (xb_Pc D A σ h [.ref x0, .int x1]) (xb_Qc D A h bc bs (fun v h bc bs => ∃ r, v = some (.int r) ∧ Qr r h bc bs) Qt) A := by
  refine xb_ofAm (cc := b_H_fault) (by decide) (Nat.le_of_ble_eq_true rfl) ?_
  unfold w_H_fault at hw
  show xb_am l D A σ 2 bc bs h (fun v h bc bs => ∃ r, v = some (.int r) ∧ Qr r h bc bs) Qt y_H_fault.cls y_H_fault.name b_H_fault 2 ([] : List ExceptionTableEntry) (some .int) 0 [(0, .ref x0), (1, .int x1)] [] h bc bs
  obtain ⟨MC, hMC⟩ : ∃ x, x = bc := ⟨_, rfl⟩
  obtain ⟨MS, hMS⟩ : ∃ x, x = bs := ⟨_, rfl⟩
  rw [show xb_am l D A σ 2 bc bs = xb_am l D A σ 2 MC MS by rw [hMC, hMS]]
  obtain ⟨h0, hh0⟩ : ∃ x, x = h := ⟨_, rfl⟩
  rw [show xb_am l D A σ 2 MC MS h = xb_am l D A σ 2 MC MS h0 by rw [hh0]]
  intro p e s m args below meth c hC H locs ls k n hE hl hR hS hk hn
  obtain ⟨hx, hb, hown, hlocks, htab, hml, hr, hB, hA, hnm⟩ := id hC
  have hts := hB.1.1.at args
  refine lv_iload_n hx hb (xb_d D_H_fault 0 rfl) rfl (lv_at hl 1 rfl) ?_
  refine lv_if_lt (tgt := 9) hx hb (xb_d D_H_fault 1 rfl) rfl (fun hc1 => ?_) (fun hc1 => ?_)
  · have hw := hw.1 hc1
    exact am_H_fault_L9 l hfl D A σ MC MS h0 Qr Qt h bc bs hw p e s m args below meth c hC H locs ls k n hE (lv_sub hl [] rfl) hR hS (by omega) (by omega)
  · have hw := hw.2 hc1
    refine lv_iload_n hx hb (xb_d D_H_fault 2 rfl) rfl (lv_at hl 1 rfl) ?_
    refine lv_iconst (v := 1) hx hb (xb_d D_H_fault 3 rfl) (by decide) ?_
    refine lv_icmp_le (tgt := 19) hx hb (xb_d D_H_fault 4 rfl) rfl (fun hc2 => ?_) (fun hc2 => ?_)
    · have hw := hw.1 hc2
      refine lv_iload_n hx hb (xb_d D_H_fault 10 rfl) rfl (lv_at hl 1 rfl) ?_
      refine lv_if_ne (tgt := 30) hx hb (xb_d D_H_fault 11 rfl) rfl (fun hc3 => ?_) (fun hc3 => ?_)
      · have hw := hw.1 hc3
        refine lv_aload_n hx hb (xb_d D_H_fault 15 rfl) rfl (lv_at hl 0 rfl) ?_
        obtain ⟨hk4, hw⟩ := hw
        refine xb_getI (C := R_H) (T := F_H) (N := 11) hx hb 0 10 hts fin_H hown hR hk4 (by decide) rfl (by decide) rfl (hts _ m_f8008c10) (fun _ h9 => h9) (xb_d D_H_fault 16 rfl) ?_
        exact am_H_fault_L34 l hfl D A σ MC MS h0 Qr Qt (xb_i h x0 10) h bc bs hw p e s m args below meth c hC H locs ls k n hE (lv_sub hl [] rfl) hR hS (by omega) (by omega)
      · have hw := hw.2 hc3
        refine lv_aload_n hx hb (xb_d D_H_fault 12 rfl) rfl (lv_at hl 0 rfl) ?_
        obtain ⟨hk5, hw⟩ := hw
        refine xb_getI (C := R_H) (T := F_H) (N := 11) hx hb 0 9 hts fin_H hown hR hk5 (by decide) rfl (by decide) rfl (hts _ m_149cae13) (fun _ h9 => h9) (xb_d D_H_fault 13 rfl) ?_
        refine lv_goto (tgt := 34) hx hb (xb_d D_H_fault 14 rfl) rfl ?_
        exact am_H_fault_L34 l hfl D A σ MC MS h0 Qr Qt (xb_i h x0 9) h bc bs hw p e s m args below meth c hC H locs ls k n hE (lv_sub hl [] rfl) hR hS (by omega) (by omega)
    · have hw := hw.2 hc2
      exact am_H_fault_L9 l hfl D A σ MC MS h0 Qr Qt h bc bs hw p e s m args below meth c hC H locs ls k n hE (lv_sub hl [] rfl) hR hS (by omega) (by omega)

theorem m_4570233e : (.fieldLink "StackHost" 9 "StackHost" "tape" "[B" : Cond) ∈ xt_tbl := xt_in (xt_t2 (List.mem_of_getElem? (i := 82) (by decide +kernel))) (by decide +kernel)
set_option maxRecDepth 100000 in
def T_H_feedNumber : List (Nat × Instr × Nat) := [(0, .bipush 24, 2), (2, .istore_n 2, 1), (3, .iload_n 2, 1), (4, .ifCond .lt 32, 3), (7, .aload_n 0, 1), (8, .getfield 9, 3), (11, .aload_n 0, 1), (12, .getfield 58, 3), (15, .iload_n 1, 1), (16, .iload_n 2, 1), (17, .iushr, 1), (18, .i2b, 1), (19, .bastore, 1), (20, .aload_n 0, 1), (21, .dup, 1), (22, .getfield 58, 3), (25, .iconst 1, 1), (26, .iadd, 1), (27, .putfield 58, 3), (30, .iinc 2 (-8), 3), (33, .goto (-30), 3), (36, .return_, 1)]
theorem D_H_feedNumber : ∀ q ∈ T_H_feedNumber, decode b_H_feedNumber q.1 = .ok (q.2.1, q.2.2) := by decide +kernel

set_option maxHeartbeats 4000000 in
set_option maxRecDepth 100000 in
theorem am_H_feedNumber_L3 (l : Launch) (hfl : l.flags = pinnedFlags ++ [noTraceFlag]) (D : va_G) (A : Nat → Prop) (σ MC MS : Nat) (h0 : xb_H) (Qr : xb_H → Prop) (n9 : Nat) : ∀ (x0 : Nat) (x1 : Int32) (x2 : Int32) (h : xb_H), w_H_feedNumber_L3 Qr n9 x0 x1 x2 h → xb_am l D A σ 2 MC MS h0 (fun v h _ _ => v = none ∧ Qr h) (fun _ _ _ _ => False) y_H_feedNumber.cls y_H_feedNumber.name b_H_feedNumber 3 ([] : List ExceptionTableEntry) none 3 [(0, .ref x0), (1, .int x1), (2, .int x2)] [] h 0 0 := by
  induction n9 with
  | zero => intro x0 x1 x2 h hw; exact False.elim hw
  | succ n9 ih =>
    intro x0 x1 x2 h hw
    unfold w_H_feedNumber_L3 at hw
    intro p e s m args below meth c hC H locs ls k n hE hl hR hS hk hn
    obtain ⟨hx, hb, hown, hlocks, htab, hml, hr, hB, hA, hnm⟩ := id hC
    have hts := hB.1.1.at args
    refine lv_iload_n hx hb (xb_d D_H_feedNumber 2 rfl) rfl (lv_at hl 2 rfl) ?_
    refine lv_if_lt (tgt := 36) hx hb (xb_d D_H_feedNumber 3 rfl) rfl (fun hc1 => ?_) (fun hc1 => ?_)
    · have hw := hw.1 hc1
      exact xb_vret 0 0 hx hb hr hlocks (show k + 0 ≤ MC by omega) (show n + 0 ≤ MS by omega) hE hR hS (xb_d D_H_feedNumber 21 rfl) hw
    · have hw := hw.2 hc1
      refine lv_aload_n hx hb (xb_d D_H_feedNumber 4 rfl) rfl (lv_at hl 0 rfl) ?_
      obtain ⟨hk2, hw⟩ := hw
      refine xb_getP (C := R_H) (T := F_H) (N := 11) hx hb 0 0 hts fin_H hown hR hk2 (by decide) rfl (by decide) rfl (hts _ m_4570233e) (fun _ h9 => h9) (xb_d D_H_feedNumber 5 rfl) ?_
      obtain ⟨b3, eb3, hw⟩ := hw
      refine xb_some eb3 ?_
      refine lv_aload_n hx hb (xb_d D_H_feedNumber 6 rfl) rfl (lv_at hl 0 rfl) ?_
      refine xb_getI (C := R_H) (T := F_H) (N := 11) hx hb 0 1 hts fin_H hown hR hk2 (by decide) rfl (by decide) rfl (hts _ m_1ee8d2b8) (fun _ h9 => h9) (xb_d D_H_feedNumber 7 rfl) ?_
      refine lv_iload_n hx hb (xb_d D_H_feedNumber 8 rfl) rfl (lv_at hl 1 rfl) ?_
      refine lv_iload_n hx hb (xb_d D_H_feedNumber 9 rfl) rfl (lv_at hl 2 rfl) ?_
      refine lv_iushr (v := xb_ushr x1 x2) hx hb (xb_d D_H_feedNumber 10 rfl) rfl ?_
      refine lv_i2b hx hb (xb_d D_H_feedNumber 11 rfl) rfl ?_
      obtain ⟨hk4, hw⟩ := hw
      obtain ⟨hi5, hw⟩ := hw
      refine xb_bast hx hb hR hS hk4 hi5 (xb_d D_H_feedNumber 12 rfl) (fun H locs hR hS => ?_)
      obtain ⟨h6, eh6⟩ : ∃ x : xb_H, x = xb_I h b3 (Int32.toNatClampNeg (xb_i h x0 1)) (vp_nar .byte ((Int32.toInt8 (xb_ushr x1 x2)).toInt32)) := ⟨_, rfl⟩
      rw [← eh6] at hR
      have hw := hw h6 eh6
      have hE : xb_ext h0 h6 := by rw [eh6]; exact hE
      refine lv_aload_n hx hb (xb_d D_H_feedNumber 13 rfl) rfl (lv_at hl 0 rfl) ?_
      refine lv_dup hx hb (xb_d D_H_feedNumber 14 rfl) rfl ?_
      have hk2 : xb_k h6 x0 = 1 := by rw [eh6]; exact hk2
      refine xb_getI (C := R_H) (T := F_H) (N := 11) hx hb 0 1 hts fin_H hown hR hk2 (by decide) rfl (by decide) rfl (hts _ m_1ee8d2b8) (fun _ h9 => h9) (xb_d D_H_feedNumber 15 rfl) ?_
      refine lv_iconst (v := 1) hx hb (xb_d D_H_feedNumber 16 rfl) (by decide) ?_
      refine lv_iadd hx hb (xb_d D_H_feedNumber 17 rfl) ?_
      refine xb_putI (C := R_H) (T := F_H) (N := 11) (ty := .int) (x := ((xb_i h6 x0 1) + 1)) hx hb 0 1 hts fin_H t_H t_H_ok n_H hown hR hS hk2 (by decide) rfl (by decide) rfl (hts _ m_1ee8d2b8) (fun _ h9 => h9) rfl (by decide +kernel) rfl rfl (xb_d D_H_feedNumber 18 rfl) (fun H locs hR hS => ?_)
      obtain ⟨h7, eh7⟩ : ∃ x : xb_H, x = xb_I h6 x0 1 ((xb_i h6 x0 1) + 1) := ⟨_, rfl⟩
      rw [← eh7] at hR
      have hw := hw h7 eh7
      have hE : xb_ext h0 h7 := by rw [eh7]; exact hE
      refine lv_iinc (v := (x2 + (-8))) (k := 2) hx hb (xb_d D_H_feedNumber 19 rfl) hl rfl (by first | rfl | decide) (by decide) rfl (fun ls hl => ?_)
      have hl : lv_has ls 3 [(2, .int (x2 + (-8))), (0, .ref x0), (1, .int x1)] := hl
      refine lv_goto (tgt := 3) hx hb (xb_d D_H_feedNumber 20 rfl) rfl ?_
      exact ih x0 x1 (x2 + (-8)) h7 hw p e s m args below meth c hC H locs ls k n hE (lv_sub hl [1, 2, 0] rfl) hR hS (by omega) (by omega)

set_option maxHeartbeats 4000000 in
set_option maxRecDepth 100000 in
theorem ok_H_feedNumber (l : Launch) (hfl : l.flags = pinnedFlags ++ [noTraceFlag]) (D : va_G) (A : Nat → Prop) (σ : Nat) (x0 : Nat) (x1 : Int32) (h : xb_H) (Qr : xb_H → Prop) (hw : w_H_feedNumber x0 x1 h Qr) : xb_Met l y_H_feedNumber [.code y_H_feedNumber b_H_feedNumber 3 none] (xb_rm 2 0 0) (xb_Pc D A σ h [.ref x0, .int x1]) (xb_Qc D A h 0 0 (fun v h _ _ => v = none ∧ Qr h) (fun _ _ _ _ => False)) A := by
  refine xb_ofAm (cc := b_H_feedNumber) (by decide) (Nat.le_of_ble_eq_true rfl) ?_
  unfold w_H_feedNumber at hw
  show xb_am l D A σ 2 0 0 h (fun v h _ _ => v = none ∧ Qr h) (fun _ _ _ _ => False) y_H_feedNumber.cls y_H_feedNumber.name b_H_feedNumber 3 ([] : List ExceptionTableEntry) none 0 [(0, .ref x0), (1, .int x1)] [] h 0 0
  obtain ⟨MC, hMC⟩ : ∃ x, x = 0 := ⟨_, rfl⟩
  obtain ⟨MS, hMS⟩ : ∃ x, x = 0 := ⟨_, rfl⟩
  rw [show xb_am l D A σ 2 0 0 = xb_am l D A σ 2 MC MS by rw [hMC, hMS]]
  obtain ⟨h0, hh0⟩ : ∃ x, x = h := ⟨_, rfl⟩
  rw [show xb_am l D A σ 2 MC MS h = xb_am l D A σ 2 MC MS h0 by rw [hh0]]
  intro p e s m args below meth c hC H locs ls k n hE hl hR hS hk hn
  obtain ⟨hx, hb, hown, hlocks, htab, hml, hr, hB, hA, hnm⟩ := id hC
  have hts := hB.1.1.at args
  refine lv_bipush (v := 24) hx hb (xb_d D_H_feedNumber 0 rfl) (by decide) ?_
  refine lv_istore_n hx hb (xb_d D_H_feedNumber 1 rfl) rfl hl (by decide) rfl (fun ls hl => ?_)
  have hl : lv_has ls 3 [(2, .int 24), (0, .ref x0), (1, .int x1)] := hl
  obtain ⟨n8, hw⟩ := hw
  exact am_H_feedNumber_L3 l hfl D A σ MC MS h0 Qr n8 x0 x1 24 h hw p e s m args below meth c hC H locs ls k n hE (lv_sub hl [1, 2, 0] rfl) hR hS (by omega) (by omega)

theorem m_c2325a2f : (.fieldLink "StackHost" 211 "StackHost$World" "instanceCount" "I" : Cond) ∈ xt_tbl := xt_in (xt_t1 (List.mem_of_getElem? (i := 167) (by decide +kernel))) (by decide +kernel)
theorem m_e4549c48 : (.fieldLink "StackHost" 181 "StackHost$World" "instances" "[LStackHost$Instance;" : Cond) ∈ xt_tbl := xt_in (xt_t1 (List.mem_of_getElem? (i := 165) (by decide +kernel))) (by decide +kernel)
set_option maxRecDepth 100000 in
def T_H_instanceNumbered : List (Nat × Instr × Nat) := [(0, .iload_n 1, 1), (1, .ifCond .lt 14, 3), (4, .iload_n 1, 1), (5, .aload_n 0, 1), (6, .getfield 36, 3), (9, .getfield 211, 3), (12, .if_icmp .lt 13, 3), (15, .new 117, 3), (18, .dup, 1), (19, .ldc 214, 2), (21, .invokespecial 121, 3), (24, .athrow, 1), (25, .aload_n 0, 1), (26, .getfield 36, 3), (29, .getfield 181, 3), (32, .iload_n 1, 1), (33, .aaload, 1), (34, .areturn, 1)]
theorem D_H_instanceNumbered : ∀ q ∈ T_H_instanceNumbered, decode b_H_instanceNumbered q.1 = .ok (q.2.1, q.2.2) := by decide +kernel

set_option maxHeartbeats 4000000 in
set_option maxRecDepth 100000 in
theorem am_H_instanceNumbered_L15 (l : Launch) (hfl : l.flags = pinnedFlags ++ [noTraceFlag]) (D : va_G) (A : Nat → Prop) (σ MC MS : Nat) (h0 : xb_H) (Qr : Nat → xb_H → Nat → Nat → Prop) (Qt : String → xb_H → Nat → Nat → Prop) (h : xb_H) (bc : Nat) (bs : Nat) (hw : w_H_instanceNumbered_L15 Qr Qt h bc bs) : xb_am l D A σ 2 MC MS h0 (fun v h bc bs => ∃ r, v = some (.ref r) ∧ Qr r h bc bs) Qt y_H_instanceNumbered.cls y_H_instanceNumbered.name b_H_instanceNumbered 2 ([] : List ExceptionTableEntry) (some (.object "StackHost$Instance")) 15 [] [] h bc bs := by
  unfold w_H_instanceNumbered_L15 at hw
  intro p e s m args below meth c hC H locs ls k n hE hl hR hS hk hn
  obtain ⟨hx, hb, hown, hlocks, htab, hml, hr, hB, hA, hnm⟩ := id hC
  have hts := hB.1.1.at args
  obtain ⟨hc9, hs9, hw⟩ := hw
  exact xb_throw (names := ["java/lang/RuntimeException", "java/lang/Exception"]) hx hb (hml.trans hl.1.symm) hlocks hfl hown xsite_206374 hB hS (show k + bc ≤ MC by omega) (show n + bs ≤ MS by omega) hc9 hs9 (by decide) (Nat.le_of_ble_eq_true rfl) htab (xb_d D_H_instanceNumbered 7 rfl) (xb_d D_H_instanceNumbered 8 rfl) xt_l2 (xb_d D_H_instanceNumbered 9 rfl) (xb_d D_H_instanceNumbered 10 rfl) (xb_d D_H_instanceNumbered 11 rfl) hE hR hw

set_option maxHeartbeats 4000000 in
set_option maxRecDepth 100000 in
theorem ok_H_instanceNumbered (l : Launch) (hfl : l.flags = pinnedFlags ++ [noTraceFlag]) (D : va_G) (A : Nat → Prop) (σ : Nat) (x0 : Nat) (x1 : Int32) (h : xb_H) (bc : Nat) (bs : Nat) (Qr : Nat → xb_H → Nat → Nat → Prop) (Qt : String → xb_H → Nat → Nat → Prop) (hw : w_H_instanceNumbered x0 x1 h bc bs Qr Qt) : xb_Met l y_H_instanceNumbered [.code y_H_instanceNumbered b_H_instanceNumbered 2 (some (.object "StackHost$Instance"))] (xb_rm 2 bc bs) (xb_Pc D A σ h [.ref x0, .int x1]) (xb_Qc D A h bc bs (fun v h bc bs => ∃ r, v = some (.ref r) ∧ Qr r h bc bs) Qt) A := by
  refine xb_ofAm (cc := b_H_instanceNumbered) (by decide) (Nat.le_of_ble_eq_true rfl) ?_
  unfold w_H_instanceNumbered at hw
  show xb_am l D A σ 2 bc bs h (fun v h bc bs => ∃ r, v = some (.ref r) ∧ Qr r h bc bs) Qt y_H_instanceNumbered.cls y_H_instanceNumbered.name b_H_instanceNumbered 2 ([] : List ExceptionTableEntry) (some (.object "StackHost$Instance")) 0 [(0, .ref x0), (1, .int x1)] [] h bc bs
  obtain ⟨MC, hMC⟩ : ∃ x, x = bc := ⟨_, rfl⟩
  obtain ⟨MS, hMS⟩ : ∃ x, x = bs := ⟨_, rfl⟩
  rw [show xb_am l D A σ 2 bc bs = xb_am l D A σ 2 MC MS by rw [hMC, hMS]]
  obtain ⟨h0, hh0⟩ : ∃ x, x = h := ⟨_, rfl⟩
  rw [show xb_am l D A σ 2 MC MS h = xb_am l D A σ 2 MC MS h0 by rw [hh0]]
  intro p e s m args below meth c hC H locs ls k n hE hl hR hS hk hn
  obtain ⟨hx, hb, hown, hlocks, htab, hml, hr, hB, hA, hnm⟩ := id hC
  have hts := hB.1.1.at args
  refine lv_iload_n hx hb (xb_d D_H_instanceNumbered 0 rfl) rfl (lv_at hl 1 rfl) ?_
  refine lv_if_lt (tgt := 15) hx hb (xb_d D_H_instanceNumbered 1 rfl) rfl (fun hc1 => ?_) (fun hc1 => ?_)
  · have hw := hw.1 hc1
    exact am_H_instanceNumbered_L15 l hfl D A σ MC MS h0 Qr Qt h bc bs hw p e s m args below meth c hC H locs ls k n hE (lv_sub hl [] rfl) hR hS (by omega) (by omega)
  · have hw := hw.2 hc1
    refine lv_iload_n hx hb (xb_d D_H_instanceNumbered 2 rfl) rfl (lv_at hl 1 rfl) ?_
    refine lv_aload_n hx hb (xb_d D_H_instanceNumbered 3 rfl) rfl (lv_at hl 0 rfl) ?_
    obtain ⟨hk2, hw⟩ := hw
    refine xb_getP (C := R_H) (T := F_H) (N := 11) hx hb 0 6 hts fin_H hown hR hk2 (by decide) rfl (by decide) rfl (hts _ m_3ac6c4ed) (fun _ h9 => h9) (xb_d D_H_instanceNumbered 4 rfl) ?_
    obtain ⟨b3, eb3, hw⟩ := hw
    refine xb_some eb3 ?_
    obtain ⟨hk4, hw⟩ := hw
    refine xb_getI (C := R_World) (T := F_World) (N := 16) hx hb 6 1 hts fin_World hown hR hk4 (by decide) rfl (by decide) rfl (hts _ m_c2325a2f) (fun _ h9 => h9) (xb_d D_H_instanceNumbered 5 rfl) ?_
    refine lv_icmp_lt (tgt := 25) hx hb (xb_d D_H_instanceNumbered 6 rfl) rfl (fun hc5 => ?_) (fun hc5 => ?_)
    · have hw := hw.1 hc5
      refine lv_aload_n hx hb (xb_d D_H_instanceNumbered 12 rfl) rfl (lv_at hl 0 rfl) ?_
      refine xb_getP (C := R_H) (T := F_H) (N := 11) hx hb 0 6 hts fin_H hown hR hk2 (by decide) rfl (by decide) rfl (hts _ m_3ac6c4ed) (fun _ h9 => h9) (xb_d D_H_instanceNumbered 13 rfl) ?_
      obtain ⟨b6, eb6, hw⟩ := hw
      refine xb_some eb6 ?_
      obtain ⟨hk7, hw⟩ := hw
      refine xb_getP (C := R_World) (T := F_World) (N := 16) hx hb 6 0 hts fin_World hown hR hk7 (by decide) rfl (by decide) rfl (hts _ m_e4549c48) (fun _ h9 => h9) (xb_d D_H_instanceNumbered 14 rfl) ?_
      obtain ⟨b8, eb8, hw⟩ := hw
      refine xb_some eb8 ?_
      refine lv_iload_n hx hb (xb_d D_H_instanceNumbered 15 rfl) rfl (lv_at hl 1 rfl) ?_
      obtain ⟨hk10, hw⟩ := hw
      obtain ⟨hi9, hw⟩ := hw
      refine xb_aald105 hx hb hR hk10 hi9 (xb_d D_H_instanceNumbered 16 rfl) ?_
      obtain ⟨b11, eb11, hw⟩ := hw
      refine xb_some eb11 ?_
      exact xb_aret bc bs hx hb hr (by first | exact Or.inl ⟨_, rfl⟩ | exact Or.inr ⟨_, rfl⟩) hlocks (show k + bc ≤ MC by omega) (show n + bs ≤ MS by omega) hE hR hS (xb_d D_H_instanceNumbered 17 rfl) hw
    · have hw := hw.2 hc5
      exact am_H_instanceNumbered_L15 l hfl D A σ MC MS h0 Qr Qt h bc bs hw p e s m args below meth c hC H locs ls k n hE (lv_sub hl [] rfl) hR hS (by omega) (by omega)

theorem m_9075cfd3 : (.fieldLink "StackHost" 112 "StackHost" "moduleCount" "I" : Cond) ∈ xt_tbl := xt_in (xt_t2 (List.mem_of_getElem? (i := 85) (by decide +kernel))) (by decide +kernel)
theorem m_3f8a3106 : (.fieldLink "StackHost" 15 "StackHost" "modules" "[LStackHost$StackModule;" : Cond) ∈ xt_tbl := xt_in (xt_t2 (List.mem_of_getElem? (i := 84) (by decide +kernel))) (by decide +kernel)
set_option maxRecDepth 100000 in
def T_H_moduleNumbered : List (Nat × Instr × Nat) := [(0, .iload_n 1, 1), (1, .ifCond .lt 11, 3), (4, .iload_n 1, 1), (5, .aload_n 0, 1), (6, .getfield 112, 3), (9, .if_icmp .lt 13, 3), (12, .new 117, 3), (15, .dup, 1), (16, .ldc 159, 2), (18, .invokespecial 121, 3), (21, .athrow, 1), (22, .aload_n 0, 1), (23, .getfield 15, 3), (26, .iload_n 1, 1), (27, .aaload, 1), (28, .areturn, 1)]
theorem D_H_moduleNumbered : ∀ q ∈ T_H_moduleNumbered, decode b_H_moduleNumbered q.1 = .ok (q.2.1, q.2.2) := by decide +kernel

set_option maxHeartbeats 4000000 in
set_option maxRecDepth 100000 in
theorem am_H_moduleNumbered_L12 (l : Launch) (hfl : l.flags = pinnedFlags ++ [noTraceFlag]) (D : va_G) (A : Nat → Prop) (σ MC MS : Nat) (h0 : xb_H) (Qr : Nat → xb_H → Nat → Nat → Prop) (Qt : String → xb_H → Nat → Nat → Prop) (h : xb_H) (bc : Nat) (bs : Nat) (hw : w_H_moduleNumbered_L12 Qr Qt h bc bs) : xb_am l D A σ 2 MC MS h0 (fun v h bc bs => ∃ r, v = some (.ref r) ∧ Qr r h bc bs) Qt y_H_moduleNumbered.cls y_H_moduleNumbered.name b_H_moduleNumbered 2 ([] : List ExceptionTableEntry) (some (.object "StackHost$StackModule")) 12 [] [] h bc bs := by
  unfold w_H_moduleNumbered_L12 at hw
  intro p e s m args below meth c hC H locs ls k n hE hl hR hS hk hn
  obtain ⟨hx, hb, hown, hlocks, htab, hml, hr, hB, hA, hnm⟩ := id hC
  have hts := hB.1.1.at args
  obtain ⟨hc9, hs9, hw⟩ := hw
  exact xb_throw (names := ["java/lang/RuntimeException", "java/lang/Exception"]) hx hb (hml.trans hl.1.symm) hlocks hfl hown xsite_d670f4 hB hS (show k + bc ≤ MC by omega) (show n + bs ≤ MS by omega) hc9 hs9 (by decide) (Nat.le_of_ble_eq_true rfl) htab (xb_d D_H_moduleNumbered 6 rfl) (xb_d D_H_moduleNumbered 7 rfl) xt_l2 (xb_d D_H_moduleNumbered 8 rfl) (xb_d D_H_moduleNumbered 9 rfl) (xb_d D_H_moduleNumbered 10 rfl) hE hR hw

set_option maxHeartbeats 4000000 in
set_option maxRecDepth 100000 in
theorem ok_H_moduleNumbered (l : Launch) (hfl : l.flags = pinnedFlags ++ [noTraceFlag]) (D : va_G) (A : Nat → Prop) (σ : Nat) (x0 : Nat) (x1 : Int32) (h : xb_H) (bc : Nat) (bs : Nat) (Qr : Nat → xb_H → Nat → Nat → Prop) (Qt : String → xb_H → Nat → Nat → Prop) (hw : w_H_moduleNumbered x0 x1 h bc bs Qr Qt) : xb_Met l y_H_moduleNumbered [.code y_H_moduleNumbered b_H_moduleNumbered 2 (some (.object "StackHost$StackModule"))] (xb_rm 2 bc bs) (xb_Pc D A σ h [.ref x0, .int x1]) (xb_Qc D A h bc bs (fun v h bc bs => ∃ r, v = some (.ref r) ∧ Qr r h bc bs) Qt) A := by
  refine xb_ofAm (cc := b_H_moduleNumbered) (by decide) (Nat.le_of_ble_eq_true rfl) ?_
  unfold w_H_moduleNumbered at hw
  show xb_am l D A σ 2 bc bs h (fun v h bc bs => ∃ r, v = some (.ref r) ∧ Qr r h bc bs) Qt y_H_moduleNumbered.cls y_H_moduleNumbered.name b_H_moduleNumbered 2 ([] : List ExceptionTableEntry) (some (.object "StackHost$StackModule")) 0 [(0, .ref x0), (1, .int x1)] [] h bc bs
  obtain ⟨MC, hMC⟩ : ∃ x, x = bc := ⟨_, rfl⟩
  obtain ⟨MS, hMS⟩ : ∃ x, x = bs := ⟨_, rfl⟩
  rw [show xb_am l D A σ 2 bc bs = xb_am l D A σ 2 MC MS by rw [hMC, hMS]]
  obtain ⟨h0, hh0⟩ : ∃ x, x = h := ⟨_, rfl⟩
  rw [show xb_am l D A σ 2 MC MS h = xb_am l D A σ 2 MC MS h0 by rw [hh0]]
  intro p e s m args below meth c hC H locs ls k n hE hl hR hS hk hn
  obtain ⟨hx, hb, hown, hlocks, htab, hml, hr, hB, hA, hnm⟩ := id hC
  have hts := hB.1.1.at args
  refine lv_iload_n hx hb (xb_d D_H_moduleNumbered 0 rfl) rfl (lv_at hl 1 rfl) ?_
  refine lv_if_lt (tgt := 12) hx hb (xb_d D_H_moduleNumbered 1 rfl) rfl (fun hc1 => ?_) (fun hc1 => ?_)
  · have hw := hw.1 hc1
    exact am_H_moduleNumbered_L12 l hfl D A σ MC MS h0 Qr Qt h bc bs hw p e s m args below meth c hC H locs ls k n hE (lv_sub hl [] rfl) hR hS (by omega) (by omega)
  · have hw := hw.2 hc1
    refine lv_iload_n hx hb (xb_d D_H_moduleNumbered 2 rfl) rfl (lv_at hl 1 rfl) ?_
    refine lv_aload_n hx hb (xb_d D_H_moduleNumbered 3 rfl) rfl (lv_at hl 0 rfl) ?_
    obtain ⟨hk2, hw⟩ := hw
    refine xb_getI (C := R_H) (T := F_H) (N := 11) hx hb 0 3 hts fin_H hown hR hk2 (by decide) rfl (by decide) rfl (hts _ m_9075cfd3) (fun _ h9 => h9) (xb_d D_H_moduleNumbered 4 rfl) ?_
    refine lv_icmp_lt (tgt := 22) hx hb (xb_d D_H_moduleNumbered 5 rfl) rfl (fun hc3 => ?_) (fun hc3 => ?_)
    · have hw := hw.1 hc3
      refine lv_aload_n hx hb (xb_d D_H_moduleNumbered 11 rfl) rfl (lv_at hl 0 rfl) ?_
      refine xb_getP (C := R_H) (T := F_H) (N := 11) hx hb 0 2 hts fin_H hown hR hk2 (by decide) rfl (by decide) rfl (hts _ m_3f8a3106) (fun _ h9 => h9) (xb_d D_H_moduleNumbered 12 rfl) ?_
      obtain ⟨b4, eb4, hw⟩ := hw
      refine xb_some eb4 ?_
      refine lv_iload_n hx hb (xb_d D_H_moduleNumbered 13 rfl) rfl (lv_at hl 1 rfl) ?_
      obtain ⟨hk6, hw⟩ := hw
      obtain ⟨hi5, hw⟩ := hw
      refine xb_aald104 hx hb hR hk6 hi5 (xb_d D_H_moduleNumbered 14 rfl) ?_
      obtain ⟨b7, eb7, hw⟩ := hw
      refine xb_some eb7 ?_
      exact xb_aret bc bs hx hb hr (by first | exact Or.inl ⟨_, rfl⟩ | exact Or.inr ⟨_, rfl⟩) hlocks (show k + bc ≤ MC by omega) (show n + bs ≤ MS by omega) hE hR hS (xb_d D_H_moduleNumbered 15 rfl) hw
    · have hw := hw.2 hc3
      exact am_H_moduleNumbered_L12 l hfl D A σ MC MS h0 Qr Qt h bc bs hw p e s m args below meth c hC H locs ls k n hE (lv_sub hl [] rfl) hR hS (by omega) (by omega)

theorem m_f8d1fcbb : (.fieldLink "StackHost" 311 "StackHost$Row" "items" "[J" : Cond) ∈ xt_tbl := xt_in (xt_t1 (List.mem_of_getElem? (i := 149) (by decide +kernel))) (by decide +kernel)
set_option maxRecDepth 100000 in
def T_H_out : List (Nat × Instr × Nat) := [(0, .iload_n 1, 1), (1, .ifCond .lt 17, 3), (4, .iload_n 1, 1), (5, .aload_n 0, 1), (6, .getfield 36, 3), (9, .getfield 338, 3), (12, .getfield 242, 3), (15, .if_icmp .lt 14, 3), (18, .new 117, 3), (21, .dup, 1), (22, .ldc_w 341, 3), (25, .invokespecial 121, 3), (28, .athrow, 1), (29, .aload_n 0, 1), (30, .getfield 36, 3), (33, .getfield 338, 3), (36, .getfield 311, 3), (39, .iload_n 1, 1), (40, .laload, 1), (41, .lreturn, 1)]
theorem D_H_out : ∀ q ∈ T_H_out, decode b_H_out q.1 = .ok (q.2.1, q.2.2) := by decide +kernel

set_option maxHeartbeats 4000000 in
set_option maxRecDepth 100000 in
theorem am_H_out_L18 (l : Launch) (hfl : l.flags = pinnedFlags ++ [noTraceFlag]) (D : va_G) (A : Nat → Prop) (σ MC MS : Nat) (h0 : xb_H) (Qr : Int64 → xb_H → Nat → Nat → Prop) (Qt : String → xb_H → Nat → Nat → Prop) (h : xb_H) (bc : Nat) (bs : Nat) (hw : w_H_out_L18 Qr Qt h bc bs) : xb_am l D A σ 2 MC MS h0 (fun v h bc bs => ∃ r, v = some (.long r) ∧ Qr r h bc bs) Qt y_H_out.cls y_H_out.name b_H_out 2 ([] : List ExceptionTableEntry) (some .long) 18 [] [] h bc bs := by
  unfold w_H_out_L18 at hw
  intro p e s m args below meth c hC H locs ls k n hE hl hR hS hk hn
  obtain ⟨hx, hb, hown, hlocks, htab, hml, hr, hB, hA, hnm⟩ := id hC
  have hts := hB.1.1.at args
  obtain ⟨hc9, hs9, hw⟩ := hw
  exact xb_throw (names := ["java/lang/RuntimeException", "java/lang/Exception"]) hx hb (hml.trans hl.1.symm) hlocks hfl hown xsite_43a97d hB hS (show k + bc ≤ MC by omega) (show n + bs ≤ MS by omega) hc9 hs9 (by decide) (Nat.le_of_ble_eq_true rfl) htab (xb_d D_H_out 8 rfl) (xb_d D_H_out 9 rfl) xt_l3 (xb_d D_H_out 10 rfl) (xb_d D_H_out 11 rfl) (xb_d D_H_out 12 rfl) hE hR hw

set_option maxHeartbeats 4000000 in
set_option maxRecDepth 100000 in
theorem ok_H_out (l : Launch) (hfl : l.flags = pinnedFlags ++ [noTraceFlag]) (D : va_G) (A : Nat → Prop) (σ : Nat) (x0 : Nat) (x1 : Int32) (h : xb_H) (bc : Nat) (bs : Nat) (Qr : Int64 → xb_H → Nat → Nat → Prop) (Qt : String → xb_H → Nat → Nat → Prop) (hw : w_H_out x0 x1 h bc bs Qr Qt) : xb_Met l y_H_out [.code y_H_out b_H_out 2 (some .long)] (xb_rm 2 bc bs) (xb_Pc D A σ h [.ref x0, .int x1]) (xb_Qc D A h bc bs (fun v h bc bs => ∃ r, v = some (.long r) ∧ Qr r h bc bs) Qt) A := by
  refine xb_ofAm (cc := b_H_out) (by decide) (Nat.le_of_ble_eq_true rfl) ?_
  unfold w_H_out at hw
  show xb_am l D A σ 2 bc bs h (fun v h bc bs => ∃ r, v = some (.long r) ∧ Qr r h bc bs) Qt y_H_out.cls y_H_out.name b_H_out 2 ([] : List ExceptionTableEntry) (some .long) 0 [(0, .ref x0), (1, .int x1)] [] h bc bs
  obtain ⟨MC, hMC⟩ : ∃ x, x = bc := ⟨_, rfl⟩
  obtain ⟨MS, hMS⟩ : ∃ x, x = bs := ⟨_, rfl⟩
  rw [show xb_am l D A σ 2 bc bs = xb_am l D A σ 2 MC MS by rw [hMC, hMS]]
  obtain ⟨h0, hh0⟩ : ∃ x, x = h := ⟨_, rfl⟩
  rw [show xb_am l D A σ 2 MC MS h = xb_am l D A σ 2 MC MS h0 by rw [hh0]]
  intro p e s m args below meth c hC H locs ls k n hE hl hR hS hk hn
  obtain ⟨hx, hb, hown, hlocks, htab, hml, hr, hB, hA, hnm⟩ := id hC
  have hts := hB.1.1.at args
  refine lv_iload_n hx hb (xb_d D_H_out 0 rfl) rfl (lv_at hl 1 rfl) ?_
  refine lv_if_lt (tgt := 18) hx hb (xb_d D_H_out 1 rfl) rfl (fun hc1 => ?_) (fun hc1 => ?_)
  · have hw := hw.1 hc1
    exact am_H_out_L18 l hfl D A σ MC MS h0 Qr Qt h bc bs hw p e s m args below meth c hC H locs ls k n hE (lv_sub hl [] rfl) hR hS (by omega) (by omega)
  · have hw := hw.2 hc1
    refine lv_iload_n hx hb (xb_d D_H_out 2 rfl) rfl (lv_at hl 1 rfl) ?_
    refine lv_aload_n hx hb (xb_d D_H_out 3 rfl) rfl (lv_at hl 0 rfl) ?_
    obtain ⟨hk2, hw⟩ := hw
    refine xb_getP (C := R_H) (T := F_H) (N := 11) hx hb 0 6 hts fin_H hown hR hk2 (by decide) rfl (by decide) rfl (hts _ m_3ac6c4ed) (fun _ h9 => h9) (xb_d D_H_out 4 rfl) ?_
    obtain ⟨b3, eb3, hw⟩ := hw
    refine xb_some eb3 ?_
    obtain ⟨hk4, hw⟩ := hw
    refine xb_getP (C := R_World) (T := F_World) (N := 16) hx hb 6 6 hts fin_World hown hR hk4 (by decide) rfl (by decide) rfl (hts _ m_6985478d) (fun _ h9 => h9) (xb_d D_H_out 5 rfl) ?_
    obtain ⟨b5, eb5, hw⟩ := hw
    refine xb_some eb5 ?_
    obtain ⟨hk6, hw⟩ := hw
    refine xb_getI (C := R_Row) (T := F_Row) (N := 3) hx hb 1 1 hts fin_Row hown hR hk6 (by decide) rfl (by decide) rfl (hts _ m_d32f0086) (fun _ h9 => h9) (xb_d D_H_out 6 rfl) ?_
    refine lv_icmp_lt (tgt := 29) hx hb (xb_d D_H_out 7 rfl) rfl (fun hc7 => ?_) (fun hc7 => ?_)
    · have hw := hw.1 hc7
      refine lv_aload_n hx hb (xb_d D_H_out 13 rfl) rfl (lv_at hl 0 rfl) ?_
      refine xb_getP (C := R_H) (T := F_H) (N := 11) hx hb 0 6 hts fin_H hown hR hk2 (by decide) rfl (by decide) rfl (hts _ m_3ac6c4ed) (fun _ h9 => h9) (xb_d D_H_out 14 rfl) ?_
      obtain ⟨b8, eb8, hw⟩ := hw
      refine xb_some eb8 ?_
      obtain ⟨hk9, hw⟩ := hw
      refine xb_getP (C := R_World) (T := F_World) (N := 16) hx hb 6 6 hts fin_World hown hR hk9 (by decide) rfl (by decide) rfl (hts _ m_6985478d) (fun _ h9 => h9) (xb_d D_H_out 15 rfl) ?_
      obtain ⟨b10, eb10, hw⟩ := hw
      refine xb_some eb10 ?_
      obtain ⟨hk11, hw⟩ := hw
      refine xb_getP (C := R_Row) (T := F_Row) (N := 3) hx hb 1 0 hts fin_Row hown hR hk11 (by decide) rfl (by decide) rfl (hts _ m_f8d1fcbb) (fun _ h9 => h9) (xb_d D_H_out 16 rfl) ?_
      obtain ⟨b12, eb12, hw⟩ := hw
      refine xb_some eb12 ?_
      refine lv_iload_n hx hb (xb_d D_H_out 17 rfl) rfl (lv_at hl 1 rfl) ?_
      obtain ⟨hk14, hw⟩ := hw
      obtain ⟨hi13, hw⟩ := hw
      refine xb_lald hx hb hR hk14 hi13 (xb_d D_H_out 18 rfl) ?_
      exact xb_lret bc bs hx hb hr hlocks (show k + bc ≤ MC by omega) (show n + bs ≤ MS by omega) hE hR hS (xb_d D_H_out 19 rfl) hw
    · have hw := hw.2 hc7
      exact am_H_out_L18 l hfl D A σ MC MS h0 Qr Qt h bc bs hw p e s m args below meth c hC H locs ls k n hE (lv_sub hl [] rfl) hR hS (by omega) (by omega)

set_option maxRecDepth 100000 in
def T_H_outs : List (Nat × Instr × Nat) := [(0, .aload_n 0, 1), (1, .getfield 36, 3), (4, .getfield 338, 3), (7, .getfield 242, 3), (10, .ireturn, 1)]
theorem D_H_outs : ∀ q ∈ T_H_outs, decode b_H_outs q.1 = .ok (q.2.1, q.2.2) := by decide +kernel

set_option maxHeartbeats 4000000 in
set_option maxRecDepth 100000 in
theorem ok_H_outs (l : Launch) (hfl : l.flags = pinnedFlags ++ [noTraceFlag]) (D : va_G) (A : Nat → Prop) (σ : Nat) (x0 : Nat) (h : xb_H) (Qr : Int32 → xb_H → Prop) (hw : w_H_outs x0 h Qr) : xb_Met l y_H_outs [.code y_H_outs b_H_outs 1 (some .int)] (xb_rm 2 0 0) (xb_Pc D A σ h [.ref x0]) (xb_Qc D A h 0 0 (fun v h _ _ => ∃ r, v = some (.int r) ∧ Qr r h) (fun _ _ _ _ => False)) A := by
  refine xb_ofAm (cc := b_H_outs) (by decide) (Nat.le_of_ble_eq_true rfl) ?_
  unfold w_H_outs at hw
  show xb_am l D A σ 2 0 0 h (fun v h _ _ => ∃ r, v = some (.int r) ∧ Qr r h) (fun _ _ _ _ => False) y_H_outs.cls y_H_outs.name b_H_outs 1 ([] : List ExceptionTableEntry) (some .int) 0 [(0, .ref x0)] [] h 0 0
  obtain ⟨MC, hMC⟩ : ∃ x, x = 0 := ⟨_, rfl⟩
  obtain ⟨MS, hMS⟩ : ∃ x, x = 0 := ⟨_, rfl⟩
  rw [show xb_am l D A σ 2 0 0 = xb_am l D A σ 2 MC MS by rw [hMC, hMS]]
  obtain ⟨h0, hh0⟩ : ∃ x, x = h := ⟨_, rfl⟩
  rw [show xb_am l D A σ 2 MC MS h = xb_am l D A σ 2 MC MS h0 by rw [hh0]]
  intro p e s m args below meth c hC H locs ls k n hE hl hR hS hk hn
  obtain ⟨hx, hb, hown, hlocks, htab, hml, hr, hB, hA, hnm⟩ := id hC
  have hts := hB.1.1.at args
  refine lv_aload_n hx hb (xb_d D_H_outs 0 rfl) rfl (lv_at hl 0 rfl) ?_
  obtain ⟨hk1, hw⟩ := hw
  refine xb_getP (C := R_H) (T := F_H) (N := 11) hx hb 0 6 hts fin_H hown hR hk1 (by decide) rfl (by decide) rfl (hts _ m_3ac6c4ed) (fun _ h9 => h9) (xb_d D_H_outs 1 rfl) ?_
  obtain ⟨b2, eb2, hw⟩ := hw
  refine xb_some eb2 ?_
  obtain ⟨hk3, hw⟩ := hw
  refine xb_getP (C := R_World) (T := F_World) (N := 16) hx hb 6 6 hts fin_World hown hR hk3 (by decide) rfl (by decide) rfl (hts _ m_6985478d) (fun _ h9 => h9) (xb_d D_H_outs 2 rfl) ?_
  obtain ⟨b4, eb4, hw⟩ := hw
  refine xb_some eb4 ?_
  obtain ⟨hk5, hw⟩ := hw
  refine xb_getI (C := R_Row) (T := F_Row) (N := 3) hx hb 1 1 hts fin_Row hown hR hk5 (by decide) rfl (by decide) rfl (hts _ m_d32f0086) (fun _ h9 => h9) (xb_d D_H_outs 3 rfl) ?_
  exact xb_iret 0 0 hx hb hr hlocks (show k + 0 ≤ MC by omega) (show n + 0 ≤ MS by omega) hE hR hS (xb_d D_H_outs 4 rfl) hw

set_option maxRecDepth 100000 in
def T_H_refuseModuleBeyondLimit : List (Nat × Instr × Nat) := [(0, .aload_n 0, 1), (1, .getfield 112, 3), (4, .bipush 64, 2), (6, .if_icmp .ne 13, 3), (9, .new 63, 3), (12, .dup, 1), (13, .ldc 115, 2), (15, .invokespecial 67, 3), (18, .athrow, 1), (19, .return_, 1)]
theorem D_H_refuseModuleBeyondLimit : ∀ q ∈ T_H_refuseModuleBeyondLimit, decode b_H_refuseModuleBeyondLimit q.1 = .ok (q.2.1, q.2.2) := by decide +kernel

set_option maxHeartbeats 4000000 in
set_option maxRecDepth 100000 in
theorem ok_H_refuseModuleBeyondLimit (l : Launch) (hfl : l.flags = pinnedFlags ++ [noTraceFlag]) (D : va_G) (A : Nat → Prop) (σ : Nat) (x0 : Nat) (h : xb_H) (bc : Nat) (bs : Nat) (Qr : xb_H → Nat → Nat → Prop) (Qt : String → xb_H → Nat → Nat → Prop) (hw : w_H_refuseModuleBeyondLimit x0 h bc bs Qr Qt) : xb_Met l y_H_refuseModuleBeyondLimit [.code y_H_refuseModuleBeyondLimit b_H_refuseModuleBeyondLimit 1 none] (xb_rm 2 bc bs) (xb_Pc D A σ h [.ref x0]) (xb_Qc D A h bc bs (fun v h bc bs => v = none ∧ Qr h bc bs) Qt) A := by
  refine xb_ofAm (cc := b_H_refuseModuleBeyondLimit) (by decide) (Nat.le_of_ble_eq_true rfl) ?_
  unfold w_H_refuseModuleBeyondLimit at hw
  show xb_am l D A σ 2 bc bs h (fun v h bc bs => v = none ∧ Qr h bc bs) Qt y_H_refuseModuleBeyondLimit.cls y_H_refuseModuleBeyondLimit.name b_H_refuseModuleBeyondLimit 1 ([] : List ExceptionTableEntry) none 0 [(0, .ref x0)] [] h bc bs
  obtain ⟨MC, hMC⟩ : ∃ x, x = bc := ⟨_, rfl⟩
  obtain ⟨MS, hMS⟩ : ∃ x, x = bs := ⟨_, rfl⟩
  rw [show xb_am l D A σ 2 bc bs = xb_am l D A σ 2 MC MS by rw [hMC, hMS]]
  obtain ⟨h0, hh0⟩ : ∃ x, x = h := ⟨_, rfl⟩
  rw [show xb_am l D A σ 2 MC MS h = xb_am l D A σ 2 MC MS h0 by rw [hh0]]
  intro p e s m args below meth c hC H locs ls k n hE hl hR hS hk hn
  obtain ⟨hx, hb, hown, hlocks, htab, hml, hr, hB, hA, hnm⟩ := id hC
  have hts := hB.1.1.at args
  refine lv_aload_n hx hb (xb_d D_H_refuseModuleBeyondLimit 0 rfl) rfl (lv_at hl 0 rfl) ?_
  obtain ⟨hk1, hw⟩ := hw
  refine xb_getI (C := R_H) (T := F_H) (N := 11) hx hb 0 3 hts fin_H hown hR hk1 (by decide) rfl (by decide) rfl (hts _ m_9075cfd3) (fun _ h9 => h9) (xb_d D_H_refuseModuleBeyondLimit 1 rfl) ?_
  refine lv_bipush (v := 64) hx hb (xb_d D_H_refuseModuleBeyondLimit 2 rfl) (by decide) ?_
  refine lv_icmp_ne (tgt := 19) hx hb (xb_d D_H_refuseModuleBeyondLimit 3 rfl) rfl (fun hc2 => ?_) (fun hc2 => ?_)
  · have hw := hw.1 hc2
    exact xb_vret bc bs hx hb hr hlocks (show k + bc ≤ MC by omega) (show n + bs ≤ MS by omega) hE hR hS (xb_d D_H_refuseModuleBeyondLimit 9 rfl) hw
  · have hw := hw.2 hc2
    obtain ⟨hc9, hs9, hw⟩ := hw
    exact xb_throw (names := ["java/lang/RuntimeException", "java/lang/Exception"]) hx hb (hml.trans hl.1.symm) hlocks hfl hown xsite_9d0c1f hB hS (show k + bc ≤ MC by omega) (show n + bs ≤ MS by omega) hc9 hs9 (by decide) (Nat.le_of_ble_eq_true rfl) htab (xb_d D_H_refuseModuleBeyondLimit 4 rfl) (xb_d D_H_refuseModuleBeyondLimit 5 rfl) xt_l2 (xb_d D_H_refuseModuleBeyondLimit 6 rfl) (xb_d D_H_refuseModuleBeyondLimit 7 rfl) (xb_d D_H_refuseModuleBeyondLimit 8 rfl) hE hR hw

theorem m_de837f39 : (.fieldLink "StackHost" 194 "StackHost$Machine" "underWay" "Z" : Cond) ∈ xt_tbl := xt_in (xt_t2 (List.mem_of_getElem? (i := 25) (by decide +kernel))) (by decide +kernel)
set_option maxRecDepth 100000 in
def T_H_refuseWhileUnderWay : List (Nat × Instr × Nat) := [(0, .aload_n 0, 1), (1, .getfield 45, 3), (4, .getfield 194, 3), (7, .ifCond .eq 13, 3), (10, .new 63, 3), (13, .dup, 1), (14, .ldc 198, 2), (16, .invokespecial 67, 3), (19, .athrow, 1), (20, .return_, 1)]
theorem D_H_refuseWhileUnderWay : ∀ q ∈ T_H_refuseWhileUnderWay, decode b_H_refuseWhileUnderWay q.1 = .ok (q.2.1, q.2.2) := by decide +kernel

set_option maxHeartbeats 4000000 in
set_option maxRecDepth 100000 in
theorem ok_H_refuseWhileUnderWay (l : Launch) (hfl : l.flags = pinnedFlags ++ [noTraceFlag]) (D : va_G) (A : Nat → Prop) (σ : Nat) (x0 : Nat) (h : xb_H) (bc : Nat) (bs : Nat) (Qr : xb_H → Nat → Nat → Prop) (Qt : String → xb_H → Nat → Nat → Prop) (hw : w_H_refuseWhileUnderWay x0 h bc bs Qr Qt) : xb_Met l y_H_refuseWhileUnderWay [.code y_H_refuseWhileUnderWay b_H_refuseWhileUnderWay 1 none] (xb_rm 2 bc bs) (xb_Pc D A σ h [.ref x0]) (xb_Qc D A h bc bs (fun v h bc bs => v = none ∧ Qr h bc bs) Qt) A := by
  refine xb_ofAm (cc := b_H_refuseWhileUnderWay) (by decide) (Nat.le_of_ble_eq_true rfl) ?_
  unfold w_H_refuseWhileUnderWay at hw
  show xb_am l D A σ 2 bc bs h (fun v h bc bs => v = none ∧ Qr h bc bs) Qt y_H_refuseWhileUnderWay.cls y_H_refuseWhileUnderWay.name b_H_refuseWhileUnderWay 1 ([] : List ExceptionTableEntry) none 0 [(0, .ref x0)] [] h bc bs
  obtain ⟨MC, hMC⟩ : ∃ x, x = bc := ⟨_, rfl⟩
  obtain ⟨MS, hMS⟩ : ∃ x, x = bs := ⟨_, rfl⟩
  rw [show xb_am l D A σ 2 bc bs = xb_am l D A σ 2 MC MS by rw [hMC, hMS]]
  obtain ⟨h0, hh0⟩ : ∃ x, x = h := ⟨_, rfl⟩
  rw [show xb_am l D A σ 2 MC MS h = xb_am l D A σ 2 MC MS h0 by rw [hh0]]
  intro p e s m args below meth c hC H locs ls k n hE hl hR hS hk hn
  obtain ⟨hx, hb, hown, hlocks, htab, hml, hr, hB, hA, hnm⟩ := id hC
  have hts := hB.1.1.at args
  refine lv_aload_n hx hb (xb_d D_H_refuseWhileUnderWay 0 rfl) rfl (lv_at hl 0 rfl) ?_
  obtain ⟨hk1, hw⟩ := hw
  refine xb_getP (C := R_H) (T := F_H) (N := 11) hx hb 0 7 hts fin_H hown hR hk1 (by decide) rfl (by decide) rfl (hts _ m_ab10058e) (fun _ h9 => h9) (xb_d D_H_refuseWhileUnderWay 1 rfl) ?_
  obtain ⟨b2, eb2, hw⟩ := hw
  refine xb_some eb2 ?_
  obtain ⟨hk3, hw⟩ := hw
  refine xb_getI (C := R_Machine) (T := F_Machine) (N := 18) hx hb 7 3 hts fin_Machine hown hR hk3 (by decide) rfl (by decide) rfl (hts _ m_de837f39) (fun _ h9 => h9) (xb_d D_H_refuseWhileUnderWay 2 rfl) ?_
  refine lv_if_eq (tgt := 20) hx hb (xb_d D_H_refuseWhileUnderWay 3 rfl) rfl (fun hc4 => ?_) (fun hc4 => ?_)
  · have hw := hw.1 hc4
    exact xb_vret bc bs hx hb hr hlocks (show k + bc ≤ MC by omega) (show n + bs ≤ MS by omega) hE hR hS (xb_d D_H_refuseWhileUnderWay 9 rfl) hw
  · have hw := hw.2 hc4
    obtain ⟨hc9, hs9, hw⟩ := hw
    exact xb_throw (names := ["java/lang/RuntimeException", "java/lang/Exception"]) hx hb (hml.trans hl.1.symm) hlocks hfl hown xsite_ad387a hB hS (show k + bc ≤ MC by omega) (show n + bs ≤ MS by omega) hc9 hs9 (by decide) (Nat.le_of_ble_eq_true rfl) htab (xb_d D_H_refuseWhileUnderWay 4 rfl) (xb_d D_H_refuseWhileUnderWay 5 rfl) xt_l2 (xb_d D_H_refuseWhileUnderWay 6 rfl) (xb_d D_H_refuseWhileUnderWay 7 rfl) (xb_d D_H_refuseWhileUnderWay 8 rfl) hE hR hw

theorem m_bf3f69c6 : (.fieldLink "StackHost" 273 "StackHost$Machine" "latestResult" "J" : Cond) ∈ xt_tbl := xt_in (xt_t2 (List.mem_of_getElem? (i := 29) (by decide +kernel))) (by decide +kernel)
set_option maxRecDepth 100000 in
def T_H_result : List (Nat × Instr × Nat) := [(0, .aload_n 0, 1), (1, .getfield 45, 3), (4, .getfield 273, 3), (7, .lreturn, 1)]
theorem D_H_result : ∀ q ∈ T_H_result, decode b_H_result q.1 = .ok (q.2.1, q.2.2) := by decide +kernel

set_option maxHeartbeats 4000000 in
set_option maxRecDepth 100000 in
theorem ok_H_result (l : Launch) (hfl : l.flags = pinnedFlags ++ [noTraceFlag]) (D : va_G) (A : Nat → Prop) (σ : Nat) (x0 : Nat) (h : xb_H) (Qr : Int64 → xb_H → Prop) (hw : w_H_result x0 h Qr) : xb_Met l y_H_result [.code y_H_result b_H_result 1 (some .long)] (xb_rm 2 0 0) (xb_Pc D A σ h [.ref x0]) (xb_Qc D A h 0 0 (fun v h _ _ => ∃ r, v = some (.long r) ∧ Qr r h) (fun _ _ _ _ => False)) A := by
  refine xb_ofAm (cc := b_H_result) (by decide) (Nat.le_of_ble_eq_true rfl) ?_
  unfold w_H_result at hw
  show xb_am l D A σ 2 0 0 h (fun v h _ _ => ∃ r, v = some (.long r) ∧ Qr r h) (fun _ _ _ _ => False) y_H_result.cls y_H_result.name b_H_result 1 ([] : List ExceptionTableEntry) (some .long) 0 [(0, .ref x0)] [] h 0 0
  obtain ⟨MC, hMC⟩ : ∃ x, x = 0 := ⟨_, rfl⟩
  obtain ⟨MS, hMS⟩ : ∃ x, x = 0 := ⟨_, rfl⟩
  rw [show xb_am l D A σ 2 0 0 = xb_am l D A σ 2 MC MS by rw [hMC, hMS]]
  obtain ⟨h0, hh0⟩ : ∃ x, x = h := ⟨_, rfl⟩
  rw [show xb_am l D A σ 2 MC MS h = xb_am l D A σ 2 MC MS h0 by rw [hh0]]
  intro p e s m args below meth c hC H locs ls k n hE hl hR hS hk hn
  obtain ⟨hx, hb, hown, hlocks, htab, hml, hr, hB, hA, hnm⟩ := id hC
  have hts := hB.1.1.at args
  refine lv_aload_n hx hb (xb_d D_H_result 0 rfl) rfl (lv_at hl 0 rfl) ?_
  obtain ⟨hk1, hw⟩ := hw
  refine xb_getP (C := R_H) (T := F_H) (N := 11) hx hb 0 7 hts fin_H hown hR hk1 (by decide) rfl (by decide) rfl (hts _ m_ab10058e) (fun _ h9 => h9) (xb_d D_H_result 1 rfl) ?_
  obtain ⟨b2, eb2, hw⟩ := hw
  refine xb_some eb2 ?_
  obtain ⟨hk3, hw⟩ := hw
  refine xb_getL (C := R_Machine) (T := F_Machine) (N := 18) hx hb 7 5 hts fin_Machine hown hR hk3 (by decide) rfl (by decide) rfl (hts _ m_bf3f69c6) (fun _ h9 => h9) (xb_d D_H_result 2 rfl) ?_
  exact xb_lret 0 0 hx hb hr hlocks (show k + 0 ≤ MC by omega) (show n + 0 ≤ MS by omega) hE hR hS (xb_d D_H_result 3 rfl) hw

theorem m_33f06862 : (.fieldLink "StackHost" 277 "StackHost$Machine" "latestTrap" "[I" : Cond) ∈ xt_tbl := xt_in (xt_t2 (List.mem_of_getElem? (i := 31) (by decide +kernel))) (by decide +kernel)
set_option maxRecDepth 100000 in
def T_H_trap : List (Nat × Instr × Nat) := [(0, .iload_n 1, 1), (1, .ifCond .lt 15, 3), (4, .iload_n 1, 1), (5, .aload_n 0, 1), (6, .getfield 45, 3), (9, .getfield 277, 3), (12, .arraylength, 1), (13, .if_icmp .lt 14, 3), (16, .new 117, 3), (19, .dup, 1), (20, .ldc_w 281, 3), (23, .invokespecial 121, 3), (26, .athrow, 1), (27, .aload_n 0, 1), (28, .getfield 45, 3), (31, .getfield 277, 3), (34, .iload_n 1, 1), (35, .iaload, 1), (36, .ireturn, 1)]
theorem D_H_trap : ∀ q ∈ T_H_trap, decode b_H_trap q.1 = .ok (q.2.1, q.2.2) := by decide +kernel

set_option maxHeartbeats 4000000 in
set_option maxRecDepth 100000 in
theorem am_H_trap_L16 (l : Launch) (hfl : l.flags = pinnedFlags ++ [noTraceFlag]) (D : va_G) (A : Nat → Prop) (σ MC MS : Nat) (h0 : xb_H) (Qr : Int32 → xb_H → Nat → Nat → Prop) (Qt : String → xb_H → Nat → Nat → Prop) (h : xb_H) (bc : Nat) (bs : Nat) (hw : w_H_trap_L16 Qr Qt h bc bs) : xb_am l D A σ 2 MC MS h0 (fun v h bc bs => ∃ r, v = some (.int r) ∧ Qr r h bc bs) Qt y_H_trap.cls y_H_trap.name b_H_trap 2 ([] : List ExceptionTableEntry) (some .int) 16 [] [] h bc bs := by
  unfold w_H_trap_L16 at hw
  intro p e s m args below meth c hC H locs ls k n hE hl hR hS hk hn
  obtain ⟨hx, hb, hown, hlocks, htab, hml, hr, hB, hA, hnm⟩ := id hC
  have hts := hB.1.1.at args
  obtain ⟨hc9, hs9, hw⟩ := hw
  exact xb_throw (names := ["java/lang/RuntimeException", "java/lang/Exception"]) hx hb (hml.trans hl.1.symm) hlocks hfl hown xsite_1fa5ae hB hS (show k + bc ≤ MC by omega) (show n + bs ≤ MS by omega) hc9 hs9 (by decide) (Nat.le_of_ble_eq_true rfl) htab (xb_d D_H_trap 8 rfl) (xb_d D_H_trap 9 rfl) xt_l3 (xb_d D_H_trap 10 rfl) (xb_d D_H_trap 11 rfl) (xb_d D_H_trap 12 rfl) hE hR hw

set_option maxHeartbeats 4000000 in
set_option maxRecDepth 100000 in
theorem ok_H_trap (l : Launch) (hfl : l.flags = pinnedFlags ++ [noTraceFlag]) (D : va_G) (A : Nat → Prop) (σ : Nat) (x0 : Nat) (x1 : Int32) (h : xb_H) (bc : Nat) (bs : Nat) (Qr : Int32 → xb_H → Nat → Nat → Prop) (Qt : String → xb_H → Nat → Nat → Prop) (hw : w_H_trap x0 x1 h bc bs Qr Qt) : xb_Met l y_H_trap [.code y_H_trap b_H_trap 2 (some .int)] (xb_rm 2 bc bs) (xb_Pc D A σ h [.ref x0, .int x1]) (xb_Qc D A h bc bs (fun v h bc bs => ∃ r, v = some (.int r) ∧ Qr r h bc bs) Qt) A := by
  refine xb_ofAm (cc := b_H_trap) (by decide) (Nat.le_of_ble_eq_true rfl) ?_
  unfold w_H_trap at hw
  show xb_am l D A σ 2 bc bs h (fun v h bc bs => ∃ r, v = some (.int r) ∧ Qr r h bc bs) Qt y_H_trap.cls y_H_trap.name b_H_trap 2 ([] : List ExceptionTableEntry) (some .int) 0 [(0, .ref x0), (1, .int x1)] [] h bc bs
  obtain ⟨MC, hMC⟩ : ∃ x, x = bc := ⟨_, rfl⟩
  obtain ⟨MS, hMS⟩ : ∃ x, x = bs := ⟨_, rfl⟩
  rw [show xb_am l D A σ 2 bc bs = xb_am l D A σ 2 MC MS by rw [hMC, hMS]]
  obtain ⟨h0, hh0⟩ : ∃ x, x = h := ⟨_, rfl⟩
  rw [show xb_am l D A σ 2 MC MS h = xb_am l D A σ 2 MC MS h0 by rw [hh0]]
  intro p e s m args below meth c hC H locs ls k n hE hl hR hS hk hn
  obtain ⟨hx, hb, hown, hlocks, htab, hml, hr, hB, hA, hnm⟩ := id hC
  have hts := hB.1.1.at args
  refine lv_iload_n hx hb (xb_d D_H_trap 0 rfl) rfl (lv_at hl 1 rfl) ?_
  refine lv_if_lt (tgt := 16) hx hb (xb_d D_H_trap 1 rfl) rfl (fun hc1 => ?_) (fun hc1 => ?_)
  · have hw := hw.1 hc1
    exact am_H_trap_L16 l hfl D A σ MC MS h0 Qr Qt h bc bs hw p e s m args below meth c hC H locs ls k n hE (lv_sub hl [] rfl) hR hS (by omega) (by omega)
  · have hw := hw.2 hc1
    refine lv_iload_n hx hb (xb_d D_H_trap 2 rfl) rfl (lv_at hl 1 rfl) ?_
    refine lv_aload_n hx hb (xb_d D_H_trap 3 rfl) rfl (lv_at hl 0 rfl) ?_
    obtain ⟨hk2, hw⟩ := hw
    refine xb_getP (C := R_H) (T := F_H) (N := 11) hx hb 0 7 hts fin_H hown hR hk2 (by decide) rfl (by decide) rfl (hts _ m_ab10058e) (fun _ h9 => h9) (xb_d D_H_trap 4 rfl) ?_
    obtain ⟨b3, eb3, hw⟩ := hw
    refine xb_some eb3 ?_
    obtain ⟨hk4, hw⟩ := hw
    refine xb_getP (C := R_Machine) (T := F_Machine) (N := 18) hx hb 7 6 hts fin_Machine hown hR hk4 (by decide) rfl (by decide) rfl (hts _ m_33f06862) (fun _ h9 => h9) (xb_d D_H_trap 5 rfl) ?_
    obtain ⟨b5, eb5, hw⟩ := hw
    refine xb_some eb5 ?_
    obtain ⟨hk6, hw⟩ := hw
    refine xb_alen hx hb hR hk6 (by decide) (xb_d D_H_trap 6 rfl) ?_
    refine lv_icmp_lt (tgt := 27) hx hb (xb_d D_H_trap 7 rfl) rfl (fun hc7 => ?_) (fun hc7 => ?_)
    · have hw := hw.1 hc7
      refine lv_aload_n hx hb (xb_d D_H_trap 13 rfl) rfl (lv_at hl 0 rfl) ?_
      refine xb_getP (C := R_H) (T := F_H) (N := 11) hx hb 0 7 hts fin_H hown hR hk2 (by decide) rfl (by decide) rfl (hts _ m_ab10058e) (fun _ h9 => h9) (xb_d D_H_trap 14 rfl) ?_
      obtain ⟨b8, eb8, hw⟩ := hw
      refine xb_some eb8 ?_
      obtain ⟨hk9, hw⟩ := hw
      refine xb_getP (C := R_Machine) (T := F_Machine) (N := 18) hx hb 7 6 hts fin_Machine hown hR hk9 (by decide) rfl (by decide) rfl (hts _ m_33f06862) (fun _ h9 => h9) (xb_d D_H_trap 15 rfl) ?_
      obtain ⟨b10, eb10, hw⟩ := hw
      refine xb_some eb10 ?_
      refine lv_iload_n hx hb (xb_d D_H_trap 16 rfl) rfl (lv_at hl 1 rfl) ?_
      obtain ⟨hk12, hw⟩ := hw
      obtain ⟨hi11, hw⟩ := hw
      refine xb_iald hx hb hR hk12 hi11 (xb_d D_H_trap 17 rfl) ?_
      exact xb_iret bc bs hx hb hr hlocks (show k + bc ≤ MC by omega) (show n + bs ≤ MS by omega) hE hR hS (xb_d D_H_trap 18 rfl) hw
    · have hw := hw.2 hc7
      exact am_H_trap_L16 l hfl D A σ MC MS h0 Qr Qt h bc bs hw p e s m args below meth c hC H locs ls k n hE (lv_sub hl [] rfl) hR hS (by omega) (by omega)

set_option maxRecDepth 100000 in
def T_H_wrong : List (Nat × Instr × Nat) := [(0, .iconst 0, 1), (1, .ireturn, 1)]
theorem D_H_wrong : ∀ q ∈ T_H_wrong, decode b_H_wrong q.1 = .ok (q.2.1, q.2.2) := by decide +kernel

set_option maxHeartbeats 4000000 in
set_option maxRecDepth 100000 in
theorem ok_H_wrong (l : Launch) (hfl : l.flags = pinnedFlags ++ [noTraceFlag]) (D : va_G) (A : Nat → Prop) (σ : Nat) (x0 : Nat) (h : xb_H) (Qr : Int32 → xb_H → Prop) (hw : w_H_wrong x0 h Qr) : xb_Met l y_H_wrong [.code y_H_wrong b_H_wrong 1 (some .int)] (xb_rm 2 0 0) (xb_Pc D A σ h [.ref x0]) (xb_Qc D A h 0 0 (fun v h _ _ => ∃ r, v = some (.int r) ∧ Qr r h) (fun _ _ _ _ => False)) A := by
  refine xb_ofAm (cc := b_H_wrong) (by decide) (Nat.le_of_ble_eq_true rfl) ?_
  unfold w_H_wrong at hw
  show xb_am l D A σ 2 0 0 h (fun v h _ _ => ∃ r, v = some (.int r) ∧ Qr r h) (fun _ _ _ _ => False) y_H_wrong.cls y_H_wrong.name b_H_wrong 1 ([] : List ExceptionTableEntry) (some .int) 0 [(0, .ref x0)] [] h 0 0
  obtain ⟨MC, hMC⟩ : ∃ x, x = 0 := ⟨_, rfl⟩
  obtain ⟨MS, hMS⟩ : ∃ x, x = 0 := ⟨_, rfl⟩
  rw [show xb_am l D A σ 2 0 0 = xb_am l D A σ 2 MC MS by rw [hMC, hMS]]
  obtain ⟨h0, hh0⟩ : ∃ x, x = h := ⟨_, rfl⟩
  rw [show xb_am l D A σ 2 MC MS h = xb_am l D A σ 2 MC MS h0 by rw [hh0]]
  intro p e s m args below meth c hC H locs ls k n hE hl hR hS hk hn
  obtain ⟨hx, hb, hown, hlocks, htab, hml, hr, hB, hA, hnm⟩ := id hC
  have hts := hB.1.1.at args
  refine lv_iconst (v := 0) hx hb (xb_d D_H_wrong 0 rfl) (by decide) ?_
  exact xb_iret 0 0 hx hb hr hlocks (show k + 0 ≤ MC by omega) (show n + 0 ≤ MS by omega) hE hR hS (xb_d D_H_wrong 1 rfl) hw

theorem m_db7173ad : (.methodLink "StackHost$Checker" 3 objectInit : Cond) ∈ xt_tbl := xt_in (xt_t1 (List.mem_of_getElem? (i := 76) (by decide +kernel))) (by decide +kernel)
theorem m_fba9d542 : (.instanceMethod objectInit : Cond) ∈ xt_tbl := xt_in (xt_t1 (List.mem_of_getElem? (i := 40) (by decide +kernel))) (by decide +kernel)
theorem m_9febdb7e : (.code objectInit ⟨#[0xb1]⟩ 1 none : Cond) ∈ xt_tbl := xt_in (xt_t1 (List.mem_of_getElem? (i := 41) (by decide +kernel))) (by decide +kernel)
theorem m_2503b19f : (.arrayClass .byte : Cond) ∈ xt_tbl := xt_in (xt_t1 (List.mem_of_getElem? (i := 69) (by decide +kernel))) (by decide +kernel)
theorem m_9eace759 : (.fieldLink "StackHost$Checker" 9 "StackHost$Checker" "operands" "[B" : Cond) ∈ xt_tbl := xt_in (xt_t1 (List.mem_of_getElem? (i := 80) (by decide +kernel))) (by decide +kernel)
theorem m_c12a5435 : (.fieldLink "StackHost$Checker" 15 "StackHost$Checker" "locals" "[B" : Cond) ∈ xt_tbl := xt_in (xt_t1 (List.mem_of_getElem? (i := 83) (by decide +kernel))) (by decide +kernel)
theorem m_d160d5ac : (.arrayClass .int : Cond) ∈ xt_tbl := xt_in (xt_t1 (List.mem_of_getElem? (i := 70) (by decide +kernel))) (by decide +kernel)
theorem m_934b59dc : (.fieldLink "StackHost$Checker" 18 "StackHost$Checker" "openKind" "[I" : Cond) ∈ xt_tbl := xt_in (xt_t1 (List.mem_of_getElem? (i := 87) (by decide +kernel))) (by decide +kernel)
theorem m_64d01396 : (.fieldLink "StackHost$Checker" 22 "StackHost$Checker" "openAt" "[I" : Cond) ∈ xt_tbl := xt_in (xt_t1 (List.mem_of_getElem? (i := 88) (by decide +kernel))) (by decide +kernel)
theorem m_8a464e71 : (.fieldLink "StackHost$Checker" 25 "StackHost$Checker" "labelType" "[I" : Cond) ∈ xt_tbl := xt_in (xt_t1 (List.mem_of_getElem? (i := 89) (by decide +kernel))) (by decide +kernel)
theorem m_8413ec5e : (.fieldLink "StackHost$Checker" 28 "StackHost$Checker" "endType" "[I" : Cond) ∈ xt_tbl := xt_in (xt_t1 (List.mem_of_getElem? (i := 90) (by decide +kernel))) (by decide +kernel)
theorem m_a3869304 : (.fieldLink "StackHost$Checker" 31 "StackHost$Checker" "height" "[I" : Cond) ∈ xt_tbl := xt_in (xt_t1 (List.mem_of_getElem? (i := 91) (by decide +kernel))) (by decide +kernel)
theorem m_3be30871 : (.arrayClass .boolean : Cond) ∈ xt_tbl := xt_in (xt_t1 (List.mem_of_getElem? (i := 129) (by decide +kernel))) (by decide +kernel)
theorem m_b845fcd1 : (.fieldLink "StackHost$Checker" 34 "StackHost$Checker" "dead" "[Z" : Cond) ∈ xt_tbl := xt_in (xt_t1 (List.mem_of_getElem? (i := 92) (by decide +kernel))) (by decide +kernel)
set_option maxRecDepth 100000 in
def T_Checker_init : List (Nat × Instr × Nat) := [(0, .aload_n 0, 1), (1, .invokespecial 3, 3), (4, .aload_n 0, 1), (5, .iconst 1, 1), (6, .newarray .byte, 2), (8, .putfield 9, 3), (11, .aload_n 0, 1), (12, .sipush 1000, 3), (15, .newarray .byte, 2), (17, .putfield 15, 3), (20, .aload_n 0, 1), (21, .sipush 201, 3), (24, .newarray .int, 2), (26, .putfield 18, 3), (29, .aload_n 0, 1), (30, .sipush 201, 3), (33, .newarray .int, 2), (35, .putfield 22, 3), (38, .aload_n 0, 1), (39, .sipush 201, 3), (42, .newarray .int, 2), (44, .putfield 25, 3), (47, .aload_n 0, 1), (48, .sipush 201, 3), (51, .newarray .int, 2), (53, .putfield 28, 3), (56, .aload_n 0, 1), (57, .sipush 201, 3), (60, .newarray .int, 2), (62, .putfield 31, 3), (65, .aload_n 0, 1), (66, .sipush 201, 3), (69, .newarray .boolean, 2), (71, .putfield 34, 3), (74, .return_, 1)]
theorem D_Checker_init : ∀ q ∈ T_Checker_init, decode b_Checker_init q.1 = .ok (q.2.1, q.2.2) := by decide +kernel

set_option maxHeartbeats 4000000 in
set_option maxRecDepth 100000 in
theorem ok_Checker_init (l : Launch) (hfl : l.flags = pinnedFlags ++ [noTraceFlag]) (D : va_G) (A : Nat → Prop) (σ : Nat) (x0 : Nat) (h : xb_H) (bc : Nat) (bs : Nat) (Qr : xb_H → Nat → Nat → Prop) (hw : w_Checker_init x0 h bc bs Qr) : xb_Met l y_Checker_init [.code y_Checker_init b_Checker_init 1 none] (xb_rm 2 bc bs) (xb_Pc D A σ h [.ref x0]) (xb_Qc D A h bc bs (fun v h bc bs => v = none ∧ Qr h bc bs) (fun _ _ _ _ => False)) A := by
  refine xb_ofAm (cc := b_Checker_init) (by decide) (Nat.le_of_ble_eq_true rfl) ?_
  unfold w_Checker_init at hw
  show xb_am l D A σ 2 bc bs h (fun v h bc bs => v = none ∧ Qr h bc bs) (fun _ _ _ _ => False) y_Checker_init.cls y_Checker_init.name b_Checker_init 1 ([] : List ExceptionTableEntry) none 0 [(0, .ref x0)] [] h bc bs
  obtain ⟨MC, hMC⟩ : ∃ x, x = bc := ⟨_, rfl⟩
  obtain ⟨MS, hMS⟩ : ∃ x, x = bs := ⟨_, rfl⟩
  rw [show xb_am l D A σ 2 bc bs = xb_am l D A σ 2 MC MS by rw [hMC, hMS]]
  obtain ⟨h0, hh0⟩ : ∃ x, x = h := ⟨_, rfl⟩
  rw [show xb_am l D A σ 2 MC MS h = xb_am l D A σ 2 MC MS h0 by rw [hh0]]
  intro p e s m args below meth c hC H locs ls k n hE hl hR hS hk hn
  obtain ⟨hx, hb, hown, hlocks, htab, hml, hr, hB, hA, hnm⟩ := id hC
  have hts := hB.1.1.at args
  refine lv_aload_n hx hb (xb_d D_Checker_init 0 rfl) rfl (lv_at hl 0 rfl) ?_
  refine W.objInit hx hb hown (hts _ m_db7173ad) (hts _ m_fba9d542) (hts _ m_9febdb7e) rfl (hml.trans hl.1.symm).symm rfl (xb_d D_Checker_init 1 rfl) (by show 1 ≤ 8 + _; omega) (Nat.le_trans (Nat.le_of_ble_eq_true rfl : _ ≤ 40) (by show 40 ≤ 120 + _; omega)) ?_
  refine W.eq (g2 := F0 m 4 ls []) rfl ?_
  refine lv_aload_n hx hb (xb_d D_Checker_init 2 rfl) rfl (lv_at hl 0 rfl) ?_
  refine lv_iconst (v := 1) hx hb (xb_d D_Checker_init 3 rfl) (by decide) ?_
  obtain ⟨hcq1, hsq1, hw⟩ := hw
  have enq1 : (1 : Int32).toNatClampNeg = 1 := by decide
  refine xb_newa_b hx hb (hts _ m_2503b19f) hR hS hA (by decide) (by decide +kernel) (show k + 1 ≤ MC by omega) (show n + _ ≤ MS by rw [enq1]; omega) (xb_d D_Checker_init 4 rfl) (fun q1 H hqq1 hR hS => ?_)
  rw [enq1] at hR ⊢
  have hw := hw q1 hqq1
  obtain ⟨h2, eh2⟩ : ∃ x : xb_H, x = xb_new h q1 100 1 := ⟨_, rfl⟩
  rw [← eh2] at hR
  have hw := hw h2 eh2
  have hE : xb_ext h0 h2 := by rw [eh2]; exact hE.new _ _ hqq1
  have hk3 : xb_k h2 q1 = 100 := by rw [eh2]; exact xb_new_k _ _ _ _
  obtain ⟨hk4, hw⟩ := hw
  refine xb_putP (C := R_Checker) (T := F_Checker) (N := 17) (ty := .array .byte) (x := (some q1)) hx hb 4 3 hts fin_Checker t_Checker t_Checker_ok n_Checker hown hR hS hk4 (by decide) rfl (by decide) rfl (hts _ m_9eace759) (fun _ h9 => h9) rfl (by decide +kernel) (xb_pnA _ _).1 (xb_pnA _ _).2 (xb_d D_Checker_init 5 rfl) (fun H locs hR hS => ?_)
  obtain ⟨h5, eh5⟩ : ∃ x : xb_H, x = xb_P h2 x0 3 (some q1) := ⟨_, rfl⟩
  rw [← eh5] at hR
  have hw := hw h5 eh5
  have hE : xb_ext h0 h5 := by rw [eh5]; exact hE
  refine lv_aload_n hx hb (xb_d D_Checker_init 6 rfl) rfl (lv_at hl 0 rfl) ?_
  refine lv_sipush (v := 1000) hx hb (xb_d D_Checker_init 7 rfl) (by decide) ?_
  obtain ⟨hcq6, hsq6, hw⟩ := hw
  have enq6 : (1000 : Int32).toNatClampNeg = 1000 := by decide
  refine xb_newa_b hx hb (hts _ m_2503b19f) hR hS hA (by decide) (by decide +kernel) (show (k + 1) + 1 ≤ MC by omega) (show (n + 1) + _ ≤ MS by rw [enq6]; omega) (xb_d D_Checker_init 8 rfl) (fun q6 H hqq6 hR hS => ?_)
  rw [enq6] at hR ⊢
  have hw := hw q6 hqq6
  obtain ⟨h7, eh7⟩ : ∃ x : xb_H, x = xb_new h5 q6 100 1000 := ⟨_, rfl⟩
  rw [← eh7] at hR
  have hw := hw h7 eh7
  have hE : xb_ext h0 h7 := by rw [eh7]; exact hE.new _ _ hqq6
  have hk8 : xb_k h7 q6 = 100 := by rw [eh7]; exact xb_new_k _ _ _ _
  have hk4 : xb_k h5 x0 = 5 := by rw [eh5]; exact hk4
  have hk4 : xb_k h7 x0 = 5 := by rw [eh7]; exact xb_nk hqq6 hk4
  refine xb_putPF (C := R_Checker) (T := F_Checker) (N := 17) (ty := .array .byte) (x := (some q6)) hx hb 4 6 hts fin_Checker t_Checker t_Checker_ok n_Checker hown hR hS hk4 (by decide) rfl (by decide) rfl (hts _ m_c12a5435) (fun _ h9 => h9) rfl hnm rfl (by decide +kernel) (xb_pnA _ _).1 (xb_pnA _ _).2 (xb_d D_Checker_init 9 rfl) (fun H locs hR hS => ?_)
  obtain ⟨h9, eh9⟩ : ∃ x : xb_H, x = xb_P h7 x0 6 (some q6) := ⟨_, rfl⟩
  rw [← eh9] at hR
  have hw := hw h9 eh9
  have hE : xb_ext h0 h9 := by rw [eh9]; exact hE
  refine lv_aload_n hx hb (xb_d D_Checker_init 10 rfl) rfl (lv_at hl 0 rfl) ?_
  refine lv_sipush (v := 201) hx hb (xb_d D_Checker_init 11 rfl) (by decide) ?_
  obtain ⟨hcq10, hsq10, hw⟩ := hw
  have enq10 : (201 : Int32).toNatClampNeg = 201 := by decide
  refine xb_newa_i hx hb (hts _ m_d160d5ac) hR hS hA (by decide) (by decide +kernel) (show ((k + 1) + 1) + 1 ≤ MC by omega) (show ((n + 1) + 1000) + _ ≤ MS by rw [enq10]; omega) (xb_d D_Checker_init 12 rfl) (fun q10 H hqq10 hR hS => ?_)
  rw [enq10] at hR ⊢
  have hw := hw q10 hqq10
  obtain ⟨h11, eh11⟩ : ∃ x : xb_H, x = xb_new h9 q10 102 201 := ⟨_, rfl⟩
  rw [← eh11] at hR
  have hw := hw h11 eh11
  have hE : xb_ext h0 h11 := by rw [eh11]; exact hE.new _ _ hqq10
  have hk12 : xb_k h11 q10 = 102 := by rw [eh11]; exact xb_new_k _ _ _ _
  have hk4 : xb_k h9 x0 = 5 := by rw [eh9]; exact hk4
  have hk4 : xb_k h11 x0 = 5 := by rw [eh11]; exact xb_nk hqq10 hk4
  refine xb_putPF (C := R_Checker) (T := F_Checker) (N := 17) (ty := .array .int) (x := (some q10)) hx hb 4 10 hts fin_Checker t_Checker t_Checker_ok n_Checker hown hR hS hk4 (by decide) rfl (by decide) rfl (hts _ m_934b59dc) (fun _ h9 => h9) rfl hnm rfl (by decide +kernel) (xb_pnA _ _).1 (xb_pnA _ _).2 (xb_d D_Checker_init 13 rfl) (fun H locs hR hS => ?_)
  obtain ⟨h13, eh13⟩ : ∃ x : xb_H, x = xb_P h11 x0 10 (some q10) := ⟨_, rfl⟩
  rw [← eh13] at hR
  have hw := hw h13 eh13
  have hE : xb_ext h0 h13 := by rw [eh13]; exact hE
  refine lv_aload_n hx hb (xb_d D_Checker_init 14 rfl) rfl (lv_at hl 0 rfl) ?_
  refine lv_sipush (v := 201) hx hb (xb_d D_Checker_init 15 rfl) (by decide) ?_
  obtain ⟨hcq14, hsq14, hw⟩ := hw
  have enq14 : (201 : Int32).toNatClampNeg = 201 := by decide
  refine xb_newa_i hx hb (hts _ m_d160d5ac) hR hS hA (by decide) (by decide +kernel) (show (((k + 1) + 1) + 1) + 1 ≤ MC by omega) (show (((n + 1) + 1000) + 201) + _ ≤ MS by rw [enq14]; omega) (xb_d D_Checker_init 16 rfl) (fun q14 H hqq14 hR hS => ?_)
  rw [enq14] at hR ⊢
  have hw := hw q14 hqq14
  obtain ⟨h15, eh15⟩ : ∃ x : xb_H, x = xb_new h13 q14 102 201 := ⟨_, rfl⟩
  rw [← eh15] at hR
  have hw := hw h15 eh15
  have hE : xb_ext h0 h15 := by rw [eh15]; exact hE.new _ _ hqq14
  have hk16 : xb_k h15 q14 = 102 := by rw [eh15]; exact xb_new_k _ _ _ _
  have hk4 : xb_k h13 x0 = 5 := by rw [eh13]; exact hk4
  have hk4 : xb_k h15 x0 = 5 := by rw [eh15]; exact xb_nk hqq14 hk4
  refine xb_putPF (C := R_Checker) (T := F_Checker) (N := 17) (ty := .array .int) (x := (some q14)) hx hb 4 11 hts fin_Checker t_Checker t_Checker_ok n_Checker hown hR hS hk4 (by decide) rfl (by decide) rfl (hts _ m_64d01396) (fun _ h9 => h9) rfl hnm rfl (by decide +kernel) (xb_pnA _ _).1 (xb_pnA _ _).2 (xb_d D_Checker_init 17 rfl) (fun H locs hR hS => ?_)
  obtain ⟨h17, eh17⟩ : ∃ x : xb_H, x = xb_P h15 x0 11 (some q14) := ⟨_, rfl⟩
  rw [← eh17] at hR
  have hw := hw h17 eh17
  have hE : xb_ext h0 h17 := by rw [eh17]; exact hE
  refine lv_aload_n hx hb (xb_d D_Checker_init 18 rfl) rfl (lv_at hl 0 rfl) ?_
  refine lv_sipush (v := 201) hx hb (xb_d D_Checker_init 19 rfl) (by decide) ?_
  obtain ⟨hcq18, hsq18, hw⟩ := hw
  have enq18 : (201 : Int32).toNatClampNeg = 201 := by decide
  refine xb_newa_i hx hb (hts _ m_d160d5ac) hR hS hA (by decide) (by decide +kernel) (show ((((k + 1) + 1) + 1) + 1) + 1 ≤ MC by omega) (show ((((n + 1) + 1000) + 201) + 201) + _ ≤ MS by rw [enq18]; omega) (xb_d D_Checker_init 20 rfl) (fun q18 H hqq18 hR hS => ?_)
  rw [enq18] at hR ⊢
  have hw := hw q18 hqq18
  obtain ⟨h19, eh19⟩ : ∃ x : xb_H, x = xb_new h17 q18 102 201 := ⟨_, rfl⟩
  rw [← eh19] at hR
  have hw := hw h19 eh19
  have hE : xb_ext h0 h19 := by rw [eh19]; exact hE.new _ _ hqq18
  have hk20 : xb_k h19 q18 = 102 := by rw [eh19]; exact xb_new_k _ _ _ _
  have hk4 : xb_k h17 x0 = 5 := by rw [eh17]; exact hk4
  have hk4 : xb_k h19 x0 = 5 := by rw [eh19]; exact xb_nk hqq18 hk4
  refine xb_putPF (C := R_Checker) (T := F_Checker) (N := 17) (ty := .array .int) (x := (some q18)) hx hb 4 12 hts fin_Checker t_Checker t_Checker_ok n_Checker hown hR hS hk4 (by decide) rfl (by decide) rfl (hts _ m_8a464e71) (fun _ h9 => h9) rfl hnm rfl (by decide +kernel) (xb_pnA _ _).1 (xb_pnA _ _).2 (xb_d D_Checker_init 21 rfl) (fun H locs hR hS => ?_)
  obtain ⟨h21, eh21⟩ : ∃ x : xb_H, x = xb_P h19 x0 12 (some q18) := ⟨_, rfl⟩
  rw [← eh21] at hR
  have hw := hw h21 eh21
  have hE : xb_ext h0 h21 := by rw [eh21]; exact hE
  refine lv_aload_n hx hb (xb_d D_Checker_init 22 rfl) rfl (lv_at hl 0 rfl) ?_
  refine lv_sipush (v := 201) hx hb (xb_d D_Checker_init 23 rfl) (by decide) ?_
  obtain ⟨hcq22, hsq22, hw⟩ := hw
  have enq22 : (201 : Int32).toNatClampNeg = 201 := by decide
  refine xb_newa_i hx hb (hts _ m_d160d5ac) hR hS hA (by decide) (by decide +kernel) (show (((((k + 1) + 1) + 1) + 1) + 1) + 1 ≤ MC by omega) (show (((((n + 1) + 1000) + 201) + 201) + 201) + _ ≤ MS by rw [enq22]; omega) (xb_d D_Checker_init 24 rfl) (fun q22 H hqq22 hR hS => ?_)
  rw [enq22] at hR ⊢
  have hw := hw q22 hqq22
  obtain ⟨h23, eh23⟩ : ∃ x : xb_H, x = xb_new h21 q22 102 201 := ⟨_, rfl⟩
  rw [← eh23] at hR
  have hw := hw h23 eh23
  have hE : xb_ext h0 h23 := by rw [eh23]; exact hE.new _ _ hqq22
  have hk24 : xb_k h23 q22 = 102 := by rw [eh23]; exact xb_new_k _ _ _ _
  have hk4 : xb_k h21 x0 = 5 := by rw [eh21]; exact hk4
  have hk4 : xb_k h23 x0 = 5 := by rw [eh23]; exact xb_nk hqq22 hk4
  refine xb_putPF (C := R_Checker) (T := F_Checker) (N := 17) (ty := .array .int) (x := (some q22)) hx hb 4 13 hts fin_Checker t_Checker t_Checker_ok n_Checker hown hR hS hk4 (by decide) rfl (by decide) rfl (hts _ m_8413ec5e) (fun _ h9 => h9) rfl hnm rfl (by decide +kernel) (xb_pnA _ _).1 (xb_pnA _ _).2 (xb_d D_Checker_init 25 rfl) (fun H locs hR hS => ?_)
  obtain ⟨h25, eh25⟩ : ∃ x : xb_H, x = xb_P h23 x0 13 (some q22) := ⟨_, rfl⟩
  rw [← eh25] at hR
  have hw := hw h25 eh25
  have hE : xb_ext h0 h25 := by rw [eh25]; exact hE
  refine lv_aload_n hx hb (xb_d D_Checker_init 26 rfl) rfl (lv_at hl 0 rfl) ?_
  refine lv_sipush (v := 201) hx hb (xb_d D_Checker_init 27 rfl) (by decide) ?_
  obtain ⟨hcq26, hsq26, hw⟩ := hw
  have enq26 : (201 : Int32).toNatClampNeg = 201 := by decide
  refine xb_newa_i hx hb (hts _ m_d160d5ac) hR hS hA (by decide) (by decide +kernel) (show ((((((k + 1) + 1) + 1) + 1) + 1) + 1) + 1 ≤ MC by omega) (show ((((((n + 1) + 1000) + 201) + 201) + 201) + 201) + _ ≤ MS by rw [enq26]; omega) (xb_d D_Checker_init 28 rfl) (fun q26 H hqq26 hR hS => ?_)
  rw [enq26] at hR ⊢
  have hw := hw q26 hqq26
  obtain ⟨h27, eh27⟩ : ∃ x : xb_H, x = xb_new h25 q26 102 201 := ⟨_, rfl⟩
  rw [← eh27] at hR
  have hw := hw h27 eh27
  have hE : xb_ext h0 h27 := by rw [eh27]; exact hE.new _ _ hqq26
  have hk28 : xb_k h27 q26 = 102 := by rw [eh27]; exact xb_new_k _ _ _ _
  have hk4 : xb_k h25 x0 = 5 := by rw [eh25]; exact hk4
  have hk4 : xb_k h27 x0 = 5 := by rw [eh27]; exact xb_nk hqq26 hk4
  refine xb_putPF (C := R_Checker) (T := F_Checker) (N := 17) (ty := .array .int) (x := (some q26)) hx hb 4 14 hts fin_Checker t_Checker t_Checker_ok n_Checker hown hR hS hk4 (by decide) rfl (by decide) rfl (hts _ m_a3869304) (fun _ h9 => h9) rfl hnm rfl (by decide +kernel) (xb_pnA _ _).1 (xb_pnA _ _).2 (xb_d D_Checker_init 29 rfl) (fun H locs hR hS => ?_)
  obtain ⟨h29, eh29⟩ : ∃ x : xb_H, x = xb_P h27 x0 14 (some q26) := ⟨_, rfl⟩
  rw [← eh29] at hR
  have hw := hw h29 eh29
  have hE : xb_ext h0 h29 := by rw [eh29]; exact hE
  refine lv_aload_n hx hb (xb_d D_Checker_init 30 rfl) rfl (lv_at hl 0 rfl) ?_
  refine lv_sipush (v := 201) hx hb (xb_d D_Checker_init 31 rfl) (by decide) ?_
  obtain ⟨hcq30, hsq30, hw⟩ := hw
  have enq30 : (201 : Int32).toNatClampNeg = 201 := by decide
  refine xb_newa_z hx hb (hts _ m_3be30871) hR hS hA (by decide) (by decide +kernel) (show (((((((k + 1) + 1) + 1) + 1) + 1) + 1) + 1) + 1 ≤ MC by omega) (show (((((((n + 1) + 1000) + 201) + 201) + 201) + 201) + 201) + _ ≤ MS by rw [enq30]; omega) (xb_d D_Checker_init 32 rfl) (fun q30 H hqq30 hR hS => ?_)
  rw [enq30] at hR ⊢
  have hw := hw q30 hqq30
  obtain ⟨h31, eh31⟩ : ∃ x : xb_H, x = xb_new h29 q30 101 201 := ⟨_, rfl⟩
  rw [← eh31] at hR
  have hw := hw h31 eh31
  have hE : xb_ext h0 h31 := by rw [eh31]; exact hE.new _ _ hqq30
  have hk32 : xb_k h31 q30 = 101 := by rw [eh31]; exact xb_new_k _ _ _ _
  have hk4 : xb_k h29 x0 = 5 := by rw [eh29]; exact hk4
  have hk4 : xb_k h31 x0 = 5 := by rw [eh31]; exact xb_nk hqq30 hk4
  refine xb_putPF (C := R_Checker) (T := F_Checker) (N := 17) (ty := .array .boolean) (x := (some q30)) hx hb 4 15 hts fin_Checker t_Checker t_Checker_ok n_Checker hown hR hS hk4 (by decide) rfl (by decide) rfl (hts _ m_b845fcd1) (fun _ h9 => h9) rfl hnm rfl (by decide +kernel) (xb_pnA _ _).1 (xb_pnA _ _).2 (xb_d D_Checker_init 33 rfl) (fun H locs hR hS => ?_)
  obtain ⟨h33, eh33⟩ : ∃ x : xb_H, x = xb_P h31 x0 15 (some q30) := ⟨_, rfl⟩
  rw [← eh33] at hR
  have hw := hw h33 eh33
  have hE : xb_ext h0 h33 := by rw [eh33]; exact hE
  exact xb_vret ((((((((bc - 1) - 1) - 1) - 1) - 1) - 1) - 1) - 1) ((((((((bs - 1) - 1000) - 201) - 201) - 201) - 201) - 201) - 201) hx hb hr hlocks (show ((((((((k + 1) + 1) + 1) + 1) + 1) + 1) + 1) + 1) + ((((((((bc - 1) - 1) - 1) - 1) - 1) - 1) - 1) - 1) ≤ MC by omega) (show ((((((((n + 1) + 1000) + 201) + 201) + 201) + 201) + 201) + 201) + ((((((((bs - 1) - 1000) - 201) - 201) - 201) - 201) - 201) - 201) ≤ MS by omega) hE hR hS (xb_d D_Checker_init 34 rfl) hw

theorem m_47f80c41 : (.fieldLink "StackHost$Checker" 193 "StackHost$Checker" "open" "I" : Cond) ∈ xt_tbl := xt_in (xt_t1 (List.mem_of_getElem? (i := 93) (by decide +kernel))) (by decide +kernel)
theorem m_b89190d5 : (.fieldLink "StackHost$Checker" 187 "StackHost$Checker" "operandCount" "I" : Cond) ∈ xt_tbl := xt_in (xt_t1 (List.mem_of_getElem? (i := 81) (by decide +kernel))) (by decide +kernel)
set_option maxRecDepth 100000 in
def T_Checker_die : List (Nat × Instr × Nat) := [(0, .aload_n 0, 1), (1, .aload_n 0, 1), (2, .getfield 31, 3), (5, .aload_n 0, 1), (6, .getfield 193, 3), (9, .iconst 1, 1), (10, .isub, 1), (11, .iaload, 1), (12, .putfield 187, 3), (15, .aload_n 0, 1), (16, .getfield 34, 3), (19, .aload_n 0, 1), (20, .getfield 193, 3), (23, .iconst 1, 1), (24, .isub, 1), (25, .iconst 1, 1), (26, .bastore, 1), (27, .return_, 1)]
theorem D_Checker_die : ∀ q ∈ T_Checker_die, decode b_Checker_die q.1 = .ok (q.2.1, q.2.2) := by decide +kernel

set_option maxHeartbeats 4000000 in
set_option maxRecDepth 100000 in
theorem ok_Checker_die (l : Launch) (hfl : l.flags = pinnedFlags ++ [noTraceFlag]) (D : va_G) (A : Nat → Prop) (σ : Nat) (x0 : Nat) (h : xb_H) (Qr : xb_H → Prop) (hw : w_Checker_die x0 h Qr) : xb_Met l y_Checker_die [.code y_Checker_die b_Checker_die 1 none] (xb_rm 2 0 0) (xb_Pc D A σ h [.ref x0]) (xb_Qc D A h 0 0 (fun v h _ _ => v = none ∧ Qr h) (fun _ _ _ _ => False)) A := by
  refine xb_ofAm (cc := b_Checker_die) (by decide) (Nat.le_of_ble_eq_true rfl) ?_
  unfold w_Checker_die at hw
  show xb_am l D A σ 2 0 0 h (fun v h _ _ => v = none ∧ Qr h) (fun _ _ _ _ => False) y_Checker_die.cls y_Checker_die.name b_Checker_die 1 ([] : List ExceptionTableEntry) none 0 [(0, .ref x0)] [] h 0 0
  obtain ⟨MC, hMC⟩ : ∃ x, x = 0 := ⟨_, rfl⟩
  obtain ⟨MS, hMS⟩ : ∃ x, x = 0 := ⟨_, rfl⟩
  rw [show xb_am l D A σ 2 0 0 = xb_am l D A σ 2 MC MS by rw [hMC, hMS]]
  obtain ⟨h0, hh0⟩ : ∃ x, x = h := ⟨_, rfl⟩
  rw [show xb_am l D A σ 2 MC MS h = xb_am l D A σ 2 MC MS h0 by rw [hh0]]
  intro p e s m args below meth c hC H locs ls k n hE hl hR hS hk hn
  obtain ⟨hx, hb, hown, hlocks, htab, hml, hr, hB, hA, hnm⟩ := id hC
  have hts := hB.1.1.at args
  refine lv_aload_n hx hb (xb_d D_Checker_die 0 rfl) rfl (lv_at hl 0 rfl) ?_
  refine lv_aload_n hx hb (xb_d D_Checker_die 1 rfl) rfl (lv_at hl 0 rfl) ?_
  obtain ⟨hk1, hw⟩ := hw
  refine xb_getP (C := R_Checker) (T := F_Checker) (N := 17) hx hb 4 14 hts fin_Checker hown hR hk1 (by decide) rfl (by decide) rfl (hts _ m_a3869304) (fun _ h9 => h9) (xb_d D_Checker_die 2 rfl) ?_
  obtain ⟨b2, eb2, hw⟩ := hw
  refine xb_some eb2 ?_
  refine lv_aload_n hx hb (xb_d D_Checker_die 3 rfl) rfl (lv_at hl 0 rfl) ?_
  refine xb_getI (C := R_Checker) (T := F_Checker) (N := 17) hx hb 4 16 hts fin_Checker hown hR hk1 (by decide) rfl (by decide) rfl (hts _ m_47f80c41) (fun _ h9 => h9) (xb_d D_Checker_die 4 rfl) ?_
  refine lv_iconst (v := 1) hx hb (xb_d D_Checker_die 5 rfl) (by decide) ?_
  refine lv_isub hx hb (xb_d D_Checker_die 6 rfl) ?_
  obtain ⟨hk4, hw⟩ := hw
  obtain ⟨hi3, hw⟩ := hw
  refine xb_iald hx hb hR hk4 hi3 (xb_d D_Checker_die 7 rfl) ?_
  refine xb_putI (C := R_Checker) (T := F_Checker) (N := 17) (ty := .int) (x := (xb_i h b2 (Int32.toNatClampNeg ((xb_i h x0 16) - 1)))) hx hb 4 4 hts fin_Checker t_Checker t_Checker_ok n_Checker hown hR hS hk1 (by decide) rfl (by decide) rfl (hts _ m_b89190d5) (fun _ h9 => h9) rfl (by decide +kernel) rfl rfl (xb_d D_Checker_die 8 rfl) (fun H locs hR hS => ?_)
  obtain ⟨h5, eh5⟩ : ∃ x : xb_H, x = xb_I h x0 4 (xb_i h b2 (Int32.toNatClampNeg ((xb_i h x0 16) - 1))) := ⟨_, rfl⟩
  rw [← eh5] at hR
  have hw := hw h5 eh5
  have hE : xb_ext h0 h5 := by rw [eh5]; exact hE
  refine lv_aload_n hx hb (xb_d D_Checker_die 9 rfl) rfl (lv_at hl 0 rfl) ?_
  have hk1 : xb_k h5 x0 = 5 := by rw [eh5]; exact hk1
  refine xb_getP (C := R_Checker) (T := F_Checker) (N := 17) hx hb 4 15 hts fin_Checker hown hR hk1 (by decide) rfl (by decide) rfl (hts _ m_b845fcd1) (fun _ h9 => h9) (xb_d D_Checker_die 10 rfl) ?_
  obtain ⟨b6, eb6, hw⟩ := hw
  refine xb_some eb6 ?_
  refine lv_aload_n hx hb (xb_d D_Checker_die 11 rfl) rfl (lv_at hl 0 rfl) ?_
  refine xb_getI (C := R_Checker) (T := F_Checker) (N := 17) hx hb 4 16 hts fin_Checker hown hR hk1 (by decide) rfl (by decide) rfl (hts _ m_47f80c41) (fun _ h9 => h9) (xb_d D_Checker_die 12 rfl) ?_
  refine lv_iconst (v := 1) hx hb (xb_d D_Checker_die 13 rfl) (by decide) ?_
  refine lv_isub hx hb (xb_d D_Checker_die 14 rfl) ?_
  refine lv_iconst (v := 1) hx hb (xb_d D_Checker_die 15 rfl) (by decide) ?_
  obtain ⟨hk7, hw⟩ := hw
  obtain ⟨hi8, hw⟩ := hw
  refine xb_zast hx hb hR hS hk7 hi8 (xb_d D_Checker_die 16 rfl) (fun H locs hR hS => ?_)
  obtain ⟨h9, eh9⟩ : ∃ x : xb_H, x = xb_I h5 b6 (Int32.toNatClampNeg ((xb_i h5 x0 16) - 1)) (vp_nar .boolean 1) := ⟨_, rfl⟩
  rw [← eh9] at hR
  have hw := hw h9 eh9
  have hE : xb_ext h0 h9 := by rw [eh9]; exact hE
  exact xb_vret 0 0 hx hb hr hlocks (show k + 0 ≤ MC by omega) (show n + 0 ≤ MS by omega) hE hR hS (xb_d D_Checker_die 17 rfl) hw

set_option maxRecDepth 100000 in
def T_Checker_isThere : List (Nat × Instr × Nat) := [(0, .lload_n 0, 1), (1, .lconst 0, 1), (2, .lcmp, 1), (3, .ifCond .lt 14, 3), (6, .lload_n 0, 1), (7, .iload_n 2, 1), (8, .i2l, 1), (9, .lcmp, 1), (10, .ifCond .ge 7, 3), (13, .iconst 1, 1), (14, .goto 4, 3), (17, .iconst 0, 1), (18, .ireturn, 1)]
theorem D_Checker_isThere : ∀ q ∈ T_Checker_isThere, decode b_Checker_isThere q.1 = .ok (q.2.1, q.2.2) := by decide +kernel

set_option maxHeartbeats 4000000 in
set_option maxRecDepth 100000 in
theorem am_Checker_isThere_L18 (l : Launch) (hfl : l.flags = pinnedFlags ++ [noTraceFlag]) (D : va_G) (A : Nat → Prop) (σ MC MS : Nat) (h0 : xb_H) (Qr : Int32 → xb_H → Prop) (y0 : Int32) (h : xb_H) (hw : w_Checker_isThere_L18 Qr y0 h) : xb_am l D A σ 2 MC MS h0 (fun v h _ _ => ∃ r, v = some (.int r) ∧ Qr r h) (fun _ _ _ _ => False) y_Checker_isThere.cls y_Checker_isThere.name b_Checker_isThere 3 ([] : List ExceptionTableEntry) (some .boolean) 18 [] [.int y0] h 0 0 := by
  unfold w_Checker_isThere_L18 at hw
  intro p e s m args below meth c hC H locs ls k n hE hl hR hS hk hn
  obtain ⟨hx, hb, hown, hlocks, htab, hml, hr, hB, hA, hnm⟩ := id hC
  have hts := hB.1.1.at args
  exact xb_zret 0 0 hx hb hr hlocks (show k + 0 ≤ MC by omega) (show n + 0 ≤ MS by omega) hw.1 hE hR hS (xb_d D_Checker_isThere 12 rfl) hw.2

set_option maxHeartbeats 4000000 in
set_option maxRecDepth 100000 in
theorem am_Checker_isThere_L17 (l : Launch) (hfl : l.flags = pinnedFlags ++ [noTraceFlag]) (D : va_G) (A : Nat → Prop) (σ MC MS : Nat) (h0 : xb_H) (Qr : Int32 → xb_H → Prop) (h : xb_H) (hw : w_Checker_isThere_L17 Qr h) : xb_am l D A σ 2 MC MS h0 (fun v h _ _ => ∃ r, v = some (.int r) ∧ Qr r h) (fun _ _ _ _ => False) y_Checker_isThere.cls y_Checker_isThere.name b_Checker_isThere 3 ([] : List ExceptionTableEntry) (some .boolean) 17 [] [] h 0 0 := by
  unfold w_Checker_isThere_L17 at hw
  intro p e s m args below meth c hC H locs ls k n hE hl hR hS hk hn
  obtain ⟨hx, hb, hown, hlocks, htab, hml, hr, hB, hA, hnm⟩ := id hC
  have hts := hB.1.1.at args
  refine lv_iconst (v := 0) hx hb (xb_d D_Checker_isThere 11 rfl) (by decide) ?_
  exact am_Checker_isThere_L18 l hfl D A σ MC MS h0 Qr 0 h hw p e s m args below meth c hC H locs ls k n hE (lv_sub hl [] rfl) hR hS (by omega) (by omega)

set_option maxHeartbeats 4000000 in
set_option maxRecDepth 100000 in
theorem ok_Checker_isThere (l : Launch) (hfl : l.flags = pinnedFlags ++ [noTraceFlag]) (D : va_G) (A : Nat → Prop) (σ : Nat) (x0 : Int64) (x2 : Int32) (h : xb_H) (Qr : Int32 → xb_H → Prop) (hw : w_Checker_isThere x0 x2 h Qr) : xb_Met l y_Checker_isThere [.code y_Checker_isThere b_Checker_isThere 3 (some .boolean)] (xb_rm 2 0 0) (xb_Pc D A σ h [.long x0, .int x2]) (xb_Qc D A h 0 0 (fun v h _ _ => ∃ r, v = some (.int r) ∧ Qr r h) (fun _ _ _ _ => False)) A := by
  refine xb_ofAm (cc := b_Checker_isThere) (by decide) (Nat.le_of_ble_eq_true rfl) ?_
  unfold w_Checker_isThere at hw
  show xb_am l D A σ 2 0 0 h (fun v h _ _ => ∃ r, v = some (.int r) ∧ Qr r h) (fun _ _ _ _ => False) y_Checker_isThere.cls y_Checker_isThere.name b_Checker_isThere 3 ([] : List ExceptionTableEntry) (some .boolean) 0 [(0, .long x0), (2, .int x2)] [] h 0 0
  obtain ⟨MC, hMC⟩ : ∃ x, x = 0 := ⟨_, rfl⟩
  obtain ⟨MS, hMS⟩ : ∃ x, x = 0 := ⟨_, rfl⟩
  rw [show xb_am l D A σ 2 0 0 = xb_am l D A σ 2 MC MS by rw [hMC, hMS]]
  obtain ⟨h0, hh0⟩ : ∃ x, x = h := ⟨_, rfl⟩
  rw [show xb_am l D A σ 2 MC MS h = xb_am l D A σ 2 MC MS h0 by rw [hh0]]
  intro p e s m args below meth c hC H locs ls k n hE hl hR hS hk hn
  obtain ⟨hx, hb, hown, hlocks, htab, hml, hr, hB, hA, hnm⟩ := id hC
  have hts := hB.1.1.at args
  refine lv_lload_n hx hb (xb_d D_Checker_isThere 0 rfl) rfl (lv_at hl 0 rfl) ?_
  refine lv_lconst (v := 0) hx hb (xb_d D_Checker_isThere 1 rfl) (by decide) ?_
  refine xb_lc_lt (tgt := 17) hx hb (xb_d D_Checker_isThere 2 rfl) (xb_d D_Checker_isThere 3 rfl) rfl (fun hc1 => ?_) (fun hc1 => ?_)
  · have hw := hw.1 hc1
    exact am_Checker_isThere_L17 l hfl D A σ MC MS h0 Qr h hw p e s m args below meth c hC H locs ls k n hE (lv_sub hl [] rfl) hR hS (by omega) (by omega)
  · have hw := hw.2 hc1
    refine lv_lload_n hx hb (xb_d D_Checker_isThere 4 rfl) rfl (lv_at hl 0 rfl) ?_
    refine lv_iload_n hx hb (xb_d D_Checker_isThere 5 rfl) rfl (lv_at hl 1 rfl) ?_
    refine lv_i2l hx hb (xb_d D_Checker_isThere 6 rfl) rfl ?_
    refine xb_lc_ge (tgt := 17) hx hb (xb_d D_Checker_isThere 7 rfl) (xb_d D_Checker_isThere 8 rfl) rfl (fun hc2 => ?_) (fun hc2 => ?_)
    · have hw := hw.1 hc2
      exact am_Checker_isThere_L17 l hfl D A σ MC MS h0 Qr h hw p e s m args below meth c hC H locs ls k n hE (lv_sub hl [] rfl) hR hS (by omega) (by omega)
    · have hw := hw.2 hc2
      refine lv_iconst (v := 1) hx hb (xb_d D_Checker_isThere 9 rfl) (by decide) ?_
      refine lv_goto (tgt := 18) hx hb (xb_d D_Checker_isThere 10 rfl) rfl ?_
      exact am_Checker_isThere_L18 l hfl D A σ MC MS h0 Qr 1 h hw p e s m args below meth c hC H locs ls k n hE (lv_sub hl [] rfl) hR hS (by omega) (by omega)

set_option maxRecDepth 100000 in
def T_Checker_openThing : List (Nat × Instr × Nat) := [(0, .aload_n 0, 1), (1, .getfield 18, 3), (4, .aload_n 0, 1), (5, .getfield 193, 3), (8, .iload_n 1, 1), (9, .iastore, 1), (10, .aload_n 0, 1), (11, .getfield 22, 3), (14, .aload_n 0, 1), (15, .getfield 193, 3), (18, .iload_n 2, 1), (19, .iastore, 1), (20, .aload_n 0, 1), (21, .getfield 25, 3), (24, .aload_n 0, 1), (25, .getfield 193, 3), (28, .iload_n 3, 1), (29, .iastore, 1), (30, .aload_n 0, 1), (31, .getfield 28, 3), (34, .aload_n 0, 1), (35, .getfield 193, 3), (38, .iload 4, 2), (40, .iastore, 1), (41, .aload_n 0, 1), (42, .getfield 31, 3), (45, .aload_n 0, 1), (46, .getfield 193, 3), (49, .aload_n 0, 1), (50, .getfield 187, 3), (53, .iastore, 1), (54, .aload_n 0, 1), (55, .getfield 34, 3), (58, .aload_n 0, 1), (59, .getfield 193, 3), (62, .iconst 0, 1), (63, .bastore, 1), (64, .aload_n 0, 1), (65, .dup, 1), (66, .getfield 193, 3), (69, .iconst 1, 1), (70, .iadd, 1), (71, .putfield 193, 3), (74, .return_, 1)]
theorem D_Checker_openThing : ∀ q ∈ T_Checker_openThing, decode b_Checker_openThing q.1 = .ok (q.2.1, q.2.2) := by decide +kernel

set_option maxHeartbeats 4000000 in
set_option maxRecDepth 100000 in
theorem ok_Checker_openThing (l : Launch) (hfl : l.flags = pinnedFlags ++ [noTraceFlag]) (D : va_G) (A : Nat → Prop) (σ : Nat) (x0 : Nat) (x1 : Int32) (x2 : Int32) (x3 : Int32) (x4 : Int32) (h : xb_H) (Qr : xb_H → Prop) (hw : w_Checker_openThing x0 x1 x2 x3 x4 h Qr) : xb_Met l y_Checker_openThing [.code y_Checker_openThing b_Checker_openThing 5 none] (xb_rm 2 0 0) (xb_Pc D A σ h [.ref x0, .int x1, .int x2, .int x3, .int x4]) (xb_Qc D A h 0 0 (fun v h _ _ => v = none ∧ Qr h) (fun _ _ _ _ => False)) A := by
  refine xb_ofAm (cc := b_Checker_openThing) (by decide) (Nat.le_of_ble_eq_true rfl) ?_
  unfold w_Checker_openThing at hw
  show xb_am l D A σ 2 0 0 h (fun v h _ _ => v = none ∧ Qr h) (fun _ _ _ _ => False) y_Checker_openThing.cls y_Checker_openThing.name b_Checker_openThing 5 ([] : List ExceptionTableEntry) none 0 [(0, .ref x0), (1, .int x1), (2, .int x2), (3, .int x3), (4, .int x4)] [] h 0 0
  obtain ⟨MC, hMC⟩ : ∃ x, x = 0 := ⟨_, rfl⟩
  obtain ⟨MS, hMS⟩ : ∃ x, x = 0 := ⟨_, rfl⟩
  rw [show xb_am l D A σ 2 0 0 = xb_am l D A σ 2 MC MS by rw [hMC, hMS]]
  obtain ⟨h0, hh0⟩ : ∃ x, x = h := ⟨_, rfl⟩
  rw [show xb_am l D A σ 2 MC MS h = xb_am l D A σ 2 MC MS h0 by rw [hh0]]
  intro p e s m args below meth c hC H locs ls k n hE hl hR hS hk hn
  obtain ⟨hx, hb, hown, hlocks, htab, hml, hr, hB, hA, hnm⟩ := id hC
  have hts := hB.1.1.at args
  refine lv_aload_n hx hb (xb_d D_Checker_openThing 0 rfl) rfl (lv_at hl 0 rfl) ?_
  obtain ⟨hk1, hw⟩ := hw
  refine xb_getP (C := R_Checker) (T := F_Checker) (N := 17) hx hb 4 10 hts fin_Checker hown hR hk1 (by decide) rfl (by decide) rfl (hts _ m_934b59dc) (fun _ h9 => h9) (xb_d D_Checker_openThing 1 rfl) ?_
  obtain ⟨b2, eb2, hw⟩ := hw
  refine xb_some eb2 ?_
  refine lv_aload_n hx hb (xb_d D_Checker_openThing 2 rfl) rfl (lv_at hl 0 rfl) ?_
  refine xb_getI (C := R_Checker) (T := F_Checker) (N := 17) hx hb 4 16 hts fin_Checker hown hR hk1 (by decide) rfl (by decide) rfl (hts _ m_47f80c41) (fun _ h9 => h9) (xb_d D_Checker_openThing 3 rfl) ?_
  refine lv_iload_n hx hb (xb_d D_Checker_openThing 4 rfl) rfl (lv_at hl 1 rfl) ?_
  obtain ⟨hk3, hw⟩ := hw
  obtain ⟨hi4, hw⟩ := hw
  refine xb_iast hx hb hR hS hk3 hi4 (xb_d D_Checker_openThing 5 rfl) (fun H locs hR hS => ?_)
  obtain ⟨h5, eh5⟩ : ∃ x : xb_H, x = xb_I h b2 (Int32.toNatClampNeg (xb_i h x0 16)) x1 := ⟨_, rfl⟩
  rw [← eh5] at hR
  have hw := hw h5 eh5
  have hE : xb_ext h0 h5 := by rw [eh5]; exact hE
  refine lv_aload_n hx hb (xb_d D_Checker_openThing 6 rfl) rfl (lv_at hl 0 rfl) ?_
  have hk1 : xb_k h5 x0 = 5 := by rw [eh5]; exact hk1
  refine xb_getP (C := R_Checker) (T := F_Checker) (N := 17) hx hb 4 11 hts fin_Checker hown hR hk1 (by decide) rfl (by decide) rfl (hts _ m_64d01396) (fun _ h9 => h9) (xb_d D_Checker_openThing 7 rfl) ?_
  obtain ⟨b6, eb6, hw⟩ := hw
  refine xb_some eb6 ?_
  refine lv_aload_n hx hb (xb_d D_Checker_openThing 8 rfl) rfl (lv_at hl 0 rfl) ?_
  refine xb_getI (C := R_Checker) (T := F_Checker) (N := 17) hx hb 4 16 hts fin_Checker hown hR hk1 (by decide) rfl (by decide) rfl (hts _ m_47f80c41) (fun _ h9 => h9) (xb_d D_Checker_openThing 9 rfl) ?_
  refine lv_iload_n hx hb (xb_d D_Checker_openThing 10 rfl) rfl (lv_at hl 2 rfl) ?_
  obtain ⟨hk7, hw⟩ := hw
  obtain ⟨hi8, hw⟩ := hw
  refine xb_iast hx hb hR hS hk7 hi8 (xb_d D_Checker_openThing 11 rfl) (fun H locs hR hS => ?_)
  obtain ⟨h9, eh9⟩ : ∃ x : xb_H, x = xb_I h5 b6 (Int32.toNatClampNeg (xb_i h5 x0 16)) x2 := ⟨_, rfl⟩
  rw [← eh9] at hR
  have hw := hw h9 eh9
  have hE : xb_ext h0 h9 := by rw [eh9]; exact hE
  refine lv_aload_n hx hb (xb_d D_Checker_openThing 12 rfl) rfl (lv_at hl 0 rfl) ?_
  have hk1 : xb_k h9 x0 = 5 := by rw [eh9]; exact hk1
  refine xb_getP (C := R_Checker) (T := F_Checker) (N := 17) hx hb 4 12 hts fin_Checker hown hR hk1 (by decide) rfl (by decide) rfl (hts _ m_8a464e71) (fun _ h9 => h9) (xb_d D_Checker_openThing 13 rfl) ?_
  obtain ⟨b10, eb10, hw⟩ := hw
  refine xb_some eb10 ?_
  refine lv_aload_n hx hb (xb_d D_Checker_openThing 14 rfl) rfl (lv_at hl 0 rfl) ?_
  refine xb_getI (C := R_Checker) (T := F_Checker) (N := 17) hx hb 4 16 hts fin_Checker hown hR hk1 (by decide) rfl (by decide) rfl (hts _ m_47f80c41) (fun _ h9 => h9) (xb_d D_Checker_openThing 15 rfl) ?_
  refine lv_iload_n hx hb (xb_d D_Checker_openThing 16 rfl) rfl (lv_at hl 3 rfl) ?_
  obtain ⟨hk11, hw⟩ := hw
  obtain ⟨hi12, hw⟩ := hw
  refine xb_iast hx hb hR hS hk11 hi12 (xb_d D_Checker_openThing 17 rfl) (fun H locs hR hS => ?_)
  obtain ⟨h13, eh13⟩ : ∃ x : xb_H, x = xb_I h9 b10 (Int32.toNatClampNeg (xb_i h9 x0 16)) x3 := ⟨_, rfl⟩
  rw [← eh13] at hR
  have hw := hw h13 eh13
  have hE : xb_ext h0 h13 := by rw [eh13]; exact hE
  refine lv_aload_n hx hb (xb_d D_Checker_openThing 18 rfl) rfl (lv_at hl 0 rfl) ?_
  have hk1 : xb_k h13 x0 = 5 := by rw [eh13]; exact hk1
  refine xb_getP (C := R_Checker) (T := F_Checker) (N := 17) hx hb 4 13 hts fin_Checker hown hR hk1 (by decide) rfl (by decide) rfl (hts _ m_8413ec5e) (fun _ h9 => h9) (xb_d D_Checker_openThing 19 rfl) ?_
  obtain ⟨b14, eb14, hw⟩ := hw
  refine xb_some eb14 ?_
  refine lv_aload_n hx hb (xb_d D_Checker_openThing 20 rfl) rfl (lv_at hl 0 rfl) ?_
  refine xb_getI (C := R_Checker) (T := F_Checker) (N := 17) hx hb 4 16 hts fin_Checker hown hR hk1 (by decide) rfl (by decide) rfl (hts _ m_47f80c41) (fun _ h9 => h9) (xb_d D_Checker_openThing 21 rfl) ?_
  refine lv_iload hx hb (xb_d D_Checker_openThing 22 rfl) (lv_at hl 4 rfl) ?_
  obtain ⟨hk15, hw⟩ := hw
  obtain ⟨hi16, hw⟩ := hw
  refine xb_iast hx hb hR hS hk15 hi16 (xb_d D_Checker_openThing 23 rfl) (fun H locs hR hS => ?_)
  obtain ⟨h17, eh17⟩ : ∃ x : xb_H, x = xb_I h13 b14 (Int32.toNatClampNeg (xb_i h13 x0 16)) x4 := ⟨_, rfl⟩
  rw [← eh17] at hR
  have hw := hw h17 eh17
  have hE : xb_ext h0 h17 := by rw [eh17]; exact hE
  refine lv_aload_n hx hb (xb_d D_Checker_openThing 24 rfl) rfl (lv_at hl 0 rfl) ?_
  have hk1 : xb_k h17 x0 = 5 := by rw [eh17]; exact hk1
  refine xb_getP (C := R_Checker) (T := F_Checker) (N := 17) hx hb 4 14 hts fin_Checker hown hR hk1 (by decide) rfl (by decide) rfl (hts _ m_a3869304) (fun _ h9 => h9) (xb_d D_Checker_openThing 25 rfl) ?_
  obtain ⟨b18, eb18, hw⟩ := hw
  refine xb_some eb18 ?_
  refine lv_aload_n hx hb (xb_d D_Checker_openThing 26 rfl) rfl (lv_at hl 0 rfl) ?_
  refine xb_getI (C := R_Checker) (T := F_Checker) (N := 17) hx hb 4 16 hts fin_Checker hown hR hk1 (by decide) rfl (by decide) rfl (hts _ m_47f80c41) (fun _ h9 => h9) (xb_d D_Checker_openThing 27 rfl) ?_
  refine lv_aload_n hx hb (xb_d D_Checker_openThing 28 rfl) rfl (lv_at hl 0 rfl) ?_
  refine xb_getI (C := R_Checker) (T := F_Checker) (N := 17) hx hb 4 4 hts fin_Checker hown hR hk1 (by decide) rfl (by decide) rfl (hts _ m_b89190d5) (fun _ h9 => h9) (xb_d D_Checker_openThing 29 rfl) ?_
  obtain ⟨hk19, hw⟩ := hw
  obtain ⟨hi20, hw⟩ := hw
  refine xb_iast hx hb hR hS hk19 hi20 (xb_d D_Checker_openThing 30 rfl) (fun H locs hR hS => ?_)
  obtain ⟨h21, eh21⟩ : ∃ x : xb_H, x = xb_I h17 b18 (Int32.toNatClampNeg (xb_i h17 x0 16)) (xb_i h17 x0 4) := ⟨_, rfl⟩
  rw [← eh21] at hR
  have hw := hw h21 eh21
  have hE : xb_ext h0 h21 := by rw [eh21]; exact hE
  refine lv_aload_n hx hb (xb_d D_Checker_openThing 31 rfl) rfl (lv_at hl 0 rfl) ?_
  have hk1 : xb_k h21 x0 = 5 := by rw [eh21]; exact hk1
  refine xb_getP (C := R_Checker) (T := F_Checker) (N := 17) hx hb 4 15 hts fin_Checker hown hR hk1 (by decide) rfl (by decide) rfl (hts _ m_b845fcd1) (fun _ h9 => h9) (xb_d D_Checker_openThing 32 rfl) ?_
  obtain ⟨b22, eb22, hw⟩ := hw
  refine xb_some eb22 ?_
  refine lv_aload_n hx hb (xb_d D_Checker_openThing 33 rfl) rfl (lv_at hl 0 rfl) ?_
  refine xb_getI (C := R_Checker) (T := F_Checker) (N := 17) hx hb 4 16 hts fin_Checker hown hR hk1 (by decide) rfl (by decide) rfl (hts _ m_47f80c41) (fun _ h9 => h9) (xb_d D_Checker_openThing 34 rfl) ?_
  refine lv_iconst (v := 0) hx hb (xb_d D_Checker_openThing 35 rfl) (by decide) ?_
  obtain ⟨hk23, hw⟩ := hw
  obtain ⟨hi24, hw⟩ := hw
  refine xb_zast hx hb hR hS hk23 hi24 (xb_d D_Checker_openThing 36 rfl) (fun H locs hR hS => ?_)
  obtain ⟨h25, eh25⟩ : ∃ x : xb_H, x = xb_I h21 b22 (Int32.toNatClampNeg (xb_i h21 x0 16)) (vp_nar .boolean 0) := ⟨_, rfl⟩
  rw [← eh25] at hR
  have hw := hw h25 eh25
  have hE : xb_ext h0 h25 := by rw [eh25]; exact hE
  refine lv_aload_n hx hb (xb_d D_Checker_openThing 37 rfl) rfl (lv_at hl 0 rfl) ?_
  refine lv_dup hx hb (xb_d D_Checker_openThing 38 rfl) rfl ?_
  have hk1 : xb_k h25 x0 = 5 := by rw [eh25]; exact hk1
  refine xb_getI (C := R_Checker) (T := F_Checker) (N := 17) hx hb 4 16 hts fin_Checker hown hR hk1 (by decide) rfl (by decide) rfl (hts _ m_47f80c41) (fun _ h9 => h9) (xb_d D_Checker_openThing 39 rfl) ?_
  refine lv_iconst (v := 1) hx hb (xb_d D_Checker_openThing 40 rfl) (by decide) ?_
  refine lv_iadd hx hb (xb_d D_Checker_openThing 41 rfl) ?_
  refine xb_putI (C := R_Checker) (T := F_Checker) (N := 17) (ty := .int) (x := ((xb_i h25 x0 16) + 1)) hx hb 4 16 hts fin_Checker t_Checker t_Checker_ok n_Checker hown hR hS hk1 (by decide) rfl (by decide) rfl (hts _ m_47f80c41) (fun _ h9 => h9) rfl (by decide +kernel) rfl rfl (xb_d D_Checker_openThing 42 rfl) (fun H locs hR hS => ?_)
  obtain ⟨h26, eh26⟩ : ∃ x : xb_H, x = xb_I h25 x0 16 ((xb_i h25 x0 16) + 1) := ⟨_, rfl⟩
  rw [← eh26] at hR
  have hw := hw h26 eh26
  have hE : xb_ext h0 h26 := by rw [eh26]; exact hE
  exact xb_vret 0 0 hx hb hr hlocks (show k + 0 ≤ MC by omega) (show n + 0 ≤ MS by omega) hE hR hS (xb_d D_Checker_openThing 43 rfl) hw

theorem m_2fb57e9e : (.fieldLink "StackHost$Checker" 190 "StackHost$Checker" "greatest" "I" : Cond) ∈ xt_tbl := xt_in (xt_t1 (List.mem_of_getElem? (i := 82) (by decide +kernel))) (by decide +kernel)
theorem m_fdac907e : (.methodLink "StackHost$Checker" 228 Lib.Math.max.name : Cond) ∈ xt_tbl := xt_in (xt_t5 (List.mem_of_getElem? (i := 226) (by decide +kernel))) (by decide +kernel)
theorem m_80a2ec50 : (.static Lib.Math.max.name : Cond) ∈ xt_tbl := xt_in (xt_t3 (List.mem_of_getElem? (i := 181) (by decide +kernel))) (by decide +kernel)
theorem m_868a9286 : (.initialized "java/lang/Math" : Cond) ∈ xt_tbl := xt_in (xt_t1 (List.mem_of_getElem? (i := 14) (by decide +kernel))) (by decide +kernel)
theorem m_b6349a14 : (.code Lib.Math.max.name Lib.Math.max.code 2 (some .int) : Cond) ∈ xt_tbl := xt_in (xt_t3 (List.mem_of_getElem? (i := 182) (by decide +kernel))) (by decide +kernel)
set_option maxRecDepth 100000 in
def T_Checker_put : List (Nat × Instr × Nat) := [(0, .iload_n 1, 1), (1, .bipush 64, 2), (3, .if_icmp .eq 39, 3), (6, .aload_n 0, 1), (7, .getfield 9, 3), (10, .aload_n 0, 1), (11, .getfield 187, 3), (14, .iload_n 1, 1), (15, .i2b, 1), (16, .bastore, 1), (17, .aload_n 0, 1), (18, .dup, 1), (19, .getfield 187, 3), (22, .iconst 1, 1), (23, .iadd, 1), (24, .putfield 187, 3), (27, .aload_n 0, 1), (28, .aload_n 0, 1), (29, .getfield 190, 3), (32, .aload_n 0, 1), (33, .getfield 187, 3), (36, .invokestatic 228, 3), (39, .putfield 190, 3), (42, .return_, 1)]
theorem D_Checker_put : ∀ q ∈ T_Checker_put, decode b_Checker_put q.1 = .ok (q.2.1, q.2.2) := by decide +kernel

set_option maxHeartbeats 4000000 in
set_option maxRecDepth 100000 in
theorem am_Checker_put_L42 (l : Launch) (hfl : l.flags = pinnedFlags ++ [noTraceFlag]) (D : va_G) (A : Nat → Prop) (σ MC MS : Nat) (h0 : xb_H) (Qr : xb_H → Prop) (h : xb_H) (hw : w_Checker_put_L42 Qr h) : xb_am l D A σ 2 MC MS h0 (fun v h _ _ => v = none ∧ Qr h) (fun _ _ _ _ => False) y_Checker_put.cls y_Checker_put.name b_Checker_put 2 ([] : List ExceptionTableEntry) none 42 [] [] h 0 0 := by
  unfold w_Checker_put_L42 at hw
  intro p e s m args below meth c hC H locs ls k n hE hl hR hS hk hn
  obtain ⟨hx, hb, hown, hlocks, htab, hml, hr, hB, hA, hnm⟩ := id hC
  have hts := hB.1.1.at args
  exact xb_vret 0 0 hx hb hr hlocks (show k + 0 ≤ MC by omega) (show n + 0 ≤ MS by omega) hE hR hS (xb_d D_Checker_put 23 rfl) hw

set_option maxHeartbeats 4000000 in
set_option maxRecDepth 100000 in
theorem ok_Checker_put (l : Launch) (hfl : l.flags = pinnedFlags ++ [noTraceFlag]) (D : va_G) (A : Nat → Prop) (σ : Nat) (x0 : Nat) (x1 : Int32) (h : xb_H) (Qr : xb_H → Prop) (hw : w_Checker_put x0 x1 h Qr) : xb_Met l y_Checker_put [.code y_Checker_put b_Checker_put 2 none] (xb_rm 2 0 0) (xb_Pc D A σ h [.ref x0, .int x1]) (xb_Qc D A h 0 0 (fun v h _ _ => v = none ∧ Qr h) (fun _ _ _ _ => False)) A := by
  refine xb_ofAm (cc := b_Checker_put) (by decide) (Nat.le_of_ble_eq_true rfl) ?_
  unfold w_Checker_put at hw
  show xb_am l D A σ 2 0 0 h (fun v h _ _ => v = none ∧ Qr h) (fun _ _ _ _ => False) y_Checker_put.cls y_Checker_put.name b_Checker_put 2 ([] : List ExceptionTableEntry) none 0 [(0, .ref x0), (1, .int x1)] [] h 0 0
  obtain ⟨MC, hMC⟩ : ∃ x, x = 0 := ⟨_, rfl⟩
  obtain ⟨MS, hMS⟩ : ∃ x, x = 0 := ⟨_, rfl⟩
  rw [show xb_am l D A σ 2 0 0 = xb_am l D A σ 2 MC MS by rw [hMC, hMS]]
  obtain ⟨h0, hh0⟩ : ∃ x, x = h := ⟨_, rfl⟩
  rw [show xb_am l D A σ 2 MC MS h = xb_am l D A σ 2 MC MS h0 by rw [hh0]]
  intro p e s m args below meth c hC H locs ls k n hE hl hR hS hk hn
  obtain ⟨hx, hb, hown, hlocks, htab, hml, hr, hB, hA, hnm⟩ := id hC
  have hts := hB.1.1.at args
  refine lv_iload_n hx hb (xb_d D_Checker_put 0 rfl) rfl (lv_at hl 1 rfl) ?_
  refine lv_bipush (v := 64) hx hb (xb_d D_Checker_put 1 rfl) (by decide) ?_
  refine lv_icmp_eq (tgt := 42) hx hb (xb_d D_Checker_put 2 rfl) rfl (fun hc1 => ?_) (fun hc1 => ?_)
  · have hw := hw.1 hc1
    exact am_Checker_put_L42 l hfl D A σ MC MS h0 Qr h hw p e s m args below meth c hC H locs ls k n hE (lv_sub hl [] rfl) hR hS (by omega) (by omega)
  · have hw := hw.2 hc1
    refine lv_aload_n hx hb (xb_d D_Checker_put 3 rfl) rfl (lv_at hl 0 rfl) ?_
    obtain ⟨hk2, hw⟩ := hw
    refine xb_getP (C := R_Checker) (T := F_Checker) (N := 17) hx hb 4 3 hts fin_Checker hown hR hk2 (by decide) rfl (by decide) rfl (hts _ m_9eace759) (fun _ h9 => h9) (xb_d D_Checker_put 4 rfl) ?_
    obtain ⟨b3, eb3, hw⟩ := hw
    refine xb_some eb3 ?_
    refine lv_aload_n hx hb (xb_d D_Checker_put 5 rfl) rfl (lv_at hl 0 rfl) ?_
    refine xb_getI (C := R_Checker) (T := F_Checker) (N := 17) hx hb 4 4 hts fin_Checker hown hR hk2 (by decide) rfl (by decide) rfl (hts _ m_b89190d5) (fun _ h9 => h9) (xb_d D_Checker_put 6 rfl) ?_
    refine lv_iload_n hx hb (xb_d D_Checker_put 7 rfl) rfl (lv_at hl 1 rfl) ?_
    refine lv_i2b hx hb (xb_d D_Checker_put 8 rfl) rfl ?_
    obtain ⟨hk4, hw⟩ := hw
    obtain ⟨hi5, hw⟩ := hw
    refine xb_bast hx hb hR hS hk4 hi5 (xb_d D_Checker_put 9 rfl) (fun H locs hR hS => ?_)
    obtain ⟨h6, eh6⟩ : ∃ x : xb_H, x = xb_I h b3 (Int32.toNatClampNeg (xb_i h x0 4)) (vp_nar .byte ((Int32.toInt8 x1).toInt32)) := ⟨_, rfl⟩
    rw [← eh6] at hR
    have hw := hw h6 eh6
    have hE : xb_ext h0 h6 := by rw [eh6]; exact hE
    refine lv_aload_n hx hb (xb_d D_Checker_put 10 rfl) rfl (lv_at hl 0 rfl) ?_
    refine lv_dup hx hb (xb_d D_Checker_put 11 rfl) rfl ?_
    have hk2 : xb_k h6 x0 = 5 := by rw [eh6]; exact hk2
    refine xb_getI (C := R_Checker) (T := F_Checker) (N := 17) hx hb 4 4 hts fin_Checker hown hR hk2 (by decide) rfl (by decide) rfl (hts _ m_b89190d5) (fun _ h9 => h9) (xb_d D_Checker_put 12 rfl) ?_
    refine lv_iconst (v := 1) hx hb (xb_d D_Checker_put 13 rfl) (by decide) ?_
    refine lv_iadd hx hb (xb_d D_Checker_put 14 rfl) ?_
    refine xb_putI (C := R_Checker) (T := F_Checker) (N := 17) (ty := .int) (x := ((xb_i h6 x0 4) + 1)) hx hb 4 4 hts fin_Checker t_Checker t_Checker_ok n_Checker hown hR hS hk2 (by decide) rfl (by decide) rfl (hts _ m_b89190d5) (fun _ h9 => h9) rfl (by decide +kernel) rfl rfl (xb_d D_Checker_put 15 rfl) (fun H locs hR hS => ?_)
    obtain ⟨h7, eh7⟩ : ∃ x : xb_H, x = xb_I h6 x0 4 ((xb_i h6 x0 4) + 1) := ⟨_, rfl⟩
    rw [← eh7] at hR
    have hw := hw h7 eh7
    have hE : xb_ext h0 h7 := by rw [eh7]; exact hE
    refine lv_aload_n hx hb (xb_d D_Checker_put 16 rfl) rfl (lv_at hl 0 rfl) ?_
    refine lv_aload_n hx hb (xb_d D_Checker_put 17 rfl) rfl (lv_at hl 0 rfl) ?_
    have hk2 : xb_k h7 x0 = 5 := by rw [eh7]; exact hk2
    refine xb_getI (C := R_Checker) (T := F_Checker) (N := 17) hx hb 4 5 hts fin_Checker hown hR hk2 (by decide) rfl (by decide) rfl (hts _ m_2fb57e9e) (fun _ h9 => h9) (xb_d D_Checker_put 18 rfl) ?_
    refine lv_aload_n hx hb (xb_d D_Checker_put 19 rfl) rfl (lv_at hl 0 rfl) ?_
    refine xb_getI (C := R_Checker) (T := F_Checker) (N := 17) hx hb 4 4 hts fin_Checker hown hR hk2 (by decide) rfl (by decide) rfl (hts _ m_b89190d5) (fun _ h9 => h9) (xb_d D_Checker_put 20 rfl) ?_
    refine va_mmax hx hb (hml.trans hl.1.symm) hown (hts _ m_fdac907e) (hts _ m_80a2ec50) (hts _ m_868a9286) (hts _ m_b6349a14) (by show 1 ≤ 8 + _; omega) (Nat.le_trans (Nat.le_of_ble_eq_true rfl : _ ≤ 60) (by show 60 ≤ 120 + _; omega)) (show k ≤ MC by omega) (show n ≤ MS by omega) (xb_d D_Checker_put 21 rfl) ?_
    refine xb_putI (C := R_Checker) (T := F_Checker) (N := 17) (ty := .int) (x := (if (xb_i h7 x0 5) < (xb_i h7 x0 4) then (xb_i h7 x0 4) else (xb_i h7 x0 5))) hx hb 4 5 hts fin_Checker t_Checker t_Checker_ok n_Checker hown hR hS hk2 (by decide) rfl (by decide) rfl (hts _ m_2fb57e9e) (fun _ h9 => h9) rfl (by decide +kernel) rfl rfl (xb_d D_Checker_put 22 rfl) (fun H locs hR hS => ?_)
    obtain ⟨h8, eh8⟩ : ∃ x : xb_H, x = xb_I h7 x0 5 (if (xb_i h7 x0 5) < (xb_i h7 x0 4) then (xb_i h7 x0 4) else (xb_i h7 x0 5)) := ⟨_, rfl⟩
    rw [← eh8] at hR
    have hw := hw h8 eh8
    have hE : xb_ext h0 h8 := by rw [eh8]; exact hE
    exact am_Checker_put_L42 l hfl D A σ MC MS h0 Qr h8 hw p e s m args below meth c hC H locs ls k n hE (lv_sub hl [] rfl) hR hS (by omega) (by omega)

theorem m_12fa9285 : (.methodLink "StackHost$Format" 3 objectInit : Cond) ∈ xt_tbl := xt_in (xt_t2 (List.mem_of_getElem? (i := 2) (by decide +kernel))) (by decide +kernel)
theorem m_019aecde : (.fieldLink "StackHost$Format" 9 "StackHost$Format" "precision" "I" : Cond) ∈ xt_tbl := xt_in (xt_t2 (List.mem_of_getElem? (i := 4) (by decide +kernel))) (by decide +kernel)
theorem m_a74735c5 : (.fieldLink "StackHost$Format" 15 "StackHost$Format" "bias" "I" : Cond) ∈ xt_tbl := xt_in (xt_t2 (List.mem_of_getElem? (i := 5) (by decide +kernel))) (by decide +kernel)
theorem m_e3160854 : (.fieldLink "StackHost$Format" 18 "StackHost$Format" "sign" "J" : Cond) ∈ xt_tbl := xt_in (xt_t2 (List.mem_of_getElem? (i := 6) (by decide +kernel))) (by decide +kernel)
theorem m_bc8d96b8 : (.constantLong "StackHost$Format" 22 2 : Cond) ∈ xt_tbl := xt_in (xt_t2 (List.mem_of_getElem? (i := 3) (by decide +kernel))) (by decide +kernel)
theorem m_1e01af33 : (.fieldLink "StackHost$Format" 24 "StackHost$Format" "infinity" "J" : Cond) ∈ xt_tbl := xt_in (xt_t2 (List.mem_of_getElem? (i := 7) (by decide +kernel))) (by decide +kernel)
theorem m_291a6679 : (.fieldLink "StackHost$Format" 27 "StackHost$Format" "nan" "J" : Cond) ∈ xt_tbl := xt_in (xt_t2 (List.mem_of_getElem? (i := 8) (by decide +kernel))) (by decide +kernel)
set_option maxRecDepth 100000 in
def T_Format_init : List (Nat × Instr × Nat) := [(0, .aload_n 0, 1), (1, .invokespecial 3, 3), (4, .aload_n 0, 1), (5, .iload_n 1, 1), (6, .putfield 9, 3), (9, .aload_n 0, 1), (10, .iload_n 2, 1), (11, .putfield 15, 3), (14, .aload_n 0, 1), (15, .lload_n 3, 1), (16, .putfield 18, 3), (19, .aload_n 0, 1), (20, .ldc2_w 22, 3), (23, .iload_n 2, 1), (24, .i2l, 1), (25, .lmul, 1), (26, .lconst 1, 1), (27, .ladd, 1), (28, .iload_n 1, 1), (29, .iconst 1, 1), (30, .isub, 1), (31, .lshl, 1), (32, .putfield 24, 3), (35, .aload_n 0, 1), (36, .aload_n 0, 1), (37, .getfield 24, 3), (40, .lconst 1, 1), (41, .iload_n 1, 1), (42, .iconst 2, 1), (43, .isub, 1), (44, .lshl, 1), (45, .lor, 1), (46, .putfield 27, 3), (49, .return_, 1)]
theorem D_Format_init : ∀ q ∈ T_Format_init, decode b_Format_init q.1 = .ok (q.2.1, q.2.2) := by decide +kernel

set_option maxHeartbeats 4000000 in
set_option maxRecDepth 100000 in
theorem ok_Format_init (l : Launch) (hfl : l.flags = pinnedFlags ++ [noTraceFlag]) (D : va_G) (A : Nat → Prop) (σ : Nat) (x0 : Nat) (x1 : Int32) (x2 : Int32) (x3 : Int64) (h : xb_H) (Qr : xb_H → Prop) (hw : w_Format_init x0 x1 x2 x3 h Qr) : xb_Met l y_Format_init [.code y_Format_init b_Format_init 5 none] (xb_rm 2 0 0) (xb_Pc D A σ h [.ref x0, .int x1, .int x2, .long x3]) (xb_Qc D A h 0 0 (fun v h _ _ => v = none ∧ Qr h) (fun _ _ _ _ => False)) A := by
  refine xb_ofAm (cc := b_Format_init) (by decide) (Nat.le_of_ble_eq_true rfl) ?_
  unfold w_Format_init at hw
  show xb_am l D A σ 2 0 0 h (fun v h _ _ => v = none ∧ Qr h) (fun _ _ _ _ => False) y_Format_init.cls y_Format_init.name b_Format_init 5 ([] : List ExceptionTableEntry) none 0 [(0, .ref x0), (1, .int x1), (2, .int x2), (3, .long x3)] [] h 0 0
  obtain ⟨MC, hMC⟩ : ∃ x, x = 0 := ⟨_, rfl⟩
  obtain ⟨MS, hMS⟩ : ∃ x, x = 0 := ⟨_, rfl⟩
  rw [show xb_am l D A σ 2 0 0 = xb_am l D A σ 2 MC MS by rw [hMC, hMS]]
  obtain ⟨h0, hh0⟩ : ∃ x, x = h := ⟨_, rfl⟩
  rw [show xb_am l D A σ 2 MC MS h = xb_am l D A σ 2 MC MS h0 by rw [hh0]]
  intro p e s m args below meth c hC H locs ls k n hE hl hR hS hk hn
  obtain ⟨hx, hb, hown, hlocks, htab, hml, hr, hB, hA, hnm⟩ := id hC
  have hts := hB.1.1.at args
  refine lv_aload_n hx hb (xb_d D_Format_init 0 rfl) rfl (lv_at hl 0 rfl) ?_
  refine W.objInit hx hb hown (hts _ m_12fa9285) (hts _ m_fba9d542) (hts _ m_9febdb7e) rfl (hml.trans hl.1.symm).symm rfl (xb_d D_Format_init 1 rfl) (by show 1 ≤ 8 + _; omega) (Nat.le_trans (Nat.le_of_ble_eq_true rfl : _ ≤ 40) (by show 40 ≤ 120 + _; omega)) ?_
  refine W.eq (g2 := F0 m 4 ls []) rfl ?_
  refine lv_aload_n hx hb (xb_d D_Format_init 2 rfl) rfl (lv_at hl 0 rfl) ?_
  refine lv_iload_n hx hb (xb_d D_Format_init 3 rfl) rfl (lv_at hl 1 rfl) ?_
  obtain ⟨hk1, hw⟩ := hw
  refine xb_putIF (C := R_Format) (T := F_Format) (N := 5) (ty := .int) (x := x1) hx hb 5 0 hts fin_Format t_Format t_Format_ok n_Format hown hR hS hk1 (by decide) rfl (by decide) rfl (hts _ m_019aecde) (fun _ h9 => h9) rfl hnm rfl (by decide +kernel) rfl rfl (xb_d D_Format_init 4 rfl) (fun H locs hR hS => ?_)
  obtain ⟨h2, eh2⟩ : ∃ x : xb_H, x = xb_I h x0 0 x1 := ⟨_, rfl⟩
  rw [← eh2] at hR
  have hw := hw h2 eh2
  have hE : xb_ext h0 h2 := by rw [eh2]; exact hE
  refine lv_aload_n hx hb (xb_d D_Format_init 5 rfl) rfl (lv_at hl 0 rfl) ?_
  refine lv_iload_n hx hb (xb_d D_Format_init 6 rfl) rfl (lv_at hl 2 rfl) ?_
  have hk1 : xb_k h2 x0 = 6 := by rw [eh2]; exact hk1
  refine xb_putIF (C := R_Format) (T := F_Format) (N := 5) (ty := .int) (x := x2) hx hb 5 1 hts fin_Format t_Format t_Format_ok n_Format hown hR hS hk1 (by decide) rfl (by decide) rfl (hts _ m_a74735c5) (fun _ h9 => h9) rfl hnm rfl (by decide +kernel) rfl rfl (xb_d D_Format_init 7 rfl) (fun H locs hR hS => ?_)
  obtain ⟨h3, eh3⟩ : ∃ x : xb_H, x = xb_I h2 x0 1 x2 := ⟨_, rfl⟩
  rw [← eh3] at hR
  have hw := hw h3 eh3
  have hE : xb_ext h0 h3 := by rw [eh3]; exact hE
  refine lv_aload_n hx hb (xb_d D_Format_init 8 rfl) rfl (lv_at hl 0 rfl) ?_
  refine lv_lload_n hx hb (xb_d D_Format_init 9 rfl) rfl (lv_at hl 3 rfl) ?_
  have hk1 : xb_k h3 x0 = 6 := by rw [eh3]; exact hk1
  refine xb_putLF (C := R_Format) (T := F_Format) (N := 5) (ty := .long) (x := x3) hx hb 5 2 hts fin_Format t_Format t_Format_ok n_Format hown hR hS hk1 (by decide) rfl (by decide) rfl (hts _ m_e3160854) (fun _ h9 => h9) rfl hnm rfl (by decide +kernel) rfl rfl (xb_d D_Format_init 10 rfl) (fun H locs hR hS => ?_)
  obtain ⟨h4, eh4⟩ : ∃ x : xb_H, x = xb_L h3 x0 2 x3 := ⟨_, rfl⟩
  rw [← eh4] at hR
  have hw := hw h4 eh4
  have hE : xb_ext h0 h4 := by rw [eh4]; exact hE
  refine lv_aload_n hx hb (xb_d D_Format_init 11 rfl) rfl (lv_at hl 0 rfl) ?_
  refine lv_ldc2 (v := 2) hx hb hown (hts _ m_bc8d96b8) (xb_d D_Format_init 12 rfl) ?_
  refine lv_iload_n hx hb (xb_d D_Format_init 13 rfl) rfl (lv_at hl 2 rfl) ?_
  refine lv_i2l hx hb (xb_d D_Format_init 14 rfl) rfl ?_
  refine lv_lmul hx hb (xb_d D_Format_init 15 rfl) ?_
  refine lv_lconst (v := 1) hx hb (xb_d D_Format_init 16 rfl) (by decide) ?_
  refine lv_ladd hx hb (xb_d D_Format_init 17 rfl) ?_
  refine lv_iload_n hx hb (xb_d D_Format_init 18 rfl) rfl (lv_at hl 1 rfl) ?_
  refine lv_iconst (v := 1) hx hb (xb_d D_Format_init 19 rfl) (by decide) ?_
  refine lv_isub hx hb (xb_d D_Format_init 20 rfl) ?_
  refine lv_lshl (v := (xb_lshl ((2 * (Int32.toInt64 x2)) + 1) (x1 - 1))) hx hb (xb_d D_Format_init 21 rfl) rfl ?_
  have hk1 : xb_k h4 x0 = 6 := by rw [eh4]; exact hk1
  refine xb_putLF (C := R_Format) (T := F_Format) (N := 5) (ty := .long) (x := (xb_lshl ((2 * (Int32.toInt64 x2)) + 1) (x1 - 1))) hx hb 5 3 hts fin_Format t_Format t_Format_ok n_Format hown hR hS hk1 (by decide) rfl (by decide) rfl (hts _ m_1e01af33) (fun _ h9 => h9) rfl hnm rfl (by decide +kernel) rfl rfl (xb_d D_Format_init 22 rfl) (fun H locs hR hS => ?_)
  obtain ⟨h5, eh5⟩ : ∃ x : xb_H, x = xb_L h4 x0 3 (xb_lshl ((2 * (Int32.toInt64 x2)) + 1) (x1 - 1)) := ⟨_, rfl⟩
  rw [← eh5] at hR
  have hw := hw h5 eh5
  have hE : xb_ext h0 h5 := by rw [eh5]; exact hE
  refine lv_aload_n hx hb (xb_d D_Format_init 23 rfl) rfl (lv_at hl 0 rfl) ?_
  refine lv_aload_n hx hb (xb_d D_Format_init 24 rfl) rfl (lv_at hl 0 rfl) ?_
  have hk1 : xb_k h5 x0 = 6 := by rw [eh5]; exact hk1
  refine xb_getL (C := R_Format) (T := F_Format) (N := 5) hx hb 5 3 hts fin_Format hown hR hk1 (by decide) rfl (by decide) rfl (hts _ m_1e01af33) (fun _ h9 => h9) (xb_d D_Format_init 25 rfl) ?_
  refine lv_lconst (v := 1) hx hb (xb_d D_Format_init 26 rfl) (by decide) ?_
  refine lv_iload_n hx hb (xb_d D_Format_init 27 rfl) rfl (lv_at hl 1 rfl) ?_
  refine lv_iconst (v := 2) hx hb (xb_d D_Format_init 28 rfl) (by decide) ?_
  refine lv_isub hx hb (xb_d D_Format_init 29 rfl) ?_
  refine lv_lshl (v := (xb_lshl 1 (x1 - 2))) hx hb (xb_d D_Format_init 30 rfl) rfl ?_
  refine lv_lor hx hb (xb_d D_Format_init 31 rfl) ?_
  refine xb_putLF (C := R_Format) (T := F_Format) (N := 5) (ty := .long) (x := ((xb_l h5 x0 3) ||| (xb_lshl 1 (x1 - 2)))) hx hb 5 4 hts fin_Format t_Format t_Format_ok n_Format hown hR hS hk1 (by decide) rfl (by decide) rfl (hts _ m_291a6679) (fun _ h9 => h9) rfl hnm rfl (by decide +kernel) rfl rfl (xb_d D_Format_init 32 rfl) (fun H locs hR hS => ?_)
  obtain ⟨h6, eh6⟩ : ∃ x : xb_H, x = xb_L h5 x0 4 ((xb_l h5 x0 3) ||| (xb_lshl 1 (x1 - 2))) := ⟨_, rfl⟩
  rw [← eh6] at hR
  have hw := hw h6 eh6
  have hE : xb_ext h0 h6 := by rw [eh6]; exact hE
  exact xb_vret 0 0 hx hb hr hlocks (show k + 0 ≤ MC by omega) (show n + 0 ≤ MS by omega) hE hR hS (xb_d D_Format_init 33 rfl) hw

theorem m_45920cef : (.constantLong "StackHost$Format" 116 4294967295 : Cond) ∈ xt_tbl := xt_in (xt_t8 (List.mem_of_getElem? (i := 127) (by decide +kernel))) (by decide +kernel)
set_option maxRecDepth 100000 in
def T_Format_highProduct : List (Nat × Instr × Nat) := [(0, .lload_n 0, 1), (1, .ldc2_w 116, 3), (4, .land, 1), (5, .lstore 4, 2), (7, .lload_n 0, 1), (8, .bipush 32, 2), (10, .lushr, 1), (11, .lstore 6, 2), (13, .lload_n 2, 1), (14, .ldc2_w 116, 3), (17, .land, 1), (18, .lstore 8, 2), (20, .lload_n 2, 1), (21, .bipush 32, 2), (23, .lushr, 1), (24, .lstore 10, 2), (26, .lload 4, 2), (28, .lload 8, 2), (30, .lmul, 1), (31, .lstore 12, 2), (33, .lload 6, 2), (35, .lload 8, 2), (37, .lmul, 1), (38, .lload 12, 2), (40, .bipush 32, 2), (42, .lushr, 1), (43, .ladd, 1), (44, .lstore 14, 2), (46, .lload 4, 2), (48, .lload 10, 2), (50, .lmul, 1), (51, .lload 14, 2), (53, .ldc2_w 116, 3), (56, .land, 1), (57, .ladd, 1), (58, .lstore 16, 2), (60, .lload 6, 2), (62, .lload 10, 2), (64, .lmul, 1), (65, .lload 14, 2), (67, .bipush 32, 2), (69, .lushr, 1), (70, .ladd, 1), (71, .lload 16, 2), (73, .bipush 32, 2), (75, .lushr, 1), (76, .ladd, 1), (77, .lstore 18, 2), (79, .lload 12, 2), (81, .ldc2_w 116, 3), (84, .land, 1), (85, .lconst 0, 1), (86, .lcmp, 1), (87, .ifCond .ne 14, 3), (90, .lload 16, 2), (92, .ldc2_w 116, 3), (95, .land, 1), (96, .lconst 0, 1), (97, .lcmp, 1), (98, .ifCond .eq 7, 3), (101, .iconst 1, 1), (102, .goto 4, 3), (105, .iconst 0, 1), (106, .istore 20, 2), (108, .iload 20, 2), (110, .ifCond .eq 10, 3), (113, .lload 18, 2), (115, .lconst 1, 1), (116, .lor, 1), (117, .goto 5, 3), (120, .lload 18, 2), (122, .lreturn, 1)]
theorem D_Format_highProduct : ∀ q ∈ T_Format_highProduct, decode b_Format_highProduct q.1 = .ok (q.2.1, q.2.2) := by decide +kernel

set_option maxHeartbeats 4000000 in
set_option maxRecDepth 100000 in
theorem am_Format_highProduct_L122 (l : Launch) (hfl : l.flags = pinnedFlags ++ [noTraceFlag]) (D : va_G) (A : Nat → Prop) (σ MC MS : Nat) (h0 : xb_H) (Qr : Int64 → xb_H → Prop) (y0 : Int64) (h : xb_H) (hw : w_Format_highProduct_L122 Qr y0 h) : xb_am l D A σ 2 MC MS h0 (fun v h _ _ => ∃ r, v = some (.long r) ∧ Qr r h) (fun _ _ _ _ => False) y_Format_highProduct.cls y_Format_highProduct.name b_Format_highProduct 21 ([] : List ExceptionTableEntry) (some .long) 122 [] [.long y0] h 0 0 := by
  unfold w_Format_highProduct_L122 at hw
  intro p e s m args below meth c hC H locs ls k n hE hl hR hS hk hn
  obtain ⟨hx, hb, hown, hlocks, htab, hml, hr, hB, hA, hnm⟩ := id hC
  have hts := hB.1.1.at args
  exact xb_lret 0 0 hx hb hr hlocks (show k + 0 ≤ MC by omega) (show n + 0 ≤ MS by omega) hE hR hS (xb_d D_Format_highProduct 71 rfl) hw

set_option maxHeartbeats 4000000 in
set_option maxRecDepth 100000 in
theorem am_Format_highProduct_L106 (l : Launch) (hfl : l.flags = pinnedFlags ++ [noTraceFlag]) (D : va_G) (A : Nat → Prop) (σ MC MS : Nat) (h0 : xb_H) (Qr : Int64 → xb_H → Prop) (x18 : Int64) (y0 : Int32) (h : xb_H) (hw : w_Format_highProduct_L106 Qr x18 y0 h) : xb_am l D A σ 2 MC MS h0 (fun v h _ _ => ∃ r, v = some (.long r) ∧ Qr r h) (fun _ _ _ _ => False) y_Format_highProduct.cls y_Format_highProduct.name b_Format_highProduct 21 ([] : List ExceptionTableEntry) (some .long) 106 [(18, .long x18)] [.int y0] h 0 0 := by
  unfold w_Format_highProduct_L106 at hw
  intro p e s m args below meth c hC H locs ls k n hE hl hR hS hk hn
  obtain ⟨hx, hb, hown, hlocks, htab, hml, hr, hB, hA, hnm⟩ := id hC
  have hts := hB.1.1.at args
  refine lv_istore hx hb (xb_d D_Format_highProduct 63 rfl) hl (by decide) rfl (fun ls hl => ?_)
  have hl : lv_has ls 21 [(20, .int y0), (18, .long x18)] := hl
  refine lv_iload hx hb (xb_d D_Format_highProduct 64 rfl) (lv_at hl 0 rfl) ?_
  refine lv_if_eq (tgt := 120) hx hb (xb_d D_Format_highProduct 65 rfl) rfl (fun hc1 => ?_) (fun hc1 => ?_)
  · have hw := hw.1 hc1
    refine lv_lload hx hb (xb_d D_Format_highProduct 70 rfl) (lv_at hl 1 rfl) ?_
    exact am_Format_highProduct_L122 l hfl D A σ MC MS h0 Qr x18 h hw p e s m args below meth c hC H locs ls k n hE (lv_sub hl [] rfl) hR hS (by omega) (by omega)
  · have hw := hw.2 hc1
    refine lv_lload hx hb (xb_d D_Format_highProduct 66 rfl) (lv_at hl 1 rfl) ?_
    refine lv_lconst (v := 1) hx hb (xb_d D_Format_highProduct 67 rfl) (by decide) ?_
    refine lv_lor hx hb (xb_d D_Format_highProduct 68 rfl) ?_
    refine lv_goto (tgt := 122) hx hb (xb_d D_Format_highProduct 69 rfl) rfl ?_
    exact am_Format_highProduct_L122 l hfl D A σ MC MS h0 Qr (x18 ||| 1) h hw p e s m args below meth c hC H locs ls k n hE (lv_sub hl [] rfl) hR hS (by omega) (by omega)

set_option maxHeartbeats 4000000 in
set_option maxRecDepth 100000 in
theorem am_Format_highProduct_L101 (l : Launch) (hfl : l.flags = pinnedFlags ++ [noTraceFlag]) (D : va_G) (A : Nat → Prop) (σ MC MS : Nat) (h0 : xb_H) (Qr : Int64 → xb_H → Prop) (x18 : Int64) (h : xb_H) (hw : w_Format_highProduct_L101 Qr x18 h) : xb_am l D A σ 2 MC MS h0 (fun v h _ _ => ∃ r, v = some (.long r) ∧ Qr r h) (fun _ _ _ _ => False) y_Format_highProduct.cls y_Format_highProduct.name b_Format_highProduct 21 ([] : List ExceptionTableEntry) (some .long) 101 [(18, .long x18)] [] h 0 0 := by
  unfold w_Format_highProduct_L101 at hw
  intro p e s m args below meth c hC H locs ls k n hE hl hR hS hk hn
  obtain ⟨hx, hb, hown, hlocks, htab, hml, hr, hB, hA, hnm⟩ := id hC
  have hts := hB.1.1.at args
  refine lv_iconst (v := 1) hx hb (xb_d D_Format_highProduct 60 rfl) (by decide) ?_
  refine lv_goto (tgt := 106) hx hb (xb_d D_Format_highProduct 61 rfl) rfl ?_
  exact am_Format_highProduct_L106 l hfl D A σ MC MS h0 Qr x18 1 h hw p e s m args below meth c hC H locs ls k n hE (lv_sub hl [0] rfl) hR hS (by omega) (by omega)

set_option maxHeartbeats 4000000 in
set_option maxRecDepth 100000 in
theorem ok_Format_highProduct (l : Launch) (hfl : l.flags = pinnedFlags ++ [noTraceFlag]) (D : va_G) (A : Nat → Prop) (σ : Nat) (x0 : Int64) (x2 : Int64) (h : xb_H) (Qr : Int64 → xb_H → Prop) (hw : w_Format_highProduct x0 x2 h Qr) : xb_Met l y_Format_highProduct [.code y_Format_highProduct b_Format_highProduct 21 (some .long)] (xb_rm 2 0 0) (xb_Pc D A σ h [.long x0, .long x2]) (xb_Qc D A h 0 0 (fun v h _ _ => ∃ r, v = some (.long r) ∧ Qr r h) (fun _ _ _ _ => False)) A := by
  refine xb_ofAm (cc := b_Format_highProduct) (by decide) (Nat.le_of_ble_eq_true rfl) ?_
  unfold w_Format_highProduct at hw
  show xb_am l D A σ 2 0 0 h (fun v h _ _ => ∃ r, v = some (.long r) ∧ Qr r h) (fun _ _ _ _ => False) y_Format_highProduct.cls y_Format_highProduct.name b_Format_highProduct 21 ([] : List ExceptionTableEntry) (some .long) 0 [(0, .long x0), (2, .long x2)] [] h 0 0
  obtain ⟨MC, hMC⟩ : ∃ x, x = 0 := ⟨_, rfl⟩
  obtain ⟨MS, hMS⟩ : ∃ x, x = 0 := ⟨_, rfl⟩
  rw [show xb_am l D A σ 2 0 0 = xb_am l D A σ 2 MC MS by rw [hMC, hMS]]
  obtain ⟨h0, hh0⟩ : ∃ x, x = h := ⟨_, rfl⟩
  rw [show xb_am l D A σ 2 MC MS h = xb_am l D A σ 2 MC MS h0 by rw [hh0]]
  intro p e s m args below meth c hC H locs ls k n hE hl hR hS hk hn
  obtain ⟨hx, hb, hown, hlocks, htab, hml, hr, hB, hA, hnm⟩ := id hC
  have hts := hB.1.1.at args
  refine lv_lload_n hx hb (xb_d D_Format_highProduct 0 rfl) rfl (lv_at hl 0 rfl) ?_
  refine lv_ldc2 (v := 4294967295) hx hb hown (hts _ m_45920cef) (xb_d D_Format_highProduct 1 rfl) ?_
  refine lv_land hx hb (xb_d D_Format_highProduct 2 rfl) ?_
  obtain ⟨v1, ev1⟩ : ∃ x : Int64, x = (x0 &&& 4294967295) := ⟨_, rfl⟩
  have hw := hw v1 ev1
  refine xt_numl (y := v1) ev1.symm ?_
  refine lv_lstore hx hb (xb_d D_Format_highProduct 3 rfl) hl (by decide) rfl (fun ls hl => ?_)
  have hl : lv_has ls 21 [(4, .long v1), (0, .long x0), (2, .long x2)] := hl
  refine lv_lload_n hx hb (xb_d D_Format_highProduct 4 rfl) rfl (lv_at hl 1 rfl) ?_
  refine lv_bipush (v := 32) hx hb (xb_d D_Format_highProduct 5 rfl) (by decide) ?_
  refine lv_lushr (v := (xb_lushr x0 32)) hx hb (xb_d D_Format_highProduct 6 rfl) rfl ?_
  obtain ⟨v2, ev2⟩ : ∃ x : Int64, x = (xb_lushr x0 32) := ⟨_, rfl⟩
  have hw := hw v2 ev2
  refine xt_numl (y := v2) ev2.symm ?_
  refine lv_lstore hx hb (xb_d D_Format_highProduct 7 rfl) hl (by decide) rfl (fun ls hl => ?_)
  have hl : lv_has ls 21 [(6, .long v2), (4, .long v1), (0, .long x0), (2, .long x2)] := hl
  refine lv_lload_n hx hb (xb_d D_Format_highProduct 8 rfl) rfl (lv_at hl 3 rfl) ?_
  refine lv_ldc2 (v := 4294967295) hx hb hown (hts _ m_45920cef) (xb_d D_Format_highProduct 9 rfl) ?_
  refine lv_land hx hb (xb_d D_Format_highProduct 10 rfl) ?_
  obtain ⟨v3, ev3⟩ : ∃ x : Int64, x = (x2 &&& 4294967295) := ⟨_, rfl⟩
  have hw := hw v3 ev3
  refine xt_numl (y := v3) ev3.symm ?_
  refine lv_lstore hx hb (xb_d D_Format_highProduct 11 rfl) hl (by decide) rfl (fun ls hl => ?_)
  have hl : lv_has ls 21 [(8, .long v3), (6, .long v2), (4, .long v1), (0, .long x0), (2, .long x2)] := hl
  refine lv_lload_n hx hb (xb_d D_Format_highProduct 12 rfl) rfl (lv_at hl 4 rfl) ?_
  refine lv_bipush (v := 32) hx hb (xb_d D_Format_highProduct 13 rfl) (by decide) ?_
  refine lv_lushr (v := (xb_lushr x2 32)) hx hb (xb_d D_Format_highProduct 14 rfl) rfl ?_
  obtain ⟨v4, ev4⟩ : ∃ x : Int64, x = (xb_lushr x2 32) := ⟨_, rfl⟩
  have hw := hw v4 ev4
  refine xt_numl (y := v4) ev4.symm ?_
  refine lv_lstore hx hb (xb_d D_Format_highProduct 15 rfl) hl (by decide) rfl (fun ls hl => ?_)
  have hl : lv_has ls 21 [(10, .long v4), (8, .long v3), (6, .long v2), (4, .long v1), (0, .long x0), (2, .long x2)] := hl
  refine lv_lload hx hb (xb_d D_Format_highProduct 16 rfl) (lv_at hl 3 rfl) ?_
  refine lv_lload hx hb (xb_d D_Format_highProduct 17 rfl) (lv_at hl 1 rfl) ?_
  refine lv_lmul hx hb (xb_d D_Format_highProduct 18 rfl) ?_
  obtain ⟨v5, ev5⟩ : ∃ x : Int64, x = (v1 * v3) := ⟨_, rfl⟩
  have hw := hw v5 ev5
  refine xt_numl (y := v5) ev5.symm ?_
  refine lv_lstore hx hb (xb_d D_Format_highProduct 19 rfl) hl (by decide) rfl (fun ls hl => ?_)
  have hl : lv_has ls 21 [(12, .long v5), (10, .long v4), (8, .long v3), (6, .long v2), (4, .long v1), (0, .long x0), (2, .long x2)] := hl
  refine lv_lload hx hb (xb_d D_Format_highProduct 20 rfl) (lv_at hl 3 rfl) ?_
  refine lv_lload hx hb (xb_d D_Format_highProduct 21 rfl) (lv_at hl 2 rfl) ?_
  refine lv_lmul hx hb (xb_d D_Format_highProduct 22 rfl) ?_
  refine lv_lload hx hb (xb_d D_Format_highProduct 23 rfl) (lv_at hl 0 rfl) ?_
  refine lv_bipush (v := 32) hx hb (xb_d D_Format_highProduct 24 rfl) (by decide) ?_
  refine lv_lushr (v := (xb_lushr v5 32)) hx hb (xb_d D_Format_highProduct 25 rfl) rfl ?_
  refine lv_ladd hx hb (xb_d D_Format_highProduct 26 rfl) ?_
  obtain ⟨v6, ev6⟩ : ∃ x : Int64, x = ((v2 * v3) + (xb_lushr v5 32)) := ⟨_, rfl⟩
  have hw := hw v6 ev6
  refine xt_numl (y := v6) ev6.symm ?_
  refine lv_lstore hx hb (xb_d D_Format_highProduct 27 rfl) hl (by decide) rfl (fun ls hl => ?_)
  have hl : lv_has ls 21 [(14, .long v6), (12, .long v5), (10, .long v4), (8, .long v3), (6, .long v2), (4, .long v1), (0, .long x0), (2, .long x2)] := hl
  refine lv_lload hx hb (xb_d D_Format_highProduct 28 rfl) (lv_at hl 5 rfl) ?_
  refine lv_lload hx hb (xb_d D_Format_highProduct 29 rfl) (lv_at hl 2 rfl) ?_
  refine lv_lmul hx hb (xb_d D_Format_highProduct 30 rfl) ?_
  refine lv_lload hx hb (xb_d D_Format_highProduct 31 rfl) (lv_at hl 0 rfl) ?_
  refine lv_ldc2 (v := 4294967295) hx hb hown (hts _ m_45920cef) (xb_d D_Format_highProduct 32 rfl) ?_
  refine lv_land hx hb (xb_d D_Format_highProduct 33 rfl) ?_
  refine lv_ladd hx hb (xb_d D_Format_highProduct 34 rfl) ?_
  obtain ⟨v7, ev7⟩ : ∃ x : Int64, x = ((v1 * v4) + (v6 &&& 4294967295)) := ⟨_, rfl⟩
  have hw := hw v7 ev7
  refine xt_numl (y := v7) ev7.symm ?_
  refine lv_lstore hx hb (xb_d D_Format_highProduct 35 rfl) hl (by decide) rfl (fun ls hl => ?_)
  have hl : lv_has ls 21 [(16, .long v7), (14, .long v6), (12, .long v5), (10, .long v4), (8, .long v3), (6, .long v2), (4, .long v1), (0, .long x0), (2, .long x2)] := hl
  refine lv_lload hx hb (xb_d D_Format_highProduct 36 rfl) (lv_at hl 5 rfl) ?_
  refine lv_lload hx hb (xb_d D_Format_highProduct 37 rfl) (lv_at hl 3 rfl) ?_
  refine lv_lmul hx hb (xb_d D_Format_highProduct 38 rfl) ?_
  refine lv_lload hx hb (xb_d D_Format_highProduct 39 rfl) (lv_at hl 1 rfl) ?_
  refine lv_bipush (v := 32) hx hb (xb_d D_Format_highProduct 40 rfl) (by decide) ?_
  refine lv_lushr (v := (xb_lushr v6 32)) hx hb (xb_d D_Format_highProduct 41 rfl) rfl ?_
  refine lv_ladd hx hb (xb_d D_Format_highProduct 42 rfl) ?_
  refine lv_lload hx hb (xb_d D_Format_highProduct 43 rfl) (lv_at hl 0 rfl) ?_
  refine lv_bipush (v := 32) hx hb (xb_d D_Format_highProduct 44 rfl) (by decide) ?_
  refine lv_lushr (v := (xb_lushr v7 32)) hx hb (xb_d D_Format_highProduct 45 rfl) rfl ?_
  refine lv_ladd hx hb (xb_d D_Format_highProduct 46 rfl) ?_
  obtain ⟨v8, ev8⟩ : ∃ x : Int64, x = (((v2 * v4) + (xb_lushr v6 32)) + (xb_lushr v7 32)) := ⟨_, rfl⟩
  have hw := hw v8 ev8
  refine xt_numl (y := v8) ev8.symm ?_
  refine lv_lstore hx hb (xb_d D_Format_highProduct 47 rfl) hl (by decide) rfl (fun ls hl => ?_)
  have hl : lv_has ls 21 [(18, .long v8), (16, .long v7), (14, .long v6), (12, .long v5), (10, .long v4), (8, .long v3), (6, .long v2), (4, .long v1), (0, .long x0), (2, .long x2)] := hl
  refine lv_lload hx hb (xb_d D_Format_highProduct 48 rfl) (lv_at hl 3 rfl) ?_
  refine lv_ldc2 (v := 4294967295) hx hb hown (hts _ m_45920cef) (xb_d D_Format_highProduct 49 rfl) ?_
  refine lv_land hx hb (xb_d D_Format_highProduct 50 rfl) ?_
  refine lv_lconst (v := 0) hx hb (xb_d D_Format_highProduct 51 rfl) (by decide) ?_
  refine xb_lc_ne (tgt := 101) hx hb (xb_d D_Format_highProduct 52 rfl) (xb_d D_Format_highProduct 53 rfl) rfl (fun hc9 => ?_) (fun hc9 => ?_)
  · have hw := hw.1 hc9
    exact am_Format_highProduct_L101 l hfl D A σ MC MS h0 Qr v8 h hw p e s m args below meth c hC H locs ls k n hE (lv_sub hl [0] rfl) hR hS (by omega) (by omega)
  · have hw := hw.2 hc9
    refine lv_lload hx hb (xb_d D_Format_highProduct 54 rfl) (lv_at hl 1 rfl) ?_
    refine lv_ldc2 (v := 4294967295) hx hb hown (hts _ m_45920cef) (xb_d D_Format_highProduct 55 rfl) ?_
    refine lv_land hx hb (xb_d D_Format_highProduct 56 rfl) ?_
    refine lv_lconst (v := 0) hx hb (xb_d D_Format_highProduct 57 rfl) (by decide) ?_
    refine xb_lc_eq (tgt := 105) hx hb (xb_d D_Format_highProduct 58 rfl) (xb_d D_Format_highProduct 59 rfl) rfl (fun hc10 => ?_) (fun hc10 => ?_)
    · have hw := hw.1 hc10
      refine lv_iconst (v := 0) hx hb (xb_d D_Format_highProduct 62 rfl) (by decide) ?_
      exact am_Format_highProduct_L106 l hfl D A σ MC MS h0 Qr v8 0 h hw p e s m args below meth c hC H locs ls k n hE (lv_sub hl [0] rfl) hR hS (by omega) (by omega)
    · have hw := hw.2 hc10
      exact am_Format_highProduct_L101 l hfl D A σ MC MS h0 Qr v8 h hw p e s m args below meth c hC H locs ls k n hE (lv_sub hl [0] rfl) hR hS (by omega) (by omega)

set_option maxRecDepth 100000 in
def T_Format_isAway : List (Nat × Instr × Nat) := [(0, .iload_n 0, 1), (1, .tableswitch 41 2 4 #[27, 37, 39], 27), (28, .iload_n 1, 1), (29, .ifCond .ne 7, 3), (32, .iconst 1, 1), (33, .goto 4, 3), (36, .iconst 0, 1), (37, .ireturn, 1), (38, .iload_n 1, 1), (39, .ireturn, 1), (40, .iconst 0, 1), (41, .ireturn, 1), (42, .iload_n 2, 1), (43, .ireturn, 1)]
theorem D_Format_isAway : ∀ q ∈ T_Format_isAway, decode b_Format_isAway q.1 = .ok (q.2.1, q.2.2) := by decide +kernel

set_option maxHeartbeats 4000000 in
set_option maxRecDepth 100000 in
theorem am_Format_isAway_L37 (l : Launch) (hfl : l.flags = pinnedFlags ++ [noTraceFlag]) (D : va_G) (A : Nat → Prop) (σ MC MS : Nat) (h0 : xb_H) (Qr : Int32 → xb_H → Prop) (y0 : Int32) (h : xb_H) (hw : w_Format_isAway_L37 Qr y0 h) : xb_am l D A σ 2 MC MS h0 (fun v h _ _ => ∃ r, v = some (.int r) ∧ Qr r h) (fun _ _ _ _ => False) y_Format_isAway.cls y_Format_isAway.name b_Format_isAway 3 ([] : List ExceptionTableEntry) (some .boolean) 37 [] [.int y0] h 0 0 := by
  unfold w_Format_isAway_L37 at hw
  intro p e s m args below meth c hC H locs ls k n hE hl hR hS hk hn
  obtain ⟨hx, hb, hown, hlocks, htab, hml, hr, hB, hA, hnm⟩ := id hC
  have hts := hB.1.1.at args
  exact xb_zret 0 0 hx hb hr hlocks (show k + 0 ≤ MC by omega) (show n + 0 ≤ MS by omega) hw.1 hE hR hS (xb_d D_Format_isAway 7 rfl) hw.2

set_option maxHeartbeats 4000000 in
set_option maxRecDepth 100000 in
theorem ok_Format_isAway (l : Launch) (hfl : l.flags = pinnedFlags ++ [noTraceFlag]) (D : va_G) (A : Nat → Prop) (σ : Nat) (x0 : Int32) (x1 : Int32) (x2 : Int32) (h : xb_H) (Qr : Int32 → xb_H → Prop) (hw : w_Format_isAway x0 x1 x2 h Qr) : xb_Met l y_Format_isAway [.code y_Format_isAway b_Format_isAway 3 (some .boolean)] (xb_rm 2 0 0) (xb_Pc D A σ h [.int x0, .int x1, .int x2]) (xb_Qc D A h 0 0 (fun v h _ _ => ∃ r, v = some (.int r) ∧ Qr r h) (fun _ _ _ _ => False)) A := by
  refine xb_ofAm (cc := b_Format_isAway) (by decide) (Nat.le_of_ble_eq_true rfl) ?_
  unfold w_Format_isAway at hw
  show xb_am l D A σ 2 0 0 h (fun v h _ _ => ∃ r, v = some (.int r) ∧ Qr r h) (fun _ _ _ _ => False) y_Format_isAway.cls y_Format_isAway.name b_Format_isAway 3 ([] : List ExceptionTableEntry) (some .boolean) 0 [(0, .int x0), (1, .int x1), (2, .int x2)] [] h 0 0
  obtain ⟨MC, hMC⟩ : ∃ x, x = 0 := ⟨_, rfl⟩
  obtain ⟨MS, hMS⟩ : ∃ x, x = 0 := ⟨_, rfl⟩
  rw [show xb_am l D A σ 2 0 0 = xb_am l D A σ 2 MC MS by rw [hMC, hMS]]
  obtain ⟨h0, hh0⟩ : ∃ x, x = h := ⟨_, rfl⟩
  rw [show xb_am l D A σ 2 MC MS h = xb_am l D A σ 2 MC MS h0 by rw [hh0]]
  intro p e s m args below meth c hC H locs ls k n hE hl hR hS hk hn
  obtain ⟨hx, hb, hown, hlocks, htab, hml, hr, hB, hA, hnm⟩ := id hC
  have hts := hB.1.1.at args
  refine lv_iload_n hx hb (xb_d D_Format_isAway 0 rfl) rfl (lv_at hl 0 rfl) ?_
  by_cases hc1 : x0 = 2
  · have hw := hw.1 hc1
    refine xt_numi hc1 ?_
    refine lv_tableIn (off := 27) (tgt := 28) hx hb (xb_d D_Format_isAway 1 rfl) (by decide +kernel) (by decide +kernel) (by decide +kernel) (by decide) ?_
    refine lv_iload_n hx hb (xb_d D_Format_isAway 2 rfl) rfl (lv_at hl 1 rfl) ?_
    refine lv_if_ne (tgt := 36) hx hb (xb_d D_Format_isAway 3 rfl) rfl (fun hc2 => ?_) (fun hc2 => ?_)
    · have hw := hw.1 hc2
      refine lv_iconst (v := 0) hx hb (xb_d D_Format_isAway 6 rfl) (by decide) ?_
      exact am_Format_isAway_L37 l hfl D A σ MC MS h0 Qr 0 h hw p e s m args below meth c hC H locs ls k n hE (lv_sub hl [] rfl) hR hS (by omega) (by omega)
    · have hw := hw.2 hc2
      refine lv_iconst (v := 1) hx hb (xb_d D_Format_isAway 4 rfl) (by decide) ?_
      refine lv_goto (tgt := 37) hx hb (xb_d D_Format_isAway 5 rfl) rfl ?_
      exact am_Format_isAway_L37 l hfl D A σ MC MS h0 Qr 1 h hw p e s m args below meth c hC H locs ls k n hE (lv_sub hl [] rfl) hR hS (by omega) (by omega)
  have hw := hw.2
  by_cases hc3 : x0 = 3
  · have hw := hw.1 hc3
    refine xt_numi hc3 ?_
    refine lv_tableIn (off := 37) (tgt := 38) hx hb (xb_d D_Format_isAway 1 rfl) (by decide +kernel) (by decide +kernel) (by decide +kernel) (by decide) ?_
    refine lv_iload_n hx hb (xb_d D_Format_isAway 8 rfl) rfl (lv_at hl 1 rfl) ?_
    exact xb_zret 0 0 hx hb hr hlocks (show k + 0 ≤ MC by omega) (show n + 0 ≤ MS by omega) hw.1 hE hR hS (xb_d D_Format_isAway 9 rfl) hw.2
  have hw := hw.2
  by_cases hc4 : x0 = 4
  · have hw := hw.1 hc4
    refine xt_numi hc4 ?_
    refine lv_tableIn (off := 39) (tgt := 40) hx hb (xb_d D_Format_isAway 1 rfl) (by decide +kernel) (by decide +kernel) (by decide +kernel) (by decide) ?_
    refine lv_iconst (v := 0) hx hb (xb_d D_Format_isAway 10 rfl) (by decide) ?_
    exact xb_zret 0 0 hx hb hr hlocks (show k + 0 ≤ MC by omega) (show n + 0 ≤ MS by omega) (by decide) hE hR hS (xb_d D_Format_isAway 11 rfl) hw
  have hw := hw.2
  have hw := hw hc1 hc3 hc4
  refine lv_tableOut (tgt := 42) hx hb (xb_d D_Format_isAway 1 rfl) (by have a0 := xb_nl (2) 2 (by decide) hc1; have a1 := xb_nl (3) 3 (by decide) hc3; have a2 := xb_nl (4) 4 (by decide) hc4; omega) (by decide) ?_
  refine lv_iload_n hx hb (xb_d D_Format_isAway 12 rfl) rfl (lv_at hl 2 rfl) ?_
  exact xb_zret 0 0 hx hb hr hlocks (show k + 0 ≤ MC by omega) (show n + 0 ≤ MS by omega) hw.1 hE hR hS (xb_d D_Format_isAway 13 rfl) hw.2

set_option maxRecDepth 100000 in
def T_Format_isInfinite : List (Nat × Instr × Nat) := [(0, .lload_n 1, 1), (1, .aload_n 0, 1), (2, .getfield 18, 3), (5, .lconst 1, 1), (6, .lsub, 1), (7, .land, 1), (8, .aload_n 0, 1), (9, .getfield 24, 3), (12, .lcmp, 1), (13, .ifCond .ne 7, 3), (16, .iconst 1, 1), (17, .goto 4, 3), (20, .iconst 0, 1), (21, .ireturn, 1)]
theorem D_Format_isInfinite : ∀ q ∈ T_Format_isInfinite, decode b_Format_isInfinite q.1 = .ok (q.2.1, q.2.2) := by decide +kernel

set_option maxHeartbeats 4000000 in
set_option maxRecDepth 100000 in
theorem am_Format_isInfinite_L21 (l : Launch) (hfl : l.flags = pinnedFlags ++ [noTraceFlag]) (D : va_G) (A : Nat → Prop) (σ MC MS : Nat) (h0 : xb_H) (Qr : Int32 → xb_H → Prop) (y0 : Int32) (h : xb_H) (hw : w_Format_isInfinite_L21 Qr y0 h) : xb_am l D A σ 2 MC MS h0 (fun v h _ _ => ∃ r, v = some (.int r) ∧ Qr r h) (fun _ _ _ _ => False) y_Format_isInfinite.cls y_Format_isInfinite.name b_Format_isInfinite 3 ([] : List ExceptionTableEntry) (some .boolean) 21 [] [.int y0] h 0 0 := by
  unfold w_Format_isInfinite_L21 at hw
  intro p e s m args below meth c hC H locs ls k n hE hl hR hS hk hn
  obtain ⟨hx, hb, hown, hlocks, htab, hml, hr, hB, hA, hnm⟩ := id hC
  have hts := hB.1.1.at args
  exact xb_zret 0 0 hx hb hr hlocks (show k + 0 ≤ MC by omega) (show n + 0 ≤ MS by omega) hw.1 hE hR hS (xb_d D_Format_isInfinite 13 rfl) hw.2

set_option maxHeartbeats 4000000 in
set_option maxRecDepth 100000 in
theorem ok_Format_isInfinite (l : Launch) (hfl : l.flags = pinnedFlags ++ [noTraceFlag]) (D : va_G) (A : Nat → Prop) (σ : Nat) (x0 : Nat) (x1 : Int64) (h : xb_H) (Qr : Int32 → xb_H → Prop) (hw : w_Format_isInfinite x0 x1 h Qr) : xb_Met l y_Format_isInfinite [.code y_Format_isInfinite b_Format_isInfinite 3 (some .boolean)] (xb_rm 2 0 0) (xb_Pc D A σ h [.ref x0, .long x1]) (xb_Qc D A h 0 0 (fun v h _ _ => ∃ r, v = some (.int r) ∧ Qr r h) (fun _ _ _ _ => False)) A := by
  refine xb_ofAm (cc := b_Format_isInfinite) (by decide) (Nat.le_of_ble_eq_true rfl) ?_
  unfold w_Format_isInfinite at hw
  show xb_am l D A σ 2 0 0 h (fun v h _ _ => ∃ r, v = some (.int r) ∧ Qr r h) (fun _ _ _ _ => False) y_Format_isInfinite.cls y_Format_isInfinite.name b_Format_isInfinite 3 ([] : List ExceptionTableEntry) (some .boolean) 0 [(0, .ref x0), (1, .long x1)] [] h 0 0
  obtain ⟨MC, hMC⟩ : ∃ x, x = 0 := ⟨_, rfl⟩
  obtain ⟨MS, hMS⟩ : ∃ x, x = 0 := ⟨_, rfl⟩
  rw [show xb_am l D A σ 2 0 0 = xb_am l D A σ 2 MC MS by rw [hMC, hMS]]
  obtain ⟨h0, hh0⟩ : ∃ x, x = h := ⟨_, rfl⟩
  rw [show xb_am l D A σ 2 MC MS h = xb_am l D A σ 2 MC MS h0 by rw [hh0]]
  intro p e s m args below meth c hC H locs ls k n hE hl hR hS hk hn
  obtain ⟨hx, hb, hown, hlocks, htab, hml, hr, hB, hA, hnm⟩ := id hC
  have hts := hB.1.1.at args
  refine lv_lload_n hx hb (xb_d D_Format_isInfinite 0 rfl) rfl (lv_at hl 1 rfl) ?_
  refine lv_aload_n hx hb (xb_d D_Format_isInfinite 1 rfl) rfl (lv_at hl 0 rfl) ?_
  obtain ⟨hk1, hw⟩ := hw
  refine xb_getL (C := R_Format) (T := F_Format) (N := 5) hx hb 5 2 hts fin_Format hown hR hk1 (by decide) rfl (by decide) rfl (hts _ m_e3160854) (fun _ h9 => h9) (xb_d D_Format_isInfinite 2 rfl) ?_
  refine lv_lconst (v := 1) hx hb (xb_d D_Format_isInfinite 3 rfl) (by decide) ?_
  refine lv_lsub hx hb (xb_d D_Format_isInfinite 4 rfl) ?_
  refine lv_land hx hb (xb_d D_Format_isInfinite 5 rfl) ?_
  refine lv_aload_n hx hb (xb_d D_Format_isInfinite 6 rfl) rfl (lv_at hl 0 rfl) ?_
  refine xb_getL (C := R_Format) (T := F_Format) (N := 5) hx hb 5 3 hts fin_Format hown hR hk1 (by decide) rfl (by decide) rfl (hts _ m_1e01af33) (fun _ h9 => h9) (xb_d D_Format_isInfinite 7 rfl) ?_
  refine xb_lc_ne (tgt := 20) hx hb (xb_d D_Format_isInfinite 8 rfl) (xb_d D_Format_isInfinite 9 rfl) rfl (fun hc2 => ?_) (fun hc2 => ?_)
  · have hw := hw.1 hc2
    refine lv_iconst (v := 0) hx hb (xb_d D_Format_isInfinite 12 rfl) (by decide) ?_
    exact am_Format_isInfinite_L21 l hfl D A σ MC MS h0 Qr 0 h hw p e s m args below meth c hC H locs ls k n hE (lv_sub hl [] rfl) hR hS (by omega) (by omega)
  · have hw := hw.2 hc2
    refine lv_iconst (v := 1) hx hb (xb_d D_Format_isInfinite 10 rfl) (by decide) ?_
    refine lv_goto (tgt := 21) hx hb (xb_d D_Format_isInfinite 11 rfl) rfl ?_
    exact am_Format_isInfinite_L21 l hfl D A σ MC MS h0 Qr 1 h hw p e s m args below meth c hC H locs ls k n hE (lv_sub hl [] rfl) hR hS (by omega) (by omega)

set_option maxRecDepth 100000 in
def T_Format_isNan : List (Nat × Instr × Nat) := [(0, .lload_n 1, 1), (1, .aload_n 0, 1), (2, .getfield 18, 3), (5, .lconst 1, 1), (6, .lsub, 1), (7, .land, 1), (8, .aload_n 0, 1), (9, .getfield 24, 3), (12, .lcmp, 1), (13, .ifCond .le 7, 3), (16, .iconst 1, 1), (17, .goto 4, 3), (20, .iconst 0, 1), (21, .ireturn, 1)]
theorem D_Format_isNan : ∀ q ∈ T_Format_isNan, decode b_Format_isNan q.1 = .ok (q.2.1, q.2.2) := by decide +kernel

set_option maxHeartbeats 4000000 in
set_option maxRecDepth 100000 in
theorem am_Format_isNan_L21 (l : Launch) (hfl : l.flags = pinnedFlags ++ [noTraceFlag]) (D : va_G) (A : Nat → Prop) (σ MC MS : Nat) (h0 : xb_H) (Qr : Int32 → xb_H → Prop) (y0 : Int32) (h : xb_H) (hw : w_Format_isNan_L21 Qr y0 h) : xb_am l D A σ 2 MC MS h0 (fun v h _ _ => ∃ r, v = some (.int r) ∧ Qr r h) (fun _ _ _ _ => False) y_Format_isNan.cls y_Format_isNan.name b_Format_isNan 3 ([] : List ExceptionTableEntry) (some .boolean) 21 [] [.int y0] h 0 0 := by
  unfold w_Format_isNan_L21 at hw
  intro p e s m args below meth c hC H locs ls k n hE hl hR hS hk hn
  obtain ⟨hx, hb, hown, hlocks, htab, hml, hr, hB, hA, hnm⟩ := id hC
  have hts := hB.1.1.at args
  exact xb_zret 0 0 hx hb hr hlocks (show k + 0 ≤ MC by omega) (show n + 0 ≤ MS by omega) hw.1 hE hR hS (xb_d D_Format_isNan 13 rfl) hw.2

set_option maxHeartbeats 4000000 in
set_option maxRecDepth 100000 in
theorem ok_Format_isNan (l : Launch) (hfl : l.flags = pinnedFlags ++ [noTraceFlag]) (D : va_G) (A : Nat → Prop) (σ : Nat) (x0 : Nat) (x1 : Int64) (h : xb_H) (Qr : Int32 → xb_H → Prop) (hw : w_Format_isNan x0 x1 h Qr) : xb_Met l y_Format_isNan [.code y_Format_isNan b_Format_isNan 3 (some .boolean)] (xb_rm 2 0 0) (xb_Pc D A σ h [.ref x0, .long x1]) (xb_Qc D A h 0 0 (fun v h _ _ => ∃ r, v = some (.int r) ∧ Qr r h) (fun _ _ _ _ => False)) A := by
  refine xb_ofAm (cc := b_Format_isNan) (by decide) (Nat.le_of_ble_eq_true rfl) ?_
  unfold w_Format_isNan at hw
  show xb_am l D A σ 2 0 0 h (fun v h _ _ => ∃ r, v = some (.int r) ∧ Qr r h) (fun _ _ _ _ => False) y_Format_isNan.cls y_Format_isNan.name b_Format_isNan 3 ([] : List ExceptionTableEntry) (some .boolean) 0 [(0, .ref x0), (1, .long x1)] [] h 0 0
  obtain ⟨MC, hMC⟩ : ∃ x, x = 0 := ⟨_, rfl⟩
  obtain ⟨MS, hMS⟩ : ∃ x, x = 0 := ⟨_, rfl⟩
  rw [show xb_am l D A σ 2 0 0 = xb_am l D A σ 2 MC MS by rw [hMC, hMS]]
  obtain ⟨h0, hh0⟩ : ∃ x, x = h := ⟨_, rfl⟩
  rw [show xb_am l D A σ 2 MC MS h = xb_am l D A σ 2 MC MS h0 by rw [hh0]]
  intro p e s m args below meth c hC H locs ls k n hE hl hR hS hk hn
  obtain ⟨hx, hb, hown, hlocks, htab, hml, hr, hB, hA, hnm⟩ := id hC
  have hts := hB.1.1.at args
  refine lv_lload_n hx hb (xb_d D_Format_isNan 0 rfl) rfl (lv_at hl 1 rfl) ?_
  refine lv_aload_n hx hb (xb_d D_Format_isNan 1 rfl) rfl (lv_at hl 0 rfl) ?_
  obtain ⟨hk1, hw⟩ := hw
  refine xb_getL (C := R_Format) (T := F_Format) (N := 5) hx hb 5 2 hts fin_Format hown hR hk1 (by decide) rfl (by decide) rfl (hts _ m_e3160854) (fun _ h9 => h9) (xb_d D_Format_isNan 2 rfl) ?_
  refine lv_lconst (v := 1) hx hb (xb_d D_Format_isNan 3 rfl) (by decide) ?_
  refine lv_lsub hx hb (xb_d D_Format_isNan 4 rfl) ?_
  refine lv_land hx hb (xb_d D_Format_isNan 5 rfl) ?_
  refine lv_aload_n hx hb (xb_d D_Format_isNan 6 rfl) rfl (lv_at hl 0 rfl) ?_
  refine xb_getL (C := R_Format) (T := F_Format) (N := 5) hx hb 5 3 hts fin_Format hown hR hk1 (by decide) rfl (by decide) rfl (hts _ m_1e01af33) (fun _ h9 => h9) (xb_d D_Format_isNan 7 rfl) ?_
  refine xb_lc_le (tgt := 20) hx hb (xb_d D_Format_isNan 8 rfl) (xb_d D_Format_isNan 9 rfl) rfl (fun hc2 => ?_) (fun hc2 => ?_)
  · have hw := hw.1 hc2
    refine lv_iconst (v := 0) hx hb (xb_d D_Format_isNan 12 rfl) (by decide) ?_
    exact am_Format_isNan_L21 l hfl D A σ MC MS h0 Qr 0 h hw p e s m args below meth c hC H locs ls k n hE (lv_sub hl [] rfl) hR hS (by omega) (by omega)
  · have hw := hw.2 hc2
    refine lv_iconst (v := 1) hx hb (xb_d D_Format_isNan 10 rfl) (by decide) ?_
    refine lv_goto (tgt := 21) hx hb (xb_d D_Format_isNan 11 rfl) rfl ?_
    exact am_Format_isNan_L21 l hfl D A σ MC MS h0 Qr 1 h hw p e s m args below meth c hC H locs ls k n hE (lv_sub hl [] rfl) hR hS (by omega) (by omega)

set_option maxRecDepth 100000 in
def T_Format_isNegative : List (Nat × Instr × Nat) := [(0, .lload_n 1, 1), (1, .aload_n 0, 1), (2, .getfield 18, 3), (5, .land, 1), (6, .lconst 0, 1), (7, .lcmp, 1), (8, .ifCond .eq 7, 3), (11, .iconst 1, 1), (12, .goto 4, 3), (15, .iconst 0, 1), (16, .ireturn, 1)]
theorem D_Format_isNegative : ∀ q ∈ T_Format_isNegative, decode b_Format_isNegative q.1 = .ok (q.2.1, q.2.2) := by decide +kernel

set_option maxHeartbeats 4000000 in
set_option maxRecDepth 100000 in
theorem am_Format_isNegative_L16 (l : Launch) (hfl : l.flags = pinnedFlags ++ [noTraceFlag]) (D : va_G) (A : Nat → Prop) (σ MC MS : Nat) (h0 : xb_H) (Qr : Int32 → xb_H → Prop) (y0 : Int32) (h : xb_H) (hw : w_Format_isNegative_L16 Qr y0 h) : xb_am l D A σ 2 MC MS h0 (fun v h _ _ => ∃ r, v = some (.int r) ∧ Qr r h) (fun _ _ _ _ => False) y_Format_isNegative.cls y_Format_isNegative.name b_Format_isNegative 3 ([] : List ExceptionTableEntry) (some .boolean) 16 [] [.int y0] h 0 0 := by
  unfold w_Format_isNegative_L16 at hw
  intro p e s m args below meth c hC H locs ls k n hE hl hR hS hk hn
  obtain ⟨hx, hb, hown, hlocks, htab, hml, hr, hB, hA, hnm⟩ := id hC
  have hts := hB.1.1.at args
  exact xb_zret 0 0 hx hb hr hlocks (show k + 0 ≤ MC by omega) (show n + 0 ≤ MS by omega) hw.1 hE hR hS (xb_d D_Format_isNegative 10 rfl) hw.2

set_option maxHeartbeats 4000000 in
set_option maxRecDepth 100000 in
theorem ok_Format_isNegative (l : Launch) (hfl : l.flags = pinnedFlags ++ [noTraceFlag]) (D : va_G) (A : Nat → Prop) (σ : Nat) (x0 : Nat) (x1 : Int64) (h : xb_H) (Qr : Int32 → xb_H → Prop) (hw : w_Format_isNegative x0 x1 h Qr) : xb_Met l y_Format_isNegative [.code y_Format_isNegative b_Format_isNegative 3 (some .boolean)] (xb_rm 2 0 0) (xb_Pc D A σ h [.ref x0, .long x1]) (xb_Qc D A h 0 0 (fun v h _ _ => ∃ r, v = some (.int r) ∧ Qr r h) (fun _ _ _ _ => False)) A := by
  refine xb_ofAm (cc := b_Format_isNegative) (by decide) (Nat.le_of_ble_eq_true rfl) ?_
  unfold w_Format_isNegative at hw
  show xb_am l D A σ 2 0 0 h (fun v h _ _ => ∃ r, v = some (.int r) ∧ Qr r h) (fun _ _ _ _ => False) y_Format_isNegative.cls y_Format_isNegative.name b_Format_isNegative 3 ([] : List ExceptionTableEntry) (some .boolean) 0 [(0, .ref x0), (1, .long x1)] [] h 0 0
  obtain ⟨MC, hMC⟩ : ∃ x, x = 0 := ⟨_, rfl⟩
  obtain ⟨MS, hMS⟩ : ∃ x, x = 0 := ⟨_, rfl⟩
  rw [show xb_am l D A σ 2 0 0 = xb_am l D A σ 2 MC MS by rw [hMC, hMS]]
  obtain ⟨h0, hh0⟩ : ∃ x, x = h := ⟨_, rfl⟩
  rw [show xb_am l D A σ 2 MC MS h = xb_am l D A σ 2 MC MS h0 by rw [hh0]]
  intro p e s m args below meth c hC H locs ls k n hE hl hR hS hk hn
  obtain ⟨hx, hb, hown, hlocks, htab, hml, hr, hB, hA, hnm⟩ := id hC
  have hts := hB.1.1.at args
  refine lv_lload_n hx hb (xb_d D_Format_isNegative 0 rfl) rfl (lv_at hl 1 rfl) ?_
  refine lv_aload_n hx hb (xb_d D_Format_isNegative 1 rfl) rfl (lv_at hl 0 rfl) ?_
  obtain ⟨hk1, hw⟩ := hw
  refine xb_getL (C := R_Format) (T := F_Format) (N := 5) hx hb 5 2 hts fin_Format hown hR hk1 (by decide) rfl (by decide) rfl (hts _ m_e3160854) (fun _ h9 => h9) (xb_d D_Format_isNegative 2 rfl) ?_
  refine lv_land hx hb (xb_d D_Format_isNegative 3 rfl) ?_
  refine lv_lconst (v := 0) hx hb (xb_d D_Format_isNegative 4 rfl) (by decide) ?_
  refine xb_lc_eq (tgt := 15) hx hb (xb_d D_Format_isNegative 5 rfl) (xb_d D_Format_isNegative 6 rfl) rfl (fun hc2 => ?_) (fun hc2 => ?_)
  · have hw := hw.1 hc2
    refine lv_iconst (v := 0) hx hb (xb_d D_Format_isNegative 9 rfl) (by decide) ?_
    exact am_Format_isNegative_L16 l hfl D A σ MC MS h0 Qr 0 h hw p e s m args below meth c hC H locs ls k n hE (lv_sub hl [] rfl) hR hS (by omega) (by omega)
  · have hw := hw.2 hc2
    refine lv_iconst (v := 1) hx hb (xb_d D_Format_isNegative 7 rfl) (by decide) ?_
    refine lv_goto (tgt := 16) hx hb (xb_d D_Format_isNegative 8 rfl) rfl ?_
    exact am_Format_isNegative_L16 l hfl D A σ MC MS h0 Qr 1 h hw p e s m args below meth c hC H locs ls k n hE (lv_sub hl [] rfl) hR hS (by omega) (by omega)

set_option maxRecDepth 100000 in
def T_Format_isZero : List (Nat × Instr × Nat) := [(0, .lload_n 1, 1), (1, .aload_n 0, 1), (2, .getfield 18, 3), (5, .lconst 1, 1), (6, .lsub, 1), (7, .land, 1), (8, .lconst 0, 1), (9, .lcmp, 1), (10, .ifCond .ne 7, 3), (13, .iconst 1, 1), (14, .goto 4, 3), (17, .iconst 0, 1), (18, .ireturn, 1)]
theorem D_Format_isZero : ∀ q ∈ T_Format_isZero, decode b_Format_isZero q.1 = .ok (q.2.1, q.2.2) := by decide +kernel

set_option maxHeartbeats 4000000 in
set_option maxRecDepth 100000 in
theorem am_Format_isZero_L18 (l : Launch) (hfl : l.flags = pinnedFlags ++ [noTraceFlag]) (D : va_G) (A : Nat → Prop) (σ MC MS : Nat) (h0 : xb_H) (Qr : Int32 → xb_H → Prop) (y0 : Int32) (h : xb_H) (hw : w_Format_isZero_L18 Qr y0 h) : xb_am l D A σ 2 MC MS h0 (fun v h _ _ => ∃ r, v = some (.int r) ∧ Qr r h) (fun _ _ _ _ => False) y_Format_isZero.cls y_Format_isZero.name b_Format_isZero 3 ([] : List ExceptionTableEntry) (some .boolean) 18 [] [.int y0] h 0 0 := by
  unfold w_Format_isZero_L18 at hw
  intro p e s m args below meth c hC H locs ls k n hE hl hR hS hk hn
  obtain ⟨hx, hb, hown, hlocks, htab, hml, hr, hB, hA, hnm⟩ := id hC
  have hts := hB.1.1.at args
  exact xb_zret 0 0 hx hb hr hlocks (show k + 0 ≤ MC by omega) (show n + 0 ≤ MS by omega) hw.1 hE hR hS (xb_d D_Format_isZero 12 rfl) hw.2

set_option maxHeartbeats 4000000 in
set_option maxRecDepth 100000 in
theorem ok_Format_isZero (l : Launch) (hfl : l.flags = pinnedFlags ++ [noTraceFlag]) (D : va_G) (A : Nat → Prop) (σ : Nat) (x0 : Nat) (x1 : Int64) (h : xb_H) (Qr : Int32 → xb_H → Prop) (hw : w_Format_isZero x0 x1 h Qr) : xb_Met l y_Format_isZero [.code y_Format_isZero b_Format_isZero 3 (some .boolean)] (xb_rm 2 0 0) (xb_Pc D A σ h [.ref x0, .long x1]) (xb_Qc D A h 0 0 (fun v h _ _ => ∃ r, v = some (.int r) ∧ Qr r h) (fun _ _ _ _ => False)) A := by
  refine xb_ofAm (cc := b_Format_isZero) (by decide) (Nat.le_of_ble_eq_true rfl) ?_
  unfold w_Format_isZero at hw
  show xb_am l D A σ 2 0 0 h (fun v h _ _ => ∃ r, v = some (.int r) ∧ Qr r h) (fun _ _ _ _ => False) y_Format_isZero.cls y_Format_isZero.name b_Format_isZero 3 ([] : List ExceptionTableEntry) (some .boolean) 0 [(0, .ref x0), (1, .long x1)] [] h 0 0
  obtain ⟨MC, hMC⟩ : ∃ x, x = 0 := ⟨_, rfl⟩
  obtain ⟨MS, hMS⟩ : ∃ x, x = 0 := ⟨_, rfl⟩
  rw [show xb_am l D A σ 2 0 0 = xb_am l D A σ 2 MC MS by rw [hMC, hMS]]
  obtain ⟨h0, hh0⟩ : ∃ x, x = h := ⟨_, rfl⟩
  rw [show xb_am l D A σ 2 MC MS h = xb_am l D A σ 2 MC MS h0 by rw [hh0]]
  intro p e s m args below meth c hC H locs ls k n hE hl hR hS hk hn
  obtain ⟨hx, hb, hown, hlocks, htab, hml, hr, hB, hA, hnm⟩ := id hC
  have hts := hB.1.1.at args
  refine lv_lload_n hx hb (xb_d D_Format_isZero 0 rfl) rfl (lv_at hl 1 rfl) ?_
  refine lv_aload_n hx hb (xb_d D_Format_isZero 1 rfl) rfl (lv_at hl 0 rfl) ?_
  obtain ⟨hk1, hw⟩ := hw
  refine xb_getL (C := R_Format) (T := F_Format) (N := 5) hx hb 5 2 hts fin_Format hown hR hk1 (by decide) rfl (by decide) rfl (hts _ m_e3160854) (fun _ h9 => h9) (xb_d D_Format_isZero 2 rfl) ?_
  refine lv_lconst (v := 1) hx hb (xb_d D_Format_isZero 3 rfl) (by decide) ?_
  refine lv_lsub hx hb (xb_d D_Format_isZero 4 rfl) ?_
  refine lv_land hx hb (xb_d D_Format_isZero 5 rfl) ?_
  refine lv_lconst (v := 0) hx hb (xb_d D_Format_isZero 6 rfl) (by decide) ?_
  refine xb_lc_ne (tgt := 17) hx hb (xb_d D_Format_isZero 7 rfl) (xb_d D_Format_isZero 8 rfl) rfl (fun hc2 => ?_) (fun hc2 => ?_)
  · have hw := hw.1 hc2
    refine lv_iconst (v := 0) hx hb (xb_d D_Format_isZero 11 rfl) (by decide) ?_
    exact am_Format_isZero_L18 l hfl D A σ MC MS h0 Qr 0 h hw p e s m args below meth c hC H locs ls k n hE (lv_sub hl [] rfl) hR hS (by omega) (by omega)
  · have hw := hw.2 hc2
    refine lv_iconst (v := 1) hx hb (xb_d D_Format_isZero 9 rfl) (by decide) ?_
    refine lv_goto (tgt := 18) hx hb (xb_d D_Format_isZero 10 rfl) rfl ?_
    exact am_Format_isZero_L18 l hfl D A σ MC MS h0 Qr 1 h hw p e s m args below meth c hC H locs ls k n hE (lv_sub hl [] rfl) hR hS (by omega) (by omega)

set_option maxRecDepth 100000 in
def T_Format_lowered : List (Nat × Instr × Nat) := [(0, .iload_n 2, 1), (1, .bipush 62, 2), (3, .if_icmp .le 5, 3), (6, .lconst 1, 1), (7, .lreturn, 1), (8, .lload_n 0, 1), (9, .lconst 1, 1), (10, .iload_n 2, 1), (11, .lshl, 1), (12, .lconst 1, 1), (13, .lsub, 1), (14, .land, 1), (15, .lstore_n 3, 1), (16, .lload_n 0, 1), (17, .iload_n 2, 1), (18, .lushr, 1), (19, .lload_n 3, 1), (20, .lconst 0, 1), (21, .lcmp, 1), (22, .ifCond .eq 7, 3), (25, .iconst 1, 1), (26, .goto 4, 3), (29, .iconst 0, 1), (30, .i2l, 1), (31, .lor, 1), (32, .lreturn, 1)]
theorem D_Format_lowered : ∀ q ∈ T_Format_lowered, decode b_Format_lowered q.1 = .ok (q.2.1, q.2.2) := by decide +kernel

set_option maxHeartbeats 4000000 in
set_option maxRecDepth 100000 in
theorem am_Format_lowered_L30 (l : Launch) (hfl : l.flags = pinnedFlags ++ [noTraceFlag]) (D : va_G) (A : Nat → Prop) (σ MC MS : Nat) (h0 : xb_H) (Qr : Int64 → xb_H → Prop) (y0 : Int32) (y1 : Int64) (h : xb_H) (hw : w_Format_lowered_L30 Qr y0 y1 h) : xb_am l D A σ 2 MC MS h0 (fun v h _ _ => ∃ r, v = some (.long r) ∧ Qr r h) (fun _ _ _ _ => False) y_Format_lowered.cls y_Format_lowered.name b_Format_lowered 5 ([] : List ExceptionTableEntry) (some .long) 30 [] [.int y0, .long y1] h 0 0 := by
  unfold w_Format_lowered_L30 at hw
  intro p e s m args below meth c hC H locs ls k n hE hl hR hS hk hn
  obtain ⟨hx, hb, hown, hlocks, htab, hml, hr, hB, hA, hnm⟩ := id hC
  have hts := hB.1.1.at args
  refine lv_i2l hx hb (xb_d D_Format_lowered 23 rfl) rfl ?_
  refine lv_lor hx hb (xb_d D_Format_lowered 24 rfl) ?_
  exact xb_lret 0 0 hx hb hr hlocks (show k + 0 ≤ MC by omega) (show n + 0 ≤ MS by omega) hE hR hS (xb_d D_Format_lowered 25 rfl) hw

set_option maxHeartbeats 4000000 in
set_option maxRecDepth 100000 in
theorem ok_Format_lowered (l : Launch) (hfl : l.flags = pinnedFlags ++ [noTraceFlag]) (D : va_G) (A : Nat → Prop) (σ : Nat) (x0 : Int64) (x2 : Int32) (h : xb_H) (Qr : Int64 → xb_H → Prop) (hw : w_Format_lowered x0 x2 h Qr) : xb_Met l y_Format_lowered [.code y_Format_lowered b_Format_lowered 5 (some .long)] (xb_rm 2 0 0) (xb_Pc D A σ h [.long x0, .int x2]) (xb_Qc D A h 0 0 (fun v h _ _ => ∃ r, v = some (.long r) ∧ Qr r h) (fun _ _ _ _ => False)) A := by
  refine xb_ofAm (cc := b_Format_lowered) (by decide) (Nat.le_of_ble_eq_true rfl) ?_
  unfold w_Format_lowered at hw
  show xb_am l D A σ 2 0 0 h (fun v h _ _ => ∃ r, v = some (.long r) ∧ Qr r h) (fun _ _ _ _ => False) y_Format_lowered.cls y_Format_lowered.name b_Format_lowered 5 ([] : List ExceptionTableEntry) (some .long) 0 [(0, .long x0), (2, .int x2)] [] h 0 0
  obtain ⟨MC, hMC⟩ : ∃ x, x = 0 := ⟨_, rfl⟩
  obtain ⟨MS, hMS⟩ : ∃ x, x = 0 := ⟨_, rfl⟩
  rw [show xb_am l D A σ 2 0 0 = xb_am l D A σ 2 MC MS by rw [hMC, hMS]]
  obtain ⟨h0, hh0⟩ : ∃ x, x = h := ⟨_, rfl⟩
  rw [show xb_am l D A σ 2 MC MS h = xb_am l D A σ 2 MC MS h0 by rw [hh0]]
  intro p e s m args below meth c hC H locs ls k n hE hl hR hS hk hn
  obtain ⟨hx, hb, hown, hlocks, htab, hml, hr, hB, hA, hnm⟩ := id hC
  have hts := hB.1.1.at args
  refine lv_iload_n hx hb (xb_d D_Format_lowered 0 rfl) rfl (lv_at hl 1 rfl) ?_
  refine lv_bipush (v := 62) hx hb (xb_d D_Format_lowered 1 rfl) (by decide) ?_
  refine lv_icmp_le (tgt := 8) hx hb (xb_d D_Format_lowered 2 rfl) rfl (fun hc1 => ?_) (fun hc1 => ?_)
  · have hw := hw.1 hc1
    refine lv_lload_n hx hb (xb_d D_Format_lowered 5 rfl) rfl (lv_at hl 0 rfl) ?_
    refine lv_lconst (v := 1) hx hb (xb_d D_Format_lowered 6 rfl) (by decide) ?_
    refine lv_iload_n hx hb (xb_d D_Format_lowered 7 rfl) rfl (lv_at hl 1 rfl) ?_
    refine lv_lshl (v := (xb_lshl 1 x2)) hx hb (xb_d D_Format_lowered 8 rfl) rfl ?_
    refine lv_lconst (v := 1) hx hb (xb_d D_Format_lowered 9 rfl) (by decide) ?_
    refine lv_lsub hx hb (xb_d D_Format_lowered 10 rfl) ?_
    refine lv_land hx hb (xb_d D_Format_lowered 11 rfl) ?_
    obtain ⟨v2, ev2⟩ : ∃ x : Int64, x = (x0 &&& ((xb_lshl 1 x2) - 1)) := ⟨_, rfl⟩
    have hw := hw v2 ev2
    refine xt_numl (y := v2) ev2.symm ?_
    refine lv_lstore_n hx hb (xb_d D_Format_lowered 12 rfl) rfl hl (by decide) rfl (fun ls hl => ?_)
    have hl : lv_has ls 5 [(3, .long v2), (0, .long x0), (2, .int x2)] := hl
    refine lv_lload_n hx hb (xb_d D_Format_lowered 13 rfl) rfl (lv_at hl 1 rfl) ?_
    refine lv_iload_n hx hb (xb_d D_Format_lowered 14 rfl) rfl (lv_at hl 2 rfl) ?_
    refine lv_lushr (v := (xb_lushr x0 x2)) hx hb (xb_d D_Format_lowered 15 rfl) rfl ?_
    refine lv_lload_n hx hb (xb_d D_Format_lowered 16 rfl) rfl (lv_at hl 0 rfl) ?_
    refine lv_lconst (v := 0) hx hb (xb_d D_Format_lowered 17 rfl) (by decide) ?_
    refine xb_lc_eq (tgt := 29) hx hb (xb_d D_Format_lowered 18 rfl) (xb_d D_Format_lowered 19 rfl) rfl (fun hc3 => ?_) (fun hc3 => ?_)
    · have hw := hw.1 hc3
      refine lv_iconst (v := 0) hx hb (xb_d D_Format_lowered 22 rfl) (by decide) ?_
      exact am_Format_lowered_L30 l hfl D A σ MC MS h0 Qr 0 (xb_lushr x0 x2) h hw p e s m args below meth c hC H locs ls k n hE (lv_sub hl [] rfl) hR hS (by omega) (by omega)
    · have hw := hw.2 hc3
      refine lv_iconst (v := 1) hx hb (xb_d D_Format_lowered 20 rfl) (by decide) ?_
      refine lv_goto (tgt := 30) hx hb (xb_d D_Format_lowered 21 rfl) rfl ?_
      exact am_Format_lowered_L30 l hfl D A σ MC MS h0 Qr 1 (xb_lushr x0 x2) h hw p e s m args below meth c hC H locs ls k n hE (lv_sub hl [] rfl) hR hS (by omega) (by omega)
  · have hw := hw.2 hc1
    refine lv_lconst (v := 1) hx hb (xb_d D_Format_lowered 3 rfl) (by decide) ?_
    exact xb_lret 0 0 hx hb hr hlocks (show k + 0 ≤ MC by omega) (show n + 0 ≤ MS by omega) hE hR hS (xb_d D_Format_lowered 4 rfl) hw

