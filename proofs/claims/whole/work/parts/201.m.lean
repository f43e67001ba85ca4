set_option maxRecDepth 100000 in
def T_Format_magnitude : List (Nat × Instr × Nat) := [(0, .lload_n 1, 1), (1, .aload_n 0, 1), (2, .getfield 18, 3), (5, .lconst 1, 1), (6, .lsub, 1), (7, .land, 1), (8, .lreturn, 1)]
theorem D_Format_magnitude : ∀ q ∈ T_Format_magnitude, decode b_Format_magnitude q.1 = .ok (q.2.1, q.2.2) := by decide +kernel

set_option maxHeartbeats 4000000 in
set_option maxRecDepth 100000 in
theorem ok_Format_magnitude (l : Launch) (hfl : l.flags = pinnedFlags ++ [noTraceFlag]) (D : va_G) (A : Nat → Prop) (σ : Nat) (x0 : Nat) (x1 : Int64) (h : xb_H) (Qr : Int64 → xb_H → Prop) (hw : w_Format_magnitude x0 x1 h Qr) : xb_Met l y_Format_magnitude [.code y_Format_magnitude b_Format_magnitude 3 (some .long)] (xb_rm 2 0 0) (xb_Pc D A σ h [.ref x0, .long x1]) (xb_Qc D A h 0 0 (fun v h _ _ => ∃ r, v = some (.long r) ∧ Qr r h) (fun _ _ _ _ => False)) A := by
  refine xb_ofAm (cc := b_Format_magnitude) (by decide) (Nat.le_of_ble_eq_true rfl) ?_
  unfold w_Format_magnitude at hw
  show xb_am l D A σ 2 0 0 h (fun v h _ _ => ∃ r, v = some (.long r) ∧ Qr r h) (fun _ _ _ _ => False) y_Format_magnitude.cls y_Format_magnitude.name b_Format_magnitude 3 ([] : List ExceptionTableEntry) (some .long) 0 [(0, .ref x0), (1, .long x1)] [] h 0 0
  obtain ⟨MC, hMC⟩ : ∃ x, x = 0 := ⟨_, rfl⟩
  obtain ⟨MS, hMS⟩ : ∃ x, x = 0 := ⟨_, rfl⟩
  rw [show xb_am l D A σ 2 0 0 = xb_am l D A σ 2 MC MS by rw [hMC, hMS]]
  obtain ⟨h0, hh0⟩ : ∃ x, x = h := ⟨_, rfl⟩
  rw [show xb_am l D A σ 2 MC MS h = xb_am l D A σ 2 MC MS h0 by rw [hh0]]
  intro p e s m args below meth c hC H locs ls k n hE hl hR hS hk hn
  obtain ⟨hx, hb, hown, hlocks, htab, hml, hr, hB, hA, hnm⟩ := id hC
  have hts := hB.1.1.at args
  refine lv_lload_n hx hb (xb_d D_Format_magnitude 0 rfl) rfl (lv_at hl 1 rfl) ?_
  refine lv_aload_n hx hb (xb_d D_Format_magnitude 1 rfl) rfl (lv_at hl 0 rfl) ?_
  obtain ⟨hk1, hw⟩ := hw
  refine xb_getL (C := R_Format) (T := F_Format) (N := 5) hx hb 5 2 hts fin_Format hown hR hk1 (by decide) rfl (by decide) rfl (hts _ m_e3160854) (fun _ h9 => h9) (xb_d D_Format_magnitude 2 rfl) ?_
  refine lv_lconst (v := 1) hx hb (xb_d D_Format_magnitude 3 rfl) (by decide) ?_
  refine lv_lsub hx hb (xb_d D_Format_magnitude 4 rfl) ?_
  refine lv_land hx hb (xb_d D_Format_magnitude 5 rfl) ?_
  exact xb_lret 0 0 hx hb hr hlocks (show k + 0 ≤ MC by omega) (show n + 0 ≤ MS by omega) hE hR hS (xb_d D_Format_magnitude 6 rfl) hw

set_option maxRecDepth 100000 in
def T_Format_power : List (Nat × Instr × Nat) := [(0, .lload_n 1, 1), (1, .aload_n 0, 1), (2, .getfield 18, 3), (5, .lconst 1, 1), (6, .lsub, 1), (7, .land, 1), (8, .aload_n 0, 1), (9, .getfield 9, 3), (12, .iconst 1, 1), (13, .isub, 1), (14, .lushr, 1), (15, .l2i, 1), (16, .aload_n 0, 1), (17, .getfield 15, 3), (20, .isub, 1), (21, .ireturn, 1)]
theorem D_Format_power : ∀ q ∈ T_Format_power, decode b_Format_power q.1 = .ok (q.2.1, q.2.2) := by decide +kernel

set_option maxHeartbeats 4000000 in
set_option maxRecDepth 100000 in
theorem ok_Format_power (l : Launch) (hfl : l.flags = pinnedFlags ++ [noTraceFlag]) (D : va_G) (A : Nat → Prop) (σ : Nat) (x0 : Nat) (x1 : Int64) (h : xb_H) (Qr : Int32 → xb_H → Prop) (hw : w_Format_power x0 x1 h Qr) : xb_Met l y_Format_power [.code y_Format_power b_Format_power 3 (some .int)] (xb_rm 2 0 0) (xb_Pc D A σ h [.ref x0, .long x1]) (xb_Qc D A h 0 0 (fun v h _ _ => ∃ r, v = some (.int r) ∧ Qr r h) (fun _ _ _ _ => False)) A := by
  refine xb_ofAm (cc := b_Format_power) (by decide) (Nat.le_of_ble_eq_true rfl) ?_
  unfold w_Format_power at hw
  show xb_am l D A σ 2 0 0 h (fun v h _ _ => ∃ r, v = some (.int r) ∧ Qr r h) (fun _ _ _ _ => False) y_Format_power.cls y_Format_power.name b_Format_power 3 ([] : List ExceptionTableEntry) (some .int) 0 [(0, .ref x0), (1, .long x1)] [] h 0 0
  obtain ⟨MC, hMC⟩ : ∃ x, x = 0 := ⟨_, rfl⟩
  obtain ⟨MS, hMS⟩ : ∃ x, x = 0 := ⟨_, rfl⟩
  rw [show xb_am l D A σ 2 0 0 = xb_am l D A σ 2 MC MS by rw [hMC, hMS]]
  obtain ⟨h0, hh0⟩ : ∃ x, x = h := ⟨_, rfl⟩
  rw [show xb_am l D A σ 2 MC MS h = xb_am l D A σ 2 MC MS h0 by rw [hh0]]
  intro p e s m args below meth c hC H locs ls k n hE hl hR hS hk hn
  obtain ⟨hx, hb, hown, hlocks, htab, hml, hr, hB, hA, hnm⟩ := id hC
  have hts := hB.1.1.at args
  refine lv_lload_n hx hb (xb_d D_Format_power 0 rfl) rfl (lv_at hl 1 rfl) ?_
  refine lv_aload_n hx hb (xb_d D_Format_power 1 rfl) rfl (lv_at hl 0 rfl) ?_
  obtain ⟨hk1, hw⟩ := hw
  refine xb_getL (C := R_Format) (T := F_Format) (N := 5) hx hb 5 2 hts fin_Format hown hR hk1 (by decide) rfl (by decide) rfl (hts _ m_e3160854) (fun _ h9 => h9) (xb_d D_Format_power 2 rfl) ?_
  refine lv_lconst (v := 1) hx hb (xb_d D_Format_power 3 rfl) (by decide) ?_
  refine lv_lsub hx hb (xb_d D_Format_power 4 rfl) ?_
  refine lv_land hx hb (xb_d D_Format_power 5 rfl) ?_
  refine lv_aload_n hx hb (xb_d D_Format_power 6 rfl) rfl (lv_at hl 0 rfl) ?_
  refine xb_getI (C := R_Format) (T := F_Format) (N := 5) hx hb 5 0 hts fin_Format hown hR hk1 (by decide) rfl (by decide) rfl (hts _ m_019aecde) (fun _ h9 => h9) (xb_d D_Format_power 7 rfl) ?_
  refine lv_iconst (v := 1) hx hb (xb_d D_Format_power 8 rfl) (by decide) ?_
  refine lv_isub hx hb (xb_d D_Format_power 9 rfl) ?_
  refine lv_lushr (v := (xb_lushr (x1 &&& ((xb_l h x0 2) - 1)) ((xb_i h x0 0) - 1))) hx hb (xb_d D_Format_power 10 rfl) rfl ?_
  refine lv_l2i hx hb (xb_d D_Format_power 11 rfl) rfl ?_
  refine lv_aload_n hx hb (xb_d D_Format_power 12 rfl) rfl (lv_at hl 0 rfl) ?_
  refine xb_getI (C := R_Format) (T := F_Format) (N := 5) hx hb 5 1 hts fin_Format hown hR hk1 (by decide) rfl (by decide) rfl (hts _ m_a74735c5) (fun _ h9 => h9) (xb_d D_Format_power 13 rfl) ?_
  refine lv_isub hx hb (xb_d D_Format_power 14 rfl) ?_
  exact xb_iret 0 0 hx hb hr hlocks (show k + 0 ≤ MC by omega) (show n + 0 ≤ MS by omega) hE hR hS (xb_d D_Format_power 15 rfl) hw

set_option maxRecDepth 100000 in
def T_Format_signed : List (Nat × Instr × Nat) := [(0, .iload_n 1, 1), (1, .ifCond .eq 12, 3), (4, .lload_n 2, 1), (5, .aload_n 0, 1), (6, .getfield 18, 3), (9, .lor, 1), (10, .goto 4, 3), (13, .lload_n 2, 1), (14, .lreturn, 1)]
theorem D_Format_signed : ∀ q ∈ T_Format_signed, decode b_Format_signed q.1 = .ok (q.2.1, q.2.2) := by decide +kernel

set_option maxHeartbeats 4000000 in
set_option maxRecDepth 100000 in
theorem am_Format_signed_L14 (l : Launch) (hfl : l.flags = pinnedFlags ++ [noTraceFlag]) (D : va_G) (A : Nat → Prop) (σ MC MS : Nat) (h0 : xb_H) (Qr : Int64 → xb_H → Prop) (y0 : Int64) (h : xb_H) (hw : w_Format_signed_L14 Qr y0 h) : xb_am l D A σ 2 MC MS h0 (fun v h _ _ => ∃ r, v = some (.long r) ∧ Qr r h) (fun _ _ _ _ => False) y_Format_signed.cls y_Format_signed.name b_Format_signed 4 ([] : List ExceptionTableEntry) (some .long) 14 [] [.long y0] h 0 0 := by
  unfold w_Format_signed_L14 at hw
  intro p e s m args below meth c hC H locs ls k n hE hl hR hS hk hn
  obtain ⟨hx, hb, hown, hlocks, htab, hml, hr, hB, hA, hnm⟩ := id hC
  have hts := hB.1.1.at args
  exact xb_lret 0 0 hx hb hr hlocks (show k + 0 ≤ MC by omega) (show n + 0 ≤ MS by omega) hE hR hS (xb_d D_Format_signed 8 rfl) hw

set_option maxHeartbeats 4000000 in
set_option maxRecDepth 100000 in
theorem ok_Format_signed (l : Launch) (hfl : l.flags = pinnedFlags ++ [noTraceFlag]) (D : va_G) (A : Nat → Prop) (σ : Nat) (x0 : Nat) (x1 : Int32) (x2 : Int64) (h : xb_H) (Qr : Int64 → xb_H → Prop) (hw : w_Format_signed x0 x1 x2 h Qr) : xb_Met l y_Format_signed [.code y_Format_signed b_Format_signed 4 (some .long)] (xb_rm 2 0 0) (xb_Pc D A σ h [.ref x0, .int x1, .long x2]) (xb_Qc D A h 0 0 (fun v h _ _ => ∃ r, v = some (.long r) ∧ Qr r h) (fun _ _ _ _ => False)) A := by
  refine xb_ofAm (cc := b_Format_signed) (by decide) (Nat.le_of_ble_eq_true rfl) ?_
  unfold w_Format_signed at hw
  show xb_am l D A σ 2 0 0 h (fun v h _ _ => ∃ r, v = some (.long r) ∧ Qr r h) (fun _ _ _ _ => False) y_Format_signed.cls y_Format_signed.name b_Format_signed 4 ([] : List ExceptionTableEntry) (some .long) 0 [(0, .ref x0), (1, .int x1), (2, .long x2)] [] h 0 0
  obtain ⟨MC, hMC⟩ : ∃ x, x = 0 := ⟨_, rfl⟩
  obtain ⟨MS, hMS⟩ : ∃ x, x = 0 := ⟨_, rfl⟩
  rw [show xb_am l D A σ 2 0 0 = xb_am l D A σ 2 MC MS by rw [hMC, hMS]]
  obtain ⟨h0, hh0⟩ : ∃ x, x = h := ⟨_, rfl⟩
  rw [show xb_am l D A σ 2 MC MS h = xb_am l D A σ 2 MC MS h0 by rw [hh0]]
  intro p e s m args below meth c hC H locs ls k n hE hl hR hS hk hn
  obtain ⟨hx, hb, hown, hlocks, htab, hml, hr, hB, hA, hnm⟩ := id hC
  have hts := hB.1.1.at args
  refine lv_iload_n hx hb (xb_d D_Format_signed 0 rfl) rfl (lv_at hl 1 rfl) ?_
  refine lv_if_eq (tgt := 13) hx hb (xb_d D_Format_signed 1 rfl) rfl (fun hc1 => ?_) (fun hc1 => ?_)
  · have hw := hw.1 hc1
    refine lv_lload_n hx hb (xb_d D_Format_signed 7 rfl) rfl (lv_at hl 2 rfl) ?_
    exact am_Format_signed_L14 l hfl D A σ MC MS h0 Qr x2 h hw p e s m args below meth c hC H locs ls k n hE (lv_sub hl [] rfl) hR hS (by omega) (by omega)
  · have hw := hw.2 hc1
    refine lv_lload_n hx hb (xb_d D_Format_signed 2 rfl) rfl (lv_at hl 2 rfl) ?_
    refine lv_aload_n hx hb (xb_d D_Format_signed 3 rfl) rfl (lv_at hl 0 rfl) ?_
    obtain ⟨hk2, hw⟩ := hw
    refine xb_getL (C := R_Format) (T := F_Format) (N := 5) hx hb 5 2 hts fin_Format hown hR hk2 (by decide) rfl (by decide) rfl (hts _ m_e3160854) (fun _ h9 => h9) (xb_d D_Format_signed 4 rfl) ?_
    refine lv_lor hx hb (xb_d D_Format_signed 5 rfl) ?_
    refine lv_goto (tgt := 14) hx hb (xb_d D_Format_signed 6 rfl) rfl ?_
    exact am_Format_signed_L14 l hfl D A σ MC MS h0 Qr (x2 ||| (xb_l h x0 2)) h hw p e s m args below meth c hC H locs ls k n hE (lv_sub hl [] rfl) hR hS (by omega) (by omega)

theorem m_192b1ea9 : (.fieldLink "StackHost$Instance" 38 "StackHost$Instance" "importedFunctions" "[J" : Cond) ∈ xt_tbl := xt_in (xt_t7 (List.mem_of_getElem? (i := 8) (by decide +kernel))) (by decide +kernel)
theorem m_f477301c : (.fieldLink "StackHost$Instance" 50 "StackHost$Instance" "firstFunction" "I" : Cond) ∈ xt_tbl := xt_in (xt_t7 (List.mem_of_getElem? (i := 10) (by decide +kernel))) (by decide +kernel)
set_option maxRecDepth 100000 in
def T_Instance_functionId : List (Nat × Instr × Nat) := [(0, .aload_n 0, 1), (1, .getfield 38, 3), (4, .arraylength, 1), (5, .istore_n 2, 1), (6, .iload_n 1, 1), (7, .iload_n 2, 1), (8, .if_icmp .ge 13, 3), (11, .aload_n 0, 1), (12, .getfield 38, 3), (15, .iload_n 1, 1), (16, .laload, 1), (17, .l2i, 1), (18, .goto 11, 3), (21, .aload_n 0, 1), (22, .getfield 50, 3), (25, .iload_n 1, 1), (26, .iadd, 1), (27, .iload_n 2, 1), (28, .isub, 1), (29, .ireturn, 1)]
theorem D_Instance_functionId : ∀ q ∈ T_Instance_functionId, decode b_Instance_functionId q.1 = .ok (q.2.1, q.2.2) := by decide +kernel

set_option maxHeartbeats 4000000 in
set_option maxRecDepth 100000 in
theorem am_Instance_functionId_L29 (l : Launch) (hfl : l.flags = pinnedFlags ++ [noTraceFlag]) (D : va_G) (A : Nat → Prop) (σ MC MS : Nat) (h0 : xb_H) (Qr : Int32 → xb_H → Prop) (y0 : Int32) (h : xb_H) (hw : w_Instance_functionId_L29 Qr y0 h) : xb_am l D A σ 2 MC MS h0 (fun v h _ _ => ∃ r, v = some (.int r) ∧ Qr r h) (fun _ _ _ _ => False) y_Instance_functionId.cls y_Instance_functionId.name b_Instance_functionId 3 ([] : List ExceptionTableEntry) (some .int) 29 [] [.int y0] h 0 0 := by
  unfold w_Instance_functionId_L29 at hw
  intro p e s m args below meth c hC H locs ls k n hE hl hR hS hk hn
  obtain ⟨hx, hb, hown, hlocks, htab, hml, hr, hB, hA, hnm⟩ := id hC
  have hts := hB.1.1.at args
  exact xb_iret 0 0 hx hb hr hlocks (show k + 0 ≤ MC by omega) (show n + 0 ≤ MS by omega) hE hR hS (xb_d D_Instance_functionId 19 rfl) hw

set_option maxHeartbeats 4000000 in
set_option maxRecDepth 100000 in
theorem ok_Instance_functionId (l : Launch) (hfl : l.flags = pinnedFlags ++ [noTraceFlag]) (D : va_G) (A : Nat → Prop) (σ : Nat) (x0 : Nat) (x1 : Int32) (h : xb_H) (Qr : Int32 → xb_H → Prop) (hw : w_Instance_functionId x0 x1 h Qr) : xb_Met l y_Instance_functionId [.code y_Instance_functionId b_Instance_functionId 3 (some .int)] (xb_rm 2 0 0) (xb_Pc D A σ h [.ref x0, .int x1]) (xb_Qc D A h 0 0 (fun v h _ _ => ∃ r, v = some (.int r) ∧ Qr r h) (fun _ _ _ _ => False)) A := by
  refine xb_ofAm (cc := b_Instance_functionId) (by decide) (Nat.le_of_ble_eq_true rfl) ?_
  unfold w_Instance_functionId at hw
  show xb_am l D A σ 2 0 0 h (fun v h _ _ => ∃ r, v = some (.int r) ∧ Qr r h) (fun _ _ _ _ => False) y_Instance_functionId.cls y_Instance_functionId.name b_Instance_functionId 3 ([] : List ExceptionTableEntry) (some .int) 0 [(0, .ref x0), (1, .int x1)] [] h 0 0
  obtain ⟨MC, hMC⟩ : ∃ x, x = 0 := ⟨_, rfl⟩
  obtain ⟨MS, hMS⟩ : ∃ x, x = 0 := ⟨_, rfl⟩
  rw [show xb_am l D A σ 2 0 0 = xb_am l D A σ 2 MC MS by rw [hMC, hMS]]
  obtain ⟨h0, hh0⟩ : ∃ x, x = h := ⟨_, rfl⟩
  rw [show xb_am l D A σ 2 MC MS h = xb_am l D A σ 2 MC MS h0 by rw [hh0]]
  intro p e s m args below meth c hC H locs ls k n hE hl hR hS hk hn
  obtain ⟨hx, hb, hown, hlocks, htab, hml, hr, hB, hA, hnm⟩ := id hC
  have hts := hB.1.1.at args
  refine lv_aload_n hx hb (xb_d D_Instance_functionId 0 rfl) rfl (lv_at hl 0 rfl) ?_
  obtain ⟨hk1, hw⟩ := hw
  refine xb_getP (C := R_Instance) (T := F_Instance) (N := 8) hx hb 10 2 hts fin_Instance hown hR hk1 (by decide) rfl (by decide) rfl (hts _ m_192b1ea9) (fun _ h9 => h9) (xb_d D_Instance_functionId 1 rfl) ?_
  obtain ⟨b2, eb2, hw⟩ := hw
  refine xb_some eb2 ?_
  obtain ⟨hk3, hw⟩ := hw
  refine xb_alen hx hb hR hk3 (by decide) (xb_d D_Instance_functionId 2 rfl) ?_
  obtain ⟨v4, ev4⟩ : ∃ x : Int32, x = (nI (xb_n h b2)) := ⟨_, rfl⟩
  have hw := hw v4 ev4
  refine xt_numi (y := v4) ev4.symm ?_
  refine lv_istore_n hx hb (xb_d D_Instance_functionId 3 rfl) rfl hl (by decide) rfl (fun ls hl => ?_)
  have hl : lv_has ls 3 [(2, .int v4), (0, .ref x0), (1, .int x1)] := hl
  refine lv_iload_n hx hb (xb_d D_Instance_functionId 4 rfl) rfl (lv_at hl 2 rfl) ?_
  refine lv_iload_n hx hb (xb_d D_Instance_functionId 5 rfl) rfl (lv_at hl 0 rfl) ?_
  refine lv_icmp_ge (tgt := 21) hx hb (xb_d D_Instance_functionId 6 rfl) rfl (fun hc5 => ?_) (fun hc5 => ?_)
  · have hw := hw.1 hc5
    refine lv_aload_n hx hb (xb_d D_Instance_functionId 13 rfl) rfl (lv_at hl 1 rfl) ?_
    refine xb_getI (C := R_Instance) (T := F_Instance) (N := 8) hx hb 10 4 hts fin_Instance hown hR hk1 (by decide) rfl (by decide) rfl (hts _ m_f477301c) (fun _ h9 => h9) (xb_d D_Instance_functionId 14 rfl) ?_
    refine lv_iload_n hx hb (xb_d D_Instance_functionId 15 rfl) rfl (lv_at hl 2 rfl) ?_
    refine lv_iadd hx hb (xb_d D_Instance_functionId 16 rfl) ?_
    refine lv_iload_n hx hb (xb_d D_Instance_functionId 17 rfl) rfl (lv_at hl 0 rfl) ?_
    refine lv_isub hx hb (xb_d D_Instance_functionId 18 rfl) ?_
    exact am_Instance_functionId_L29 l hfl D A σ MC MS h0 Qr (((xb_i h x0 4) + x1) - v4) h hw p e s m args below meth c hC H locs ls k n hE (lv_sub hl [] rfl) hR hS (by omega) (by omega)
  · have hw := hw.2 hc5
    refine lv_aload_n hx hb (xb_d D_Instance_functionId 7 rfl) rfl (lv_at hl 1 rfl) ?_
    refine xb_getP (C := R_Instance) (T := F_Instance) (N := 8) hx hb 10 2 hts fin_Instance hown hR hk1 (by decide) rfl (by decide) rfl (hts _ m_192b1ea9) (fun _ h9 => h9) (xb_d D_Instance_functionId 8 rfl) ?_
    obtain ⟨b6, eb6, hw⟩ := hw
    refine xb_some eb6 ?_
    refine lv_iload_n hx hb (xb_d D_Instance_functionId 9 rfl) rfl (lv_at hl 2 rfl) ?_
    obtain ⟨hk8, hw⟩ := hw
    obtain ⟨hi7, hw⟩ := hw
    refine xb_lald hx hb hR hk8 hi7 (xb_d D_Instance_functionId 10 rfl) ?_
    refine lv_l2i hx hb (xb_d D_Instance_functionId 11 rfl) rfl ?_
    refine lv_goto (tgt := 29) hx hb (xb_d D_Instance_functionId 12 rfl) rfl ?_
    exact am_Instance_functionId_L29 l hfl D A σ MC MS h0 Qr (Int64.toInt32 (xb_l h b6 (Int32.toNatClampNeg x1))) h hw p e s m args below meth c hC H locs ls k n hE (lv_sub hl [] rfl) hR hS (by omega) (by omega)

set_option maxRecDepth 100000 in
def T_Instance_numberOf : List (Nat × Instr × Nat) := [(0, .iload_n 1, 1), (1, .aload_n 0, 1), (2, .getfield 50, 3), (5, .isub, 1), (6, .aload_n 0, 1), (7, .getfield 38, 3), (10, .arraylength, 1), (11, .iadd, 1), (12, .ireturn, 1)]
theorem D_Instance_numberOf : ∀ q ∈ T_Instance_numberOf, decode b_Instance_numberOf q.1 = .ok (q.2.1, q.2.2) := by decide +kernel

set_option maxHeartbeats 4000000 in
set_option maxRecDepth 100000 in
theorem ok_Instance_numberOf (l : Launch) (hfl : l.flags = pinnedFlags ++ [noTraceFlag]) (D : va_G) (A : Nat → Prop) (σ : Nat) (x0 : Nat) (x1 : Int32) (h : xb_H) (Qr : Int32 → xb_H → Prop) (hw : w_Instance_numberOf x0 x1 h Qr) : xb_Met l y_Instance_numberOf [.code y_Instance_numberOf b_Instance_numberOf 2 (some .int)] (xb_rm 2 0 0) (xb_Pc D A σ h [.ref x0, .int x1]) (xb_Qc D A h 0 0 (fun v h _ _ => ∃ r, v = some (.int r) ∧ Qr r h) (fun _ _ _ _ => False)) A := by
  refine xb_ofAm (cc := b_Instance_numberOf) (by decide) (Nat.le_of_ble_eq_true rfl) ?_
  unfold w_Instance_numberOf at hw
  show xb_am l D A σ 2 0 0 h (fun v h _ _ => ∃ r, v = some (.int r) ∧ Qr r h) (fun _ _ _ _ => False) y_Instance_numberOf.cls y_Instance_numberOf.name b_Instance_numberOf 2 ([] : List ExceptionTableEntry) (some .int) 0 [(0, .ref x0), (1, .int x1)] [] h 0 0
  obtain ⟨MC, hMC⟩ : ∃ x, x = 0 := ⟨_, rfl⟩
  obtain ⟨MS, hMS⟩ : ∃ x, x = 0 := ⟨_, rfl⟩
  rw [show xb_am l D A σ 2 0 0 = xb_am l D A σ 2 MC MS by rw [hMC, hMS]]
  obtain ⟨h0, hh0⟩ : ∃ x, x = h := ⟨_, rfl⟩
  rw [show xb_am l D A σ 2 MC MS h = xb_am l D A σ 2 MC MS h0 by rw [hh0]]
  intro p e s m args below meth c hC H locs ls k n hE hl hR hS hk hn
  obtain ⟨hx, hb, hown, hlocks, htab, hml, hr, hB, hA, hnm⟩ := id hC
  have hts := hB.1.1.at args
  refine lv_iload_n hx hb (xb_d D_Instance_numberOf 0 rfl) rfl (lv_at hl 1 rfl) ?_
  refine lv_aload_n hx hb (xb_d D_Instance_numberOf 1 rfl) rfl (lv_at hl 0 rfl) ?_
  obtain ⟨hk1, hw⟩ := hw
  refine xb_getI (C := R_Instance) (T := F_Instance) (N := 8) hx hb 10 4 hts fin_Instance hown hR hk1 (by decide) rfl (by decide) rfl (hts _ m_f477301c) (fun _ h9 => h9) (xb_d D_Instance_numberOf 2 rfl) ?_
  refine lv_isub hx hb (xb_d D_Instance_numberOf 3 rfl) ?_
  refine lv_aload_n hx hb (xb_d D_Instance_numberOf 4 rfl) rfl (lv_at hl 0 rfl) ?_
  refine xb_getP (C := R_Instance) (T := F_Instance) (N := 8) hx hb 10 2 hts fin_Instance hown hR hk1 (by decide) rfl (by decide) rfl (hts _ m_192b1ea9) (fun _ h9 => h9) (xb_d D_Instance_numberOf 5 rfl) ?_
  obtain ⟨b2, eb2, hw⟩ := hw
  refine xb_some eb2 ?_
  obtain ⟨hk3, hw⟩ := hw
  refine xb_alen hx hb hR hk3 (by decide) (xb_d D_Instance_numberOf 6 rfl) ?_
  refine lv_iadd hx hb (xb_d D_Instance_numberOf 7 rfl) ?_
  exact xb_iret 0 0 hx hb hr hlocks (show k + 0 ≤ MC by omega) (show n + 0 ≤ MS by omega) hE hR hS (xb_d D_Instance_numberOf 8 rfl) hw

theorem m_79003569 : (.fieldLink "StackHost$Instance" 44 "StackHost$Instance" "importedVariables" "[J" : Cond) ∈ xt_tbl := xt_in (xt_t7 (List.mem_of_getElem? (i := 9) (by decide +kernel))) (by decide +kernel)
theorem m_ca9c5328 : (.fieldLink "StackHost$Instance" 56 "StackHost$Instance" "firstVariable" "I" : Cond) ∈ xt_tbl := xt_in (xt_t7 (List.mem_of_getElem? (i := 11) (by decide +kernel))) (by decide +kernel)
set_option maxRecDepth 100000 in
def T_Instance_variableId : List (Nat × Instr × Nat) := [(0, .aload_n 0, 1), (1, .getfield 44, 3), (4, .arraylength, 1), (5, .istore_n 2, 1), (6, .iload_n 1, 1), (7, .iload_n 2, 1), (8, .if_icmp .ge 13, 3), (11, .aload_n 0, 1), (12, .getfield 44, 3), (15, .iload_n 1, 1), (16, .laload, 1), (17, .l2i, 1), (18, .goto 11, 3), (21, .aload_n 0, 1), (22, .getfield 56, 3), (25, .iload_n 1, 1), (26, .iadd, 1), (27, .iload_n 2, 1), (28, .isub, 1), (29, .ireturn, 1)]
theorem D_Instance_variableId : ∀ q ∈ T_Instance_variableId, decode b_Instance_variableId q.1 = .ok (q.2.1, q.2.2) := by decide +kernel

set_option maxHeartbeats 4000000 in
set_option maxRecDepth 100000 in
theorem am_Instance_variableId_L29 (l : Launch) (hfl : l.flags = pinnedFlags ++ [noTraceFlag]) (D : va_G) (A : Nat → Prop) (σ MC MS : Nat) (h0 : xb_H) (Qr : Int32 → xb_H → Prop) (y0 : Int32) (h : xb_H) (hw : w_Instance_variableId_L29 Qr y0 h) : xb_am l D A σ 2 MC MS h0 (fun v h _ _ => ∃ r, v = some (.int r) ∧ Qr r h) (fun _ _ _ _ => False) y_Instance_variableId.cls y_Instance_variableId.name b_Instance_variableId 3 ([] : List ExceptionTableEntry) (some .int) 29 [] [.int y0] h 0 0 := by
  unfold w_Instance_variableId_L29 at hw
  intro p e s m args below meth c hC H locs ls k n hE hl hR hS hk hn
  obtain ⟨hx, hb, hown, hlocks, htab, hml, hr, hB, hA, hnm⟩ := id hC
  have hts := hB.1.1.at args
  exact xb_iret 0 0 hx hb hr hlocks (show k + 0 ≤ MC by omega) (show n + 0 ≤ MS by omega) hE hR hS (xb_d D_Instance_variableId 19 rfl) hw

set_option maxHeartbeats 4000000 in
set_option maxRecDepth 100000 in
theorem ok_Instance_variableId (l : Launch) (hfl : l.flags = pinnedFlags ++ [noTraceFlag]) (D : va_G) (A : Nat → Prop) (σ : Nat) (x0 : Nat) (x1 : Int32) (h : xb_H) (Qr : Int32 → xb_H → Prop) (hw : w_Instance_variableId x0 x1 h Qr) : xb_Met l y_Instance_variableId [.code y_Instance_variableId b_Instance_variableId 3 (some .int)] (xb_rm 2 0 0) (xb_Pc D A σ h [.ref x0, .int x1]) (xb_Qc D A h 0 0 (fun v h _ _ => ∃ r, v = some (.int r) ∧ Qr r h) (fun _ _ _ _ => False)) A := by
  refine xb_ofAm (cc := b_Instance_variableId) (by decide) (Nat.le_of_ble_eq_true rfl) ?_
  unfold w_Instance_variableId at hw
  show xb_am l D A σ 2 0 0 h (fun v h _ _ => ∃ r, v = some (.int r) ∧ Qr r h) (fun _ _ _ _ => False) y_Instance_variableId.cls y_Instance_variableId.name b_Instance_variableId 3 ([] : List ExceptionTableEntry) (some .int) 0 [(0, .ref x0), (1, .int x1)] [] h 0 0
  obtain ⟨MC, hMC⟩ : ∃ x, x = 0 := ⟨_, rfl⟩
  obtain ⟨MS, hMS⟩ : ∃ x, x = 0 := ⟨_, rfl⟩
  rw [show xb_am l D A σ 2 0 0 = xb_am l D A σ 2 MC MS by rw [hMC, hMS]]
  obtain ⟨h0, hh0⟩ : ∃ x, x = h := ⟨_, rfl⟩
  rw [show xb_am l D A σ 2 MC MS h = xb_am l D A σ 2 MC MS h0 by rw [hh0]]
  intro p e s m args below meth c hC H locs ls k n hE hl hR hS hk hn
  obtain ⟨hx, hb, hown, hlocks, htab, hml, hr, hB, hA, hnm⟩ := id hC
  have hts := hB.1.1.at args
  refine lv_aload_n hx hb (xb_d D_Instance_variableId 0 rfl) rfl (lv_at hl 0 rfl) ?_
  obtain ⟨hk1, hw⟩ := hw
  refine xb_getP (C := R_Instance) (T := F_Instance) (N := 8) hx hb 10 3 hts fin_Instance hown hR hk1 (by decide) rfl (by decide) rfl (hts _ m_79003569) (fun _ h9 => h9) (xb_d D_Instance_variableId 1 rfl) ?_
  obtain ⟨b2, eb2, hw⟩ := hw
  refine xb_some eb2 ?_
  obtain ⟨hk3, hw⟩ := hw
  refine xb_alen hx hb hR hk3 (by decide) (xb_d D_Instance_variableId 2 rfl) ?_
  obtain ⟨v4, ev4⟩ : ∃ x : Int32, x = (nI (xb_n h b2)) := ⟨_, rfl⟩
  have hw := hw v4 ev4
  refine xt_numi (y := v4) ev4.symm ?_
  refine lv_istore_n hx hb (xb_d D_Instance_variableId 3 rfl) rfl hl (by decide) rfl (fun ls hl => ?_)
  have hl : lv_has ls 3 [(2, .int v4), (0, .ref x0), (1, .int x1)] := hl
  refine lv_iload_n hx hb (xb_d D_Instance_variableId 4 rfl) rfl (lv_at hl 2 rfl) ?_
  refine lv_iload_n hx hb (xb_d D_Instance_variableId 5 rfl) rfl (lv_at hl 0 rfl) ?_
  refine lv_icmp_ge (tgt := 21) hx hb (xb_d D_Instance_variableId 6 rfl) rfl (fun hc5 => ?_) (fun hc5 => ?_)
  · have hw := hw.1 hc5
    refine lv_aload_n hx hb (xb_d D_Instance_variableId 13 rfl) rfl (lv_at hl 1 rfl) ?_
    refine xb_getI (C := R_Instance) (T := F_Instance) (N := 8) hx hb 10 5 hts fin_Instance hown hR hk1 (by decide) rfl (by decide) rfl (hts _ m_ca9c5328) (fun _ h9 => h9) (xb_d D_Instance_variableId 14 rfl) ?_
    refine lv_iload_n hx hb (xb_d D_Instance_variableId 15 rfl) rfl (lv_at hl 2 rfl) ?_
    refine lv_iadd hx hb (xb_d D_Instance_variableId 16 rfl) ?_
    refine lv_iload_n hx hb (xb_d D_Instance_variableId 17 rfl) rfl (lv_at hl 0 rfl) ?_
    refine lv_isub hx hb (xb_d D_Instance_variableId 18 rfl) ?_
    exact am_Instance_variableId_L29 l hfl D A σ MC MS h0 Qr (((xb_i h x0 5) + x1) - v4) h hw p e s m args below meth c hC H locs ls k n hE (lv_sub hl [] rfl) hR hS (by omega) (by omega)
  · have hw := hw.2 hc5
    refine lv_aload_n hx hb (xb_d D_Instance_variableId 7 rfl) rfl (lv_at hl 1 rfl) ?_
    refine xb_getP (C := R_Instance) (T := F_Instance) (N := 8) hx hb 10 3 hts fin_Instance hown hR hk1 (by decide) rfl (by decide) rfl (hts _ m_79003569) (fun _ h9 => h9) (xb_d D_Instance_variableId 8 rfl) ?_
    obtain ⟨b6, eb6, hw⟩ := hw
    refine xb_some eb6 ?_
    refine lv_iload_n hx hb (xb_d D_Instance_variableId 9 rfl) rfl (lv_at hl 2 rfl) ?_
    obtain ⟨hk8, hw⟩ := hw
    obtain ⟨hi7, hw⟩ := hw
    refine xb_lald hx hb hR hk8 hi7 (xb_d D_Instance_variableId 10 rfl) ?_
    refine lv_l2i hx hb (xb_d D_Instance_variableId 11 rfl) rfl ?_
    refine lv_goto (tgt := 29) hx hb (xb_d D_Instance_variableId 12 rfl) rfl ?_
    exact am_Instance_variableId_L29 l hfl D A σ MC MS h0 Qr (Int64.toInt32 (xb_l h b6 (Int32.toNatClampNeg x1))) h hw p e s m args below meth c hC H locs ls k n hE (lv_sub hl [] rfl) hR hS (by omega) (by omega)

theorem m_87cf9501 : (.fieldLink "StackHost$Machine" 46 "StackHost$Machine" "underWay" "Z" : Cond) ∈ xt_tbl := xt_in (xt_t2 (List.mem_of_getElem? (i := 24) (by decide +kernel))) (by decide +kernel)
theorem m_71c815d4 : (.fieldLink "StackHost$Machine" 31 "StackHost$Machine" "waiting" "I" : Cond) ∈ xt_tbl := xt_in (xt_t2 (List.mem_of_getElem? (i := 33) (by decide +kernel))) (by decide +kernel)
theorem m_61f414b6 : (.fieldLink "StackHost$Machine" 50 "StackHost$Machine" "depth" "I" : Cond) ∈ xt_tbl := xt_in (xt_t2 (List.mem_of_getElem? (i := 26) (by decide +kernel))) (by decide +kernel)
theorem m_79cf62f6 : (.fieldLink "StackHost$Machine" 53 "StackHost$Machine" "top" "I" : Cond) ∈ xt_tbl := xt_in (xt_t2 (List.mem_of_getElem? (i := 35) (by decide +kernel))) (by decide +kernel)
set_option maxRecDepth 100000 in
def T_Machine_begin : List (Nat × Instr × Nat) := [(0, .aload_n 0, 1), (1, .iconst 1, 1), (2, .putfield 46, 3), (5, .aload_n 0, 1), (6, .iload_n 1, 1), (7, .putfield 31, 3), (10, .aload_n 0, 1), (11, .iconst 0, 1), (12, .putfield 50, 3), (15, .aload_n 0, 1), (16, .iconst 0, 1), (17, .putfield 53, 3), (20, .return_, 1)]
theorem D_Machine_begin : ∀ q ∈ T_Machine_begin, decode b_Machine_begin q.1 = .ok (q.2.1, q.2.2) := by decide +kernel

set_option maxHeartbeats 4000000 in
set_option maxRecDepth 100000 in
theorem ok_Machine_begin (l : Launch) (hfl : l.flags = pinnedFlags ++ [noTraceFlag]) (D : va_G) (A : Nat → Prop) (σ : Nat) (x0 : Nat) (x1 : Int32) (h : xb_H) (Qr : xb_H → Prop) (hw : w_Machine_begin x0 x1 h Qr) : xb_Met l y_Machine_begin [.code y_Machine_begin b_Machine_begin 2 none] (xb_rm 2 0 0) (xb_Pc D A σ h [.ref x0, .int x1]) (xb_Qc D A h 0 0 (fun v h _ _ => v = none ∧ Qr h) (fun _ _ _ _ => False)) A := by
  refine xb_ofAm (cc := b_Machine_begin) (by decide) (Nat.le_of_ble_eq_true rfl) ?_
  unfold w_Machine_begin at hw
  show xb_am l D A σ 2 0 0 h (fun v h _ _ => v = none ∧ Qr h) (fun _ _ _ _ => False) y_Machine_begin.cls y_Machine_begin.name b_Machine_begin 2 ([] : List ExceptionTableEntry) none 0 [(0, .ref x0), (1, .int x1)] [] h 0 0
  obtain ⟨MC, hMC⟩ : ∃ x, x = 0 := ⟨_, rfl⟩
  obtain ⟨MS, hMS⟩ : ∃ x, x = 0 := ⟨_, rfl⟩
  rw [show xb_am l D A σ 2 0 0 = xb_am l D A σ 2 MC MS by rw [hMC, hMS]]
  obtain ⟨h0, hh0⟩ : ∃ x, x = h := ⟨_, rfl⟩
  rw [show xb_am l D A σ 2 MC MS h = xb_am l D A σ 2 MC MS h0 by rw [hh0]]
  intro p e s m args below meth c hC H locs ls k n hE hl hR hS hk hn
  obtain ⟨hx, hb, hown, hlocks, htab, hml, hr, hB, hA, hnm⟩ := id hC
  have hts := hB.1.1.at args
  refine lv_aload_n hx hb (xb_d D_Machine_begin 0 rfl) rfl (lv_at hl 0 rfl) ?_
  refine lv_iconst (v := 1) hx hb (xb_d D_Machine_begin 1 rfl) (by decide) ?_
  obtain ⟨hk1, hw⟩ := hw
  refine xb_putI (C := R_Machine) (T := F_Machine) (N := 18) (ty := .boolean) (x := 1) hx hb 7 3 hts fin_Machine t_Machine t_Machine_ok n_Machine hown hR hS hk1 (by decide) rfl (by decide) rfl (hts _ m_87cf9501) (fun _ h9 => h9) rfl (by decide +kernel) (by decide) (by decide) (xb_d D_Machine_begin 2 rfl) (fun H locs hR hS => ?_)
  obtain ⟨h2, eh2⟩ : ∃ x : xb_H, x = xb_I h x0 3 1 := ⟨_, rfl⟩
  rw [← eh2] at hR
  have hw := hw h2 eh2
  have hE : xb_ext h0 h2 := by rw [eh2]; exact hE
  refine lv_aload_n hx hb (xb_d D_Machine_begin 3 rfl) rfl (lv_at hl 0 rfl) ?_
  refine lv_iload_n hx hb (xb_d D_Machine_begin 4 rfl) rfl (lv_at hl 1 rfl) ?_
  have hk1 : xb_k h2 x0 = 8 := by rw [eh2]; exact hk1
  refine xb_putI (C := R_Machine) (T := F_Machine) (N := 18) (ty := .int) (x := x1) hx hb 7 8 hts fin_Machine t_Machine t_Machine_ok n_Machine hown hR hS hk1 (by decide) rfl (by decide) rfl (hts _ m_71c815d4) (fun _ h9 => h9) rfl (by decide +kernel) rfl rfl (xb_d D_Machine_begin 5 rfl) (fun H locs hR hS => ?_)
  obtain ⟨h3, eh3⟩ : ∃ x : xb_H, x = xb_I h2 x0 8 x1 := ⟨_, rfl⟩
  rw [← eh3] at hR
  have hw := hw h3 eh3
  have hE : xb_ext h0 h3 := by rw [eh3]; exact hE
  refine lv_aload_n hx hb (xb_d D_Machine_begin 6 rfl) rfl (lv_at hl 0 rfl) ?_
  refine lv_iconst (v := 0) hx hb (xb_d D_Machine_begin 7 rfl) (by decide) ?_
  have hk1 : xb_k h3 x0 = 8 := by rw [eh3]; exact hk1
  refine xb_putI (C := R_Machine) (T := F_Machine) (N := 18) (ty := .int) (x := 0) hx hb 7 4 hts fin_Machine t_Machine t_Machine_ok n_Machine hown hR hS hk1 (by decide) rfl (by decide) rfl (hts _ m_61f414b6) (fun _ h9 => h9) rfl (by decide +kernel) rfl rfl (xb_d D_Machine_begin 8 rfl) (fun H locs hR hS => ?_)
  obtain ⟨h4, eh4⟩ : ∃ x : xb_H, x = xb_I h3 x0 4 0 := ⟨_, rfl⟩
  rw [← eh4] at hR
  have hw := hw h4 eh4
  have hE : xb_ext h0 h4 := by rw [eh4]; exact hE
  refine lv_aload_n hx hb (xb_d D_Machine_begin 9 rfl) rfl (lv_at hl 0 rfl) ?_
  refine lv_iconst (v := 0) hx hb (xb_d D_Machine_begin 10 rfl) (by decide) ?_
  have hk1 : xb_k h4 x0 = 8 := by rw [eh4]; exact hk1
  refine xb_putI (C := R_Machine) (T := F_Machine) (N := 18) (ty := .int) (x := 0) hx hb 7 10 hts fin_Machine t_Machine t_Machine_ok n_Machine hown hR hS hk1 (by decide) rfl (by decide) rfl (hts _ m_79cf62f6) (fun _ h9 => h9) rfl (by decide +kernel) rfl rfl (xb_d D_Machine_begin 11 rfl) (fun H locs hR hS => ?_)
  obtain ⟨h5, eh5⟩ : ∃ x : xb_H, x = xb_I h4 x0 10 0 := ⟨_, rfl⟩
  rw [← eh5] at hR
  have hw := hw h5 eh5
  have hE : xb_ext h0 h5 := by rw [eh5]; exact hE
  exact xb_vret 0 0 hx hb hr hlocks (show k + 0 ≤ MC by omega) (show n + 0 ≤ MS by omega) hE hR hS (xb_d D_Machine_begin 12 rfl) hw

theorem m_8f763f86 : (.fieldLink "StackHost$Machine" 111 "StackHost$Machine" "notes" "[I" : Cond) ∈ xt_tbl := xt_in (xt_t2 (List.mem_of_getElem? (i := 39) (by decide +kernel))) (by decide +kernel)
theorem m_6a595805 : (.fieldLink "StackHost$Machine" 108 "StackHost$Machine" "at" "I" : Cond) ∈ xt_tbl := xt_in (xt_t2 (List.mem_of_getElem? (i := 40) (by decide +kernel))) (by decide +kernel)
theorem m_6904195b : (.fieldLink "StackHost$Machine" 35 "StackHost$Machine" "values" "[J" : Cond) ∈ xt_tbl := xt_in (xt_t2 (List.mem_of_getElem? (i := 34) (by decide +kernel))) (by decide +kernel)
set_option maxRecDepth 100000 in
def T_Machine_chosenLabel : List (Nat × Instr × Nat) := [(0, .aload_n 0, 1), (1, .dup, 1), (2, .getfield 53, 3), (5, .iconst 1, 1), (6, .isub, 1), (7, .putfield 53, 3), (10, .aload_n 0, 1), (11, .getfield 111, 3), (14, .aload_n 0, 1), (15, .getfield 108, 3), (18, .iconst 1, 1), (19, .iadd, 1), (20, .iaload, 1), (21, .istore_n 1, 1), (22, .aload_n 0, 1), (23, .getfield 35, 3), (26, .aload_n 0, 1), (27, .getfield 53, 3), (30, .laload, 1), (31, .iload_n 1, 1), (32, .i2l, 1), (33, .lcmp, 1), (34, .ifCond .ge 16, 3), (37, .aload_n 0, 1), (38, .getfield 35, 3), (41, .aload_n 0, 1), (42, .getfield 53, 3), (45, .laload, 1), (46, .l2i, 1), (47, .goto 4, 3), (50, .iload_n 1, 1), (51, .istore_n 2, 1), (52, .aload_n 0, 1), (53, .getfield 111, 3), (56, .aload_n 0, 1), (57, .getfield 108, 3), (60, .iconst 2, 1), (61, .iadd, 1), (62, .iload_n 2, 1), (63, .iadd, 1), (64, .iaload, 1), (65, .ireturn, 1)]
theorem D_Machine_chosenLabel : ∀ q ∈ T_Machine_chosenLabel, decode b_Machine_chosenLabel q.1 = .ok (q.2.1, q.2.2) := by decide +kernel

set_option maxHeartbeats 4000000 in
set_option maxRecDepth 100000 in
theorem am_Machine_chosenLabel_L51 (l : Launch) (hfl : l.flags = pinnedFlags ++ [noTraceFlag]) (D : va_G) (A : Nat → Prop) (σ MC MS : Nat) (h0 : xb_H) (Qr : Int32 → xb_H → Prop) (x0 : Nat) (y0 : Int32) (h : xb_H) (hw : w_Machine_chosenLabel_L51 Qr x0 y0 h) : xb_am l D A σ 2 MC MS h0 (fun v h _ _ => ∃ r, v = some (.int r) ∧ Qr r h) (fun _ _ _ _ => False) y_Machine_chosenLabel.cls y_Machine_chosenLabel.name b_Machine_chosenLabel 3 ([] : List ExceptionTableEntry) (some .int) 51 [(0, .ref x0)] [.int y0] h 0 0 := by
  unfold w_Machine_chosenLabel_L51 at hw
  intro p e s m args below meth c hC H locs ls k n hE hl hR hS hk hn
  obtain ⟨hx, hb, hown, hlocks, htab, hml, hr, hB, hA, hnm⟩ := id hC
  have hts := hB.1.1.at args
  refine lv_istore_n hx hb (xb_d D_Machine_chosenLabel 31 rfl) rfl hl (by decide) rfl (fun ls hl => ?_)
  have hl : lv_has ls 3 [(2, .int y0), (0, .ref x0)] := hl
  refine lv_aload_n hx hb (xb_d D_Machine_chosenLabel 32 rfl) rfl (lv_at hl 1 rfl) ?_
  obtain ⟨hk1, hw⟩ := hw
  refine xb_getP (C := R_Machine) (T := F_Machine) (N := 18) hx hb 7 14 hts fin_Machine hown hR hk1 (by decide) rfl (by decide) rfl (hts _ m_8f763f86) (fun _ h9 => h9) (xb_d D_Machine_chosenLabel 33 rfl) ?_
  obtain ⟨b2, eb2, hw⟩ := hw
  refine xb_some eb2 ?_
  refine lv_aload_n hx hb (xb_d D_Machine_chosenLabel 34 rfl) rfl (lv_at hl 1 rfl) ?_
  refine xb_getI (C := R_Machine) (T := F_Machine) (N := 18) hx hb 7 15 hts fin_Machine hown hR hk1 (by decide) rfl (by decide) rfl (hts _ m_6a595805) (fun _ h9 => h9) (xb_d D_Machine_chosenLabel 35 rfl) ?_
  refine lv_iconst (v := 2) hx hb (xb_d D_Machine_chosenLabel 36 rfl) (by decide) ?_
  refine lv_iadd hx hb (xb_d D_Machine_chosenLabel 37 rfl) ?_
  refine lv_iload_n hx hb (xb_d D_Machine_chosenLabel 38 rfl) rfl (lv_at hl 0 rfl) ?_
  refine lv_iadd hx hb (xb_d D_Machine_chosenLabel 39 rfl) ?_
  obtain ⟨hk4, hw⟩ := hw
  obtain ⟨hi3, hw⟩ := hw
  refine xb_iald hx hb hR hk4 hi3 (xb_d D_Machine_chosenLabel 40 rfl) ?_
  exact xb_iret 0 0 hx hb hr hlocks (show k + 0 ≤ MC by omega) (show n + 0 ≤ MS by omega) hE hR hS (xb_d D_Machine_chosenLabel 41 rfl) hw

set_option maxHeartbeats 4000000 in
set_option maxRecDepth 100000 in
theorem ok_Machine_chosenLabel (l : Launch) (hfl : l.flags = pinnedFlags ++ [noTraceFlag]) (D : va_G) (A : Nat → Prop) (σ : Nat) (x0 : Nat) (h : xb_H) (Qr : Int32 → xb_H → Prop) (hw : w_Machine_chosenLabel x0 h Qr) : xb_Met l y_Machine_chosenLabel [.code y_Machine_chosenLabel b_Machine_chosenLabel 3 (some .int)] (xb_rm 2 0 0) (xb_Pc D A σ h [.ref x0]) (xb_Qc D A h 0 0 (fun v h _ _ => ∃ r, v = some (.int r) ∧ Qr r h) (fun _ _ _ _ => False)) A := by
  refine xb_ofAm (cc := b_Machine_chosenLabel) (by decide) (Nat.le_of_ble_eq_true rfl) ?_
  unfold w_Machine_chosenLabel at hw
  show xb_am l D A σ 2 0 0 h (fun v h _ _ => ∃ r, v = some (.int r) ∧ Qr r h) (fun _ _ _ _ => False) y_Machine_chosenLabel.cls y_Machine_chosenLabel.name b_Machine_chosenLabel 3 ([] : List ExceptionTableEntry) (some .int) 0 [(0, .ref x0)] [] h 0 0
  obtain ⟨MC, hMC⟩ : ∃ x, x = 0 := ⟨_, rfl⟩
  obtain ⟨MS, hMS⟩ : ∃ x, x = 0 := ⟨_, rfl⟩
  rw [show xb_am l D A σ 2 0 0 = xb_am l D A σ 2 MC MS by rw [hMC, hMS]]
  obtain ⟨h0, hh0⟩ : ∃ x, x = h := ⟨_, rfl⟩
  rw [show xb_am l D A σ 2 MC MS h = xb_am l D A σ 2 MC MS h0 by rw [hh0]]
  intro p e s m args below meth c hC H locs ls k n hE hl hR hS hk hn
  obtain ⟨hx, hb, hown, hlocks, htab, hml, hr, hB, hA, hnm⟩ := id hC
  have hts := hB.1.1.at args
  refine lv_aload_n hx hb (xb_d D_Machine_chosenLabel 0 rfl) rfl (lv_at hl 0 rfl) ?_
  refine lv_dup hx hb (xb_d D_Machine_chosenLabel 1 rfl) rfl ?_
  obtain ⟨hk1, hw⟩ := hw
  refine xb_getI (C := R_Machine) (T := F_Machine) (N := 18) hx hb 7 10 hts fin_Machine hown hR hk1 (by decide) rfl (by decide) rfl (hts _ m_79cf62f6) (fun _ h9 => h9) (xb_d D_Machine_chosenLabel 2 rfl) ?_
  refine lv_iconst (v := 1) hx hb (xb_d D_Machine_chosenLabel 3 rfl) (by decide) ?_
  refine lv_isub hx hb (xb_d D_Machine_chosenLabel 4 rfl) ?_
  refine xb_putI (C := R_Machine) (T := F_Machine) (N := 18) (ty := .int) (x := ((xb_i h x0 10) - 1)) hx hb 7 10 hts fin_Machine t_Machine t_Machine_ok n_Machine hown hR hS hk1 (by decide) rfl (by decide) rfl (hts _ m_79cf62f6) (fun _ h9 => h9) rfl (by decide +kernel) rfl rfl (xb_d D_Machine_chosenLabel 5 rfl) (fun H locs hR hS => ?_)
  obtain ⟨h2, eh2⟩ : ∃ x : xb_H, x = xb_I h x0 10 ((xb_i h x0 10) - 1) := ⟨_, rfl⟩
  rw [← eh2] at hR
  have hw := hw h2 eh2
  have hE : xb_ext h0 h2 := by rw [eh2]; exact hE
  refine lv_aload_n hx hb (xb_d D_Machine_chosenLabel 6 rfl) rfl (lv_at hl 0 rfl) ?_
  have hk1 : xb_k h2 x0 = 8 := by rw [eh2]; exact hk1
  refine xb_getP (C := R_Machine) (T := F_Machine) (N := 18) hx hb 7 14 hts fin_Machine hown hR hk1 (by decide) rfl (by decide) rfl (hts _ m_8f763f86) (fun _ h9 => h9) (xb_d D_Machine_chosenLabel 7 rfl) ?_
  obtain ⟨b3, eb3, hw⟩ := hw
  refine xb_some eb3 ?_
  refine lv_aload_n hx hb (xb_d D_Machine_chosenLabel 8 rfl) rfl (lv_at hl 0 rfl) ?_
  refine xb_getI (C := R_Machine) (T := F_Machine) (N := 18) hx hb 7 15 hts fin_Machine hown hR hk1 (by decide) rfl (by decide) rfl (hts _ m_6a595805) (fun _ h9 => h9) (xb_d D_Machine_chosenLabel 9 rfl) ?_
  refine lv_iconst (v := 1) hx hb (xb_d D_Machine_chosenLabel 10 rfl) (by decide) ?_
  refine lv_iadd hx hb (xb_d D_Machine_chosenLabel 11 rfl) ?_
  obtain ⟨hk5, hw⟩ := hw
  obtain ⟨hi4, hw⟩ := hw
  refine xb_iald hx hb hR hk5 hi4 (xb_d D_Machine_chosenLabel 12 rfl) ?_
  obtain ⟨v6, ev6⟩ : ∃ x : Int32, x = (xb_i h2 b3 (Int32.toNatClampNeg ((xb_i h2 x0 15) + 1))) := ⟨_, rfl⟩
  have hw := hw v6 ev6
  refine xt_numi (y := v6) ev6.symm ?_
  refine lv_istore_n hx hb (xb_d D_Machine_chosenLabel 13 rfl) rfl hl (by decide) rfl (fun ls hl => ?_)
  have hl : lv_has ls 3 [(1, .int v6), (0, .ref x0)] := hl
  refine lv_aload_n hx hb (xb_d D_Machine_chosenLabel 14 rfl) rfl (lv_at hl 1 rfl) ?_
  refine xb_getP (C := R_Machine) (T := F_Machine) (N := 18) hx hb 7 9 hts fin_Machine hown hR hk1 (by decide) rfl (by decide) rfl (hts _ m_6904195b) (fun _ h9 => h9) (xb_d D_Machine_chosenLabel 15 rfl) ?_
  obtain ⟨b7, eb7, hw⟩ := hw
  refine xb_some eb7 ?_
  refine lv_aload_n hx hb (xb_d D_Machine_chosenLabel 16 rfl) rfl (lv_at hl 1 rfl) ?_
  refine xb_getI (C := R_Machine) (T := F_Machine) (N := 18) hx hb 7 10 hts fin_Machine hown hR hk1 (by decide) rfl (by decide) rfl (hts _ m_79cf62f6) (fun _ h9 => h9) (xb_d D_Machine_chosenLabel 17 rfl) ?_
  obtain ⟨hk9, hw⟩ := hw
  obtain ⟨hi8, hw⟩ := hw
  refine xb_lald hx hb hR hk9 hi8 (xb_d D_Machine_chosenLabel 18 rfl) ?_
  refine lv_iload_n hx hb (xb_d D_Machine_chosenLabel 19 rfl) rfl (lv_at hl 0 rfl) ?_
  refine lv_i2l hx hb (xb_d D_Machine_chosenLabel 20 rfl) rfl ?_
  refine xb_lc_ge (tgt := 50) hx hb (xb_d D_Machine_chosenLabel 21 rfl) (xb_d D_Machine_chosenLabel 22 rfl) rfl (fun hc10 => ?_) (fun hc10 => ?_)
  · have hw := hw.1 hc10
    refine lv_iload_n hx hb (xb_d D_Machine_chosenLabel 30 rfl) rfl (lv_at hl 0 rfl) ?_
    exact am_Machine_chosenLabel_L51 l hfl D A σ MC MS h0 Qr x0 v6 h2 hw p e s m args below meth c hC H locs ls k n hE (lv_sub hl [1] rfl) hR hS (by omega) (by omega)
  · have hw := hw.2 hc10
    refine lv_aload_n hx hb (xb_d D_Machine_chosenLabel 23 rfl) rfl (lv_at hl 1 rfl) ?_
    refine xb_getP (C := R_Machine) (T := F_Machine) (N := 18) hx hb 7 9 hts fin_Machine hown hR hk1 (by decide) rfl (by decide) rfl (hts _ m_6904195b) (fun _ h9 => h9) (xb_d D_Machine_chosenLabel 24 rfl) ?_
    obtain ⟨b11, eb11, hw⟩ := hw
    refine xb_some eb11 ?_
    refine lv_aload_n hx hb (xb_d D_Machine_chosenLabel 25 rfl) rfl (lv_at hl 1 rfl) ?_
    refine xb_getI (C := R_Machine) (T := F_Machine) (N := 18) hx hb 7 10 hts fin_Machine hown hR hk1 (by decide) rfl (by decide) rfl (hts _ m_79cf62f6) (fun _ h9 => h9) (xb_d D_Machine_chosenLabel 26 rfl) ?_
    obtain ⟨hk13, hw⟩ := hw
    obtain ⟨hi12, hw⟩ := hw
    refine xb_lald hx hb hR hk13 hi12 (xb_d D_Machine_chosenLabel 27 rfl) ?_
    refine lv_l2i hx hb (xb_d D_Machine_chosenLabel 28 rfl) rfl ?_
    refine lv_goto (tgt := 51) hx hb (xb_d D_Machine_chosenLabel 29 rfl) rfl ?_
    exact am_Machine_chosenLabel_L51 l hfl D A σ MC MS h0 Qr x0 (Int64.toInt32 (xb_l h2 b11 (Int32.toNatClampNeg (xb_i h2 x0 10)))) h2 hw p e s m args below meth c hC H locs ls k n hE (lv_sub hl [1] rfl) hR hS (by omega) (by omega)

theorem m_436e7c8c : (.fieldLink "StackHost$Machine" 42 "StackHost$Machine" "world" "LStackHost$World;" : Cond) ∈ xt_tbl := xt_in (xt_t2 (List.mem_of_getElem? (i := 21) (by decide +kernel))) (by decide +kernel)
theorem m_1a65c70f : (.fieldLink "StackHost$Machine" 182 "StackHost$World" "instances" "[LStackHost$Instance;" : Cond) ∈ xt_tbl := xt_in (xt_t1 (List.mem_of_getElem? (i := 166) (by decide +kernel))) (by decide +kernel)
theorem m_ca1fb183 : (.fieldLink "StackHost$Machine" 39 "StackHost$Machine" "frames" "[I" : Cond) ∈ xt_tbl := xt_in (xt_t2 (List.mem_of_getElem? (i := 36) (by decide +kernel))) (by decide +kernel)
theorem m_a347cb26 : (.fieldLink "StackHost$Machine" 117 "StackHost$Machine" "instance" "LStackHost$Instance;" : Cond) ∈ xt_tbl := xt_in (xt_t2 (List.mem_of_getElem? (i := 37) (by decide +kernel))) (by decide +kernel)
theorem m_142b55ed : (.fieldLink "StackHost$Machine" 139 "StackHost$Instance" "module" "LStackHost$StackModule;" : Cond) ∈ xt_tbl := xt_in (xt_t7 (List.mem_of_getElem? (i := 6) (by decide +kernel))) (by decide +kernel)
theorem m_eb12b798 : (.fieldLink "StackHost$Machine" 186 "StackHost$StackModule" "code" "[B" : Cond) ∈ xt_tbl := xt_in (xt_t3 (List.mem_of_getElem? (i := 50) (by decide +kernel))) (by decide +kernel)
theorem m_a6a0f666 : (.fieldLink "StackHost$Machine" 104 "StackHost$Machine" "code" "[B" : Cond) ∈ xt_tbl := xt_in (xt_t2 (List.mem_of_getElem? (i := 38) (by decide +kernel))) (by decide +kernel)
theorem m_db07f6c9 : (.fieldLink "StackHost$Machine" 187 "StackHost$StackModule" "notes" "[I" : Cond) ∈ xt_tbl := xt_in (xt_t3 (List.mem_of_getElem? (i := 54) (by decide +kernel))) (by decide +kernel)
theorem m_502dfafe : (.fieldLink "StackHost$Machine" 188 "StackHost$Machine" "base" "I" : Cond) ∈ xt_tbl := xt_in (xt_t2 (List.mem_of_getElem? (i := 41) (by decide +kernel))) (by decide +kernel)
theorem m_5027e2c0 : (.fieldLink "StackHost$Machine" 191 "StackHost$Machine" "operands" "I" : Cond) ∈ xt_tbl := xt_in (xt_t2 (List.mem_of_getElem? (i := 42) (by decide +kernel))) (by decide +kernel)
set_option maxRecDepth 100000 in
def T_Machine_enter : List (Nat × Instr × Nat) := [(0, .aload_n 0, 1), (1, .aload_n 0, 1), (2, .getfield 42, 3), (5, .getfield 182, 3), (8, .aload_n 0, 1), (9, .getfield 39, 3), (12, .iload_n 1, 1), (13, .iconst 0, 1), (14, .iadd, 1), (15, .iaload, 1), (16, .aaload, 1), (17, .putfield 117, 3), (20, .aload_n 0, 1), (21, .aload_n 0, 1), (22, .getfield 117, 3), (25, .getfield 139, 3), (28, .getfield 186, 3), (31, .putfield 104, 3), (34, .aload_n 0, 1), (35, .aload_n 0, 1), (36, .getfield 117, 3), (39, .getfield 139, 3), (42, .getfield 187, 3), (45, .putfield 111, 3), (48, .aload_n 0, 1), (49, .aload_n 0, 1), (50, .getfield 39, 3), (53, .iload_n 1, 1), (54, .iconst 3, 1), (55, .iadd, 1), (56, .iaload, 1), (57, .putfield 188, 3), (60, .aload_n 0, 1), (61, .aload_n 0, 1), (62, .getfield 39, 3), (65, .iload_n 1, 1), (66, .iconst 4, 1), (67, .iadd, 1), (68, .iaload, 1), (69, .putfield 191, 3), (72, .return_, 1)]
theorem D_Machine_enter : ∀ q ∈ T_Machine_enter, decode b_Machine_enter q.1 = .ok (q.2.1, q.2.2) := by decide +kernel

set_option maxHeartbeats 4000000 in
set_option maxRecDepth 100000 in
theorem ok_Machine_enter (l : Launch) (hfl : l.flags = pinnedFlags ++ [noTraceFlag]) (D : va_G) (A : Nat → Prop) (σ : Nat) (x0 : Nat) (x1 : Int32) (h : xb_H) (Qr : xb_H → Prop) (hw : w_Machine_enter x0 x1 h Qr) : xb_Met l y_Machine_enter [.code y_Machine_enter b_Machine_enter 2 none] (xb_rm 2 0 0) (xb_Pc D A σ h [.ref x0, .int x1]) (xb_Qc D A h 0 0 (fun v h _ _ => v = none ∧ Qr h) (fun _ _ _ _ => False)) A := by
  refine xb_ofAm (cc := b_Machine_enter) (by decide) (Nat.le_of_ble_eq_true rfl) ?_
  unfold w_Machine_enter at hw
  show xb_am l D A σ 2 0 0 h (fun v h _ _ => v = none ∧ Qr h) (fun _ _ _ _ => False) y_Machine_enter.cls y_Machine_enter.name b_Machine_enter 2 ([] : List ExceptionTableEntry) none 0 [(0, .ref x0), (1, .int x1)] [] h 0 0
  obtain ⟨MC, hMC⟩ : ∃ x, x = 0 := ⟨_, rfl⟩
  obtain ⟨MS, hMS⟩ : ∃ x, x = 0 := ⟨_, rfl⟩
  rw [show xb_am l D A σ 2 0 0 = xb_am l D A σ 2 MC MS by rw [hMC, hMS]]
  obtain ⟨h0, hh0⟩ : ∃ x, x = h := ⟨_, rfl⟩
  rw [show xb_am l D A σ 2 MC MS h = xb_am l D A σ 2 MC MS h0 by rw [hh0]]
  intro p e s m args below meth c hC H locs ls k n hE hl hR hS hk hn
  obtain ⟨hx, hb, hown, hlocks, htab, hml, hr, hB, hA, hnm⟩ := id hC
  have hts := hB.1.1.at args
  refine lv_aload_n hx hb (xb_d D_Machine_enter 0 rfl) rfl (lv_at hl 0 rfl) ?_
  refine lv_aload_n hx hb (xb_d D_Machine_enter 1 rfl) rfl (lv_at hl 0 rfl) ?_
  obtain ⟨hk1, hw⟩ := hw
  refine xb_getP (C := R_Machine) (T := F_Machine) (N := 18) hx hb 7 0 hts fin_Machine hown hR hk1 (by decide) rfl (by decide) rfl (hts _ m_436e7c8c) (fun _ h9 => h9) (xb_d D_Machine_enter 2 rfl) ?_
  obtain ⟨b2, eb2, hw⟩ := hw
  refine xb_some eb2 ?_
  obtain ⟨hk3, hw⟩ := hw
  refine xb_getP (C := R_World) (T := F_World) (N := 16) hx hb 6 0 hts fin_World hown hR hk3 (by decide) rfl (by decide) rfl (hts _ m_1a65c70f) (fun _ h9 => h9) (xb_d D_Machine_enter 3 rfl) ?_
  obtain ⟨b4, eb4, hw⟩ := hw
  refine xb_some eb4 ?_
  refine lv_aload_n hx hb (xb_d D_Machine_enter 4 rfl) rfl (lv_at hl 0 rfl) ?_
  refine xb_getP (C := R_Machine) (T := F_Machine) (N := 18) hx hb 7 11 hts fin_Machine hown hR hk1 (by decide) rfl (by decide) rfl (hts _ m_ca1fb183) (fun _ h9 => h9) (xb_d D_Machine_enter 5 rfl) ?_
  obtain ⟨b5, eb5, hw⟩ := hw
  refine xb_some eb5 ?_
  refine lv_iload_n hx hb (xb_d D_Machine_enter 6 rfl) rfl (lv_at hl 1 rfl) ?_
  refine lv_iconst (v := 0) hx hb (xb_d D_Machine_enter 7 rfl) (by decide) ?_
  refine lv_iadd hx hb (xb_d D_Machine_enter 8 rfl) ?_
  obtain ⟨hk7, hw⟩ := hw
  obtain ⟨hi6, hw⟩ := hw
  refine xb_iald hx hb hR hk7 hi6 (xb_d D_Machine_enter 9 rfl) ?_
  obtain ⟨hk9, hw⟩ := hw
  obtain ⟨hi8, hw⟩ := hw
  refine xb_aald105 hx hb hR hk9 hi8 (xb_d D_Machine_enter 10 rfl) ?_
  obtain ⟨b10, eb10, hw⟩ := hw
  refine xb_some eb10 ?_
  refine xb_putP (C := R_Machine) (T := F_Machine) (N := 18) (ty := .object "StackHost$Instance") (x := (some b10)) hx hb 7 12 hts fin_Machine t_Machine t_Machine_ok n_Machine hown hR hS hk1 (by decide) rfl (by decide) rfl (hts _ m_a347cb26) (fun _ h9 => h9) rfl (by decide +kernel) (xb_pnO _ _).1 (xb_pnO _ _).2 (xb_d D_Machine_enter 11 rfl) (fun H locs hR hS => ?_)
  obtain ⟨h11, eh11⟩ : ∃ x : xb_H, x = xb_P h x0 12 (some b10) := ⟨_, rfl⟩
  rw [← eh11] at hR
  have hw := hw h11 eh11
  have hE : xb_ext h0 h11 := by rw [eh11]; exact hE
  refine lv_aload_n hx hb (xb_d D_Machine_enter 12 rfl) rfl (lv_at hl 0 rfl) ?_
  refine lv_aload_n hx hb (xb_d D_Machine_enter 13 rfl) rfl (lv_at hl 0 rfl) ?_
  have hk1 : xb_k h11 x0 = 8 := by rw [eh11]; exact hk1
  refine xb_getP (C := R_Machine) (T := F_Machine) (N := 18) hx hb 7 12 hts fin_Machine hown hR hk1 (by decide) rfl (by decide) rfl (hts _ m_a347cb26) (fun _ h9 => h9) (xb_d D_Machine_enter 14 rfl) ?_
  obtain ⟨b12, eb12, hw⟩ := hw
  refine xb_some eb12 ?_
  obtain ⟨hk13, hw⟩ := hw
  refine xb_getP (C := R_Instance) (T := F_Instance) (N := 8) hx hb 10 1 hts fin_Instance hown hR hk13 (by decide) rfl (by decide) rfl (hts _ m_142b55ed) (fun _ h9 => h9) (xb_d D_Machine_enter 15 rfl) ?_
  obtain ⟨b14, eb14, hw⟩ := hw
  refine xb_some eb14 ?_
  obtain ⟨hk15, hw⟩ := hw
  refine xb_getP (C := R_StackModule) (T := F_StackModule) (N := 19) hx hb 2 0 hts fin_StackModule hown hR hk15 (by decide) rfl (by decide) rfl (hts _ m_eb12b798) (fun _ h9 => h9) (xb_d D_Machine_enter 16 rfl) ?_
  obtain ⟨b16, eb16, hw⟩ := hw
  refine xb_some eb16 ?_
  refine xb_putP (C := R_Machine) (T := F_Machine) (N := 18) (ty := .array .byte) (x := (some b16)) hx hb 7 13 hts fin_Machine t_Machine t_Machine_ok n_Machine hown hR hS hk1 (by decide) rfl (by decide) rfl (hts _ m_a6a0f666) (fun _ h9 => h9) rfl (by decide +kernel) (xb_pnA _ _).1 (xb_pnA _ _).2 (xb_d D_Machine_enter 17 rfl) (fun H locs hR hS => ?_)
  obtain ⟨h17, eh17⟩ : ∃ x : xb_H, x = xb_P h11 x0 13 (some b16) := ⟨_, rfl⟩
  rw [← eh17] at hR
  have hw := hw h17 eh17
  have hE : xb_ext h0 h17 := by rw [eh17]; exact hE
  refine lv_aload_n hx hb (xb_d D_Machine_enter 18 rfl) rfl (lv_at hl 0 rfl) ?_
  refine lv_aload_n hx hb (xb_d D_Machine_enter 19 rfl) rfl (lv_at hl 0 rfl) ?_
  have hk1 : xb_k h17 x0 = 8 := by rw [eh17]; exact hk1
  refine xb_getP (C := R_Machine) (T := F_Machine) (N := 18) hx hb 7 12 hts fin_Machine hown hR hk1 (by decide) rfl (by decide) rfl (hts _ m_a347cb26) (fun _ h9 => h9) (xb_d D_Machine_enter 20 rfl) ?_
  obtain ⟨b18, eb18, hw⟩ := hw
  refine xb_some eb18 ?_
  obtain ⟨hk19, hw⟩ := hw
  refine xb_getP (C := R_Instance) (T := F_Instance) (N := 8) hx hb 10 1 hts fin_Instance hown hR hk19 (by decide) rfl (by decide) rfl (hts _ m_142b55ed) (fun _ h9 => h9) (xb_d D_Machine_enter 21 rfl) ?_
  obtain ⟨b20, eb20, hw⟩ := hw
  refine xb_some eb20 ?_
  obtain ⟨hk21, hw⟩ := hw
  refine xb_getP (C := R_StackModule) (T := F_StackModule) (N := 19) hx hb 2 1 hts fin_StackModule hown hR hk21 (by decide) rfl (by decide) rfl (hts _ m_db07f6c9) (fun _ h9 => h9) (xb_d D_Machine_enter 22 rfl) ?_
  obtain ⟨b22, eb22, hw⟩ := hw
  refine xb_some eb22 ?_
  refine xb_putP (C := R_Machine) (T := F_Machine) (N := 18) (ty := .array .int) (x := (some b22)) hx hb 7 14 hts fin_Machine t_Machine t_Machine_ok n_Machine hown hR hS hk1 (by decide) rfl (by decide) rfl (hts _ m_8f763f86) (fun _ h9 => h9) rfl (by decide +kernel) (xb_pnA _ _).1 (xb_pnA _ _).2 (xb_d D_Machine_enter 23 rfl) (fun H locs hR hS => ?_)
  obtain ⟨h23, eh23⟩ : ∃ x : xb_H, x = xb_P h17 x0 14 (some b22) := ⟨_, rfl⟩
  rw [← eh23] at hR
  have hw := hw h23 eh23
  have hE : xb_ext h0 h23 := by rw [eh23]; exact hE
  refine lv_aload_n hx hb (xb_d D_Machine_enter 24 rfl) rfl (lv_at hl 0 rfl) ?_
  refine lv_aload_n hx hb (xb_d D_Machine_enter 25 rfl) rfl (lv_at hl 0 rfl) ?_
  have hk1 : xb_k h23 x0 = 8 := by rw [eh23]; exact hk1
  refine xb_getP (C := R_Machine) (T := F_Machine) (N := 18) hx hb 7 11 hts fin_Machine hown hR hk1 (by decide) rfl (by decide) rfl (hts _ m_ca1fb183) (fun _ h9 => h9) (xb_d D_Machine_enter 26 rfl) ?_
  obtain ⟨b24, eb24, hw⟩ := hw
  refine xb_some eb24 ?_
  refine lv_iload_n hx hb (xb_d D_Machine_enter 27 rfl) rfl (lv_at hl 1 rfl) ?_
  refine lv_iconst (v := 3) hx hb (xb_d D_Machine_enter 28 rfl) (by decide) ?_
  refine lv_iadd hx hb (xb_d D_Machine_enter 29 rfl) ?_
  obtain ⟨hk26, hw⟩ := hw
  obtain ⟨hi25, hw⟩ := hw
  refine xb_iald hx hb hR hk26 hi25 (xb_d D_Machine_enter 30 rfl) ?_
  refine xb_putI (C := R_Machine) (T := F_Machine) (N := 18) (ty := .int) (x := (xb_i h23 b24 (Int32.toNatClampNeg (x1 + 3)))) hx hb 7 16 hts fin_Machine t_Machine t_Machine_ok n_Machine hown hR hS hk1 (by decide) rfl (by decide) rfl (hts _ m_502dfafe) (fun _ h9 => h9) rfl (by decide +kernel) rfl rfl (xb_d D_Machine_enter 31 rfl) (fun H locs hR hS => ?_)
  obtain ⟨h27, eh27⟩ : ∃ x : xb_H, x = xb_I h23 x0 16 (xb_i h23 b24 (Int32.toNatClampNeg (x1 + 3))) := ⟨_, rfl⟩
  rw [← eh27] at hR
  have hw := hw h27 eh27
  have hE : xb_ext h0 h27 := by rw [eh27]; exact hE
  refine lv_aload_n hx hb (xb_d D_Machine_enter 32 rfl) rfl (lv_at hl 0 rfl) ?_
  refine lv_aload_n hx hb (xb_d D_Machine_enter 33 rfl) rfl (lv_at hl 0 rfl) ?_
  have hk1 : xb_k h27 x0 = 8 := by rw [eh27]; exact hk1
  refine xb_getP (C := R_Machine) (T := F_Machine) (N := 18) hx hb 7 11 hts fin_Machine hown hR hk1 (by decide) rfl (by decide) rfl (hts _ m_ca1fb183) (fun _ h9 => h9) (xb_d D_Machine_enter 34 rfl) ?_
  obtain ⟨b28, eb28, hw⟩ := hw
  refine xb_some eb28 ?_
  refine lv_iload_n hx hb (xb_d D_Machine_enter 35 rfl) rfl (lv_at hl 1 rfl) ?_
  refine lv_iconst (v := 4) hx hb (xb_d D_Machine_enter 36 rfl) (by decide) ?_
  refine lv_iadd hx hb (xb_d D_Machine_enter 37 rfl) ?_
  obtain ⟨hk30, hw⟩ := hw
  obtain ⟨hi29, hw⟩ := hw
  refine xb_iald hx hb hR hk30 hi29 (xb_d D_Machine_enter 38 rfl) ?_
  refine xb_putI (C := R_Machine) (T := F_Machine) (N := 18) (ty := .int) (x := (xb_i h27 b28 (Int32.toNatClampNeg (x1 + 4)))) hx hb 7 17 hts fin_Machine t_Machine t_Machine_ok n_Machine hown hR hS hk1 (by decide) rfl (by decide) rfl (hts _ m_5027e2c0) (fun _ h9 => h9) rfl (by decide +kernel) rfl rfl (xb_d D_Machine_enter 39 rfl) (fun H locs hR hS => ?_)
  obtain ⟨h31, eh31⟩ : ∃ x : xb_H, x = xb_I h27 x0 17 (xb_i h27 b28 (Int32.toNatClampNeg (x1 + 4))) := ⟨_, rfl⟩
  rw [← eh31] at hR
  have hw := hw h31 eh31
  have hE : xb_ext h0 h31 := by rw [eh31]; exact hE
  exact xb_vret 0 0 hx hb hr hlocks (show k + 0 ≤ MC by omega) (show n + 0 ≤ MS by omega) hE hR hS (xb_d D_Machine_enter 40 rfl) hw

theorem m_cb912e58 : (.fieldLink "StackHost$Machine" 90 "StackHost$Machine" "trapped" "Z" : Cond) ∈ xt_tbl := xt_in (xt_t2 (List.mem_of_getElem? (i := 32) (by decide +kernel))) (by decide +kernel)
theorem m_731e5d01 : (.fieldLink "StackHost$Machine" 27 "StackHost$Machine" "latestTrap" "[I" : Cond) ∈ xt_tbl := xt_in (xt_t2 (List.mem_of_getElem? (i := 30) (by decide +kernel))) (by decide +kernel)
theorem m_0e2a43da : (.fieldLink "StackHost$Machine" 121 "StackHost$Instance" "number" "I" : Cond) ∈ xt_tbl := xt_in (xt_t7 (List.mem_of_getElem? (i := 1) (by decide +kernel))) (by decide +kernel)
set_option maxRecDepth 100000 in
def T_Machine_fall : List (Nat × Instr × Nat) := [(0, .aload_n 0, 1), (1, .getfield 50, 3), (4, .ifCond .le 7, 3), (7, .iconst 1, 1), (8, .goto 4, 3), (11, .iconst 0, 1), (12, .istore_n 2, 1), (13, .aload_n 0, 1), (14, .getfield 27, 3), (17, .iconst 0, 1), (18, .iload_n 1, 1), (19, .iastore, 1), (20, .aload_n 0, 1), (21, .getfield 27, 3), (24, .iconst 1, 1), (25, .iload_n 2, 1), (26, .ifCond .eq 13, 3), (29, .aload_n 0, 1), (30, .getfield 117, 3), (33, .getfield 121, 3), (36, .goto 4, 3), (39, .iconst (-1), 1), (40, .iastore, 1), (41, .aload_n 0, 1), (42, .getfield 27, 3), (45, .iconst 2, 1), (46, .iload_n 2, 1), (47, .ifCond .eq 21, 3), (50, .aload_n 0, 1), (51, .getfield 39, 3), (54, .aload_n 0, 1), (55, .getfield 50, 3), (58, .iconst 1, 1), (59, .isub, 1), (60, .iconst 5, 1), (61, .imul, 1), (62, .iconst 1, 1), (63, .iadd, 1), (64, .iaload, 1), (65, .goto 4, 3), (68, .iconst (-1), 1), (69, .iastore, 1), (70, .aload_n 0, 1), (71, .getfield 27, 3), (74, .iconst 3, 1), (75, .iload_n 2, 1), (76, .ifCond .eq 10, 3), (79, .aload_n 0, 1), (80, .getfield 108, 3), (83, .goto 4, 3), (86, .iconst (-1), 1), (87, .iastore, 1), (88, .aload_n 0, 1), (89, .iconst 1, 1), (90, .putfield 90, 3), (93, .aload_n 0, 1), (94, .iconst 0, 1), (95, .putfield 46, 3), (98, .aload_n 0, 1), (99, .iconst 0, 1), (100, .putfield 50, 3), (103, .return_, 1)]
theorem D_Machine_fall : ∀ q ∈ T_Machine_fall, decode b_Machine_fall q.1 = .ok (q.2.1, q.2.2) := by decide +kernel

set_option maxHeartbeats 4000000 in
set_option maxRecDepth 100000 in
theorem am_Machine_fall_L87 (l : Launch) (hfl : l.flags = pinnedFlags ++ [noTraceFlag]) (D : va_G) (A : Nat → Prop) (σ MC MS : Nat) (h0 : xb_H) (Qr : xb_H → Prop) (x0 : Nat) (y0 : Int32) (y1 : Int32) (y2 : Nat) (h : xb_H) (hw : w_Machine_fall_L87 Qr x0 y0 y1 y2 h) : xb_am l D A σ 2 MC MS h0 (fun v h _ _ => v = none ∧ Qr h) (fun _ _ _ _ => False) y_Machine_fall.cls y_Machine_fall.name b_Machine_fall 3 ([] : List ExceptionTableEntry) none 87 [(0, .ref x0)] [.int y0, .int y1, .ref y2] h 0 0 := by
  unfold w_Machine_fall_L87 at hw
  intro p e s m args below meth c hC H locs ls k n hE hl hR hS hk hn
  obtain ⟨hx, hb, hown, hlocks, htab, hml, hr, hB, hA, hnm⟩ := id hC
  have hts := hB.1.1.at args
  obtain ⟨hk1, hw⟩ := hw
  obtain ⟨hi2, hw⟩ := hw
  refine xb_iast hx hb hR hS hk1 hi2 (xb_d D_Machine_fall 51 rfl) (fun H locs hR hS => ?_)
  obtain ⟨h3, eh3⟩ : ∃ x : xb_H, x = xb_I h y2 (Int32.toNatClampNeg y1) y0 := ⟨_, rfl⟩
  rw [← eh3] at hR
  have hw := hw h3 eh3
  have hE : xb_ext h0 h3 := by rw [eh3]; exact hE
  refine lv_aload_n hx hb (xb_d D_Machine_fall 52 rfl) rfl (lv_at hl 0 rfl) ?_
  refine lv_iconst (v := 1) hx hb (xb_d D_Machine_fall 53 rfl) (by decide) ?_
  obtain ⟨hk4, hw⟩ := hw
  refine xb_putI (C := R_Machine) (T := F_Machine) (N := 18) (ty := .boolean) (x := 1) hx hb 7 7 hts fin_Machine t_Machine t_Machine_ok n_Machine hown hR hS hk4 (by decide) rfl (by decide) rfl (hts _ m_cb912e58) (fun _ h9 => h9) rfl (by decide +kernel) (by decide) (by decide) (xb_d D_Machine_fall 54 rfl) (fun H locs hR hS => ?_)
  obtain ⟨h5, eh5⟩ : ∃ x : xb_H, x = xb_I h3 x0 7 1 := ⟨_, rfl⟩
  rw [← eh5] at hR
  have hw := hw h5 eh5
  have hE : xb_ext h0 h5 := by rw [eh5]; exact hE
  refine lv_aload_n hx hb (xb_d D_Machine_fall 55 rfl) rfl (lv_at hl 0 rfl) ?_
  refine lv_iconst (v := 0) hx hb (xb_d D_Machine_fall 56 rfl) (by decide) ?_
  have hk4 : xb_k h5 x0 = 8 := by rw [eh5]; exact hk4
  refine xb_putI (C := R_Machine) (T := F_Machine) (N := 18) (ty := .boolean) (x := 0) hx hb 7 3 hts fin_Machine t_Machine t_Machine_ok n_Machine hown hR hS hk4 (by decide) rfl (by decide) rfl (hts _ m_87cf9501) (fun _ h9 => h9) rfl (by decide +kernel) (by decide) (by decide) (xb_d D_Machine_fall 57 rfl) (fun H locs hR hS => ?_)
  obtain ⟨h6, eh6⟩ : ∃ x : xb_H, x = xb_I h5 x0 3 0 := ⟨_, rfl⟩
  rw [← eh6] at hR
  have hw := hw h6 eh6
  have hE : xb_ext h0 h6 := by rw [eh6]; exact hE
  refine lv_aload_n hx hb (xb_d D_Machine_fall 58 rfl) rfl (lv_at hl 0 rfl) ?_
  refine lv_iconst (v := 0) hx hb (xb_d D_Machine_fall 59 rfl) (by decide) ?_
  have hk4 : xb_k h6 x0 = 8 := by rw [eh6]; exact hk4
  refine xb_putI (C := R_Machine) (T := F_Machine) (N := 18) (ty := .int) (x := 0) hx hb 7 4 hts fin_Machine t_Machine t_Machine_ok n_Machine hown hR hS hk4 (by decide) rfl (by decide) rfl (hts _ m_61f414b6) (fun _ h9 => h9) rfl (by decide +kernel) rfl rfl (xb_d D_Machine_fall 60 rfl) (fun H locs hR hS => ?_)
  obtain ⟨h7, eh7⟩ : ∃ x : xb_H, x = xb_I h6 x0 4 0 := ⟨_, rfl⟩
  rw [← eh7] at hR
  have hw := hw h7 eh7
  have hE : xb_ext h0 h7 := by rw [eh7]; exact hE
  exact xb_vret 0 0 hx hb hr hlocks (show k + 0 ≤ MC by omega) (show n + 0 ≤ MS by omega) hE hR hS (xb_d D_Machine_fall 61 rfl) hw

set_option maxHeartbeats 4000000 in
set_option maxRecDepth 100000 in
theorem am_Machine_fall_L69 (l : Launch) (hfl : l.flags = pinnedFlags ++ [noTraceFlag]) (D : va_G) (A : Nat → Prop) (σ MC MS : Nat) (h0 : xb_H) (Qr : xb_H → Prop) (x0 : Nat) (x2 : Int32) (y0 : Int32) (y1 : Int32) (y2 : Nat) (h : xb_H) (hw : w_Machine_fall_L69 Qr x0 x2 y0 y1 y2 h) : xb_am l D A σ 2 MC MS h0 (fun v h _ _ => v = none ∧ Qr h) (fun _ _ _ _ => False) y_Machine_fall.cls y_Machine_fall.name b_Machine_fall 3 ([] : List ExceptionTableEntry) none 69 [(0, .ref x0), (2, .int x2)] [.int y0, .int y1, .ref y2] h 0 0 := by
  unfold w_Machine_fall_L69 at hw
  intro p e s m args below meth c hC H locs ls k n hE hl hR hS hk hn
  obtain ⟨hx, hb, hown, hlocks, htab, hml, hr, hB, hA, hnm⟩ := id hC
  have hts := hB.1.1.at args
  obtain ⟨hk1, hw⟩ := hw
  obtain ⟨hi2, hw⟩ := hw
  refine xb_iast hx hb hR hS hk1 hi2 (xb_d D_Machine_fall 41 rfl) (fun H locs hR hS => ?_)
  obtain ⟨h3, eh3⟩ : ∃ x : xb_H, x = xb_I h y2 (Int32.toNatClampNeg y1) y0 := ⟨_, rfl⟩
  rw [← eh3] at hR
  have hw := hw h3 eh3
  have hE : xb_ext h0 h3 := by rw [eh3]; exact hE
  refine lv_aload_n hx hb (xb_d D_Machine_fall 42 rfl) rfl (lv_at hl 0 rfl) ?_
  obtain ⟨hk4, hw⟩ := hw
  refine xb_getP (C := R_Machine) (T := F_Machine) (N := 18) hx hb 7 6 hts fin_Machine hown hR hk4 (by decide) rfl (by decide) rfl (hts _ m_731e5d01) (fun _ h9 => h9) (xb_d D_Machine_fall 43 rfl) ?_
  obtain ⟨b5, eb5, hw⟩ := hw
  refine xb_some eb5 ?_
  refine lv_iconst (v := 3) hx hb (xb_d D_Machine_fall 44 rfl) (by decide) ?_
  refine lv_iload_n hx hb (xb_d D_Machine_fall 45 rfl) rfl (lv_at hl 1 rfl) ?_
  refine lv_if_eq (tgt := 86) hx hb (xb_d D_Machine_fall 46 rfl) rfl (fun hc6 => ?_) (fun hc6 => ?_)
  · have hw := hw.1 hc6
    refine lv_iconst (v := (-1)) hx hb (xb_d D_Machine_fall 50 rfl) (by decide) ?_
    exact am_Machine_fall_L87 l hfl D A σ MC MS h0 Qr x0 (-1) 3 b5 h3 hw p e s m args below meth c hC H locs ls k n hE (lv_sub hl [0] rfl) hR hS (by omega) (by omega)
  · have hw := hw.2 hc6
    refine lv_aload_n hx hb (xb_d D_Machine_fall 47 rfl) rfl (lv_at hl 0 rfl) ?_
    refine xb_getI (C := R_Machine) (T := F_Machine) (N := 18) hx hb 7 15 hts fin_Machine hown hR hk4 (by decide) rfl (by decide) rfl (hts _ m_6a595805) (fun _ h9 => h9) (xb_d D_Machine_fall 48 rfl) ?_
    refine lv_goto (tgt := 87) hx hb (xb_d D_Machine_fall 49 rfl) rfl ?_
    exact am_Machine_fall_L87 l hfl D A σ MC MS h0 Qr x0 (xb_i h3 x0 15) 3 b5 h3 hw p e s m args below meth c hC H locs ls k n hE (lv_sub hl [0] rfl) hR hS (by omega) (by omega)

set_option maxHeartbeats 4000000 in
set_option maxRecDepth 100000 in
theorem am_Machine_fall_L40 (l : Launch) (hfl : l.flags = pinnedFlags ++ [noTraceFlag]) (D : va_G) (A : Nat → Prop) (σ MC MS : Nat) (h0 : xb_H) (Qr : xb_H → Prop) (x0 : Nat) (x2 : Int32) (y0 : Int32) (y1 : Int32) (y2 : Nat) (h : xb_H) (hw : w_Machine_fall_L40 Qr x0 x2 y0 y1 y2 h) : xb_am l D A σ 2 MC MS h0 (fun v h _ _ => v = none ∧ Qr h) (fun _ _ _ _ => False) y_Machine_fall.cls y_Machine_fall.name b_Machine_fall 3 ([] : List ExceptionTableEntry) none 40 [(0, .ref x0), (2, .int x2)] [.int y0, .int y1, .ref y2] h 0 0 := by
  unfold w_Machine_fall_L40 at hw
  intro p e s m args below meth c hC H locs ls k n hE hl hR hS hk hn
  obtain ⟨hx, hb, hown, hlocks, htab, hml, hr, hB, hA, hnm⟩ := id hC
  have hts := hB.1.1.at args
  obtain ⟨hk1, hw⟩ := hw
  obtain ⟨hi2, hw⟩ := hw
  refine xb_iast hx hb hR hS hk1 hi2 (xb_d D_Machine_fall 22 rfl) (fun H locs hR hS => ?_)
  obtain ⟨h3, eh3⟩ : ∃ x : xb_H, x = xb_I h y2 (Int32.toNatClampNeg y1) y0 := ⟨_, rfl⟩
  rw [← eh3] at hR
  have hw := hw h3 eh3
  have hE : xb_ext h0 h3 := by rw [eh3]; exact hE
  refine lv_aload_n hx hb (xb_d D_Machine_fall 23 rfl) rfl (lv_at hl 0 rfl) ?_
  obtain ⟨hk4, hw⟩ := hw
  refine xb_getP (C := R_Machine) (T := F_Machine) (N := 18) hx hb 7 6 hts fin_Machine hown hR hk4 (by decide) rfl (by decide) rfl (hts _ m_731e5d01) (fun _ h9 => h9) (xb_d D_Machine_fall 24 rfl) ?_
  obtain ⟨b5, eb5, hw⟩ := hw
  refine xb_some eb5 ?_
  refine lv_iconst (v := 2) hx hb (xb_d D_Machine_fall 25 rfl) (by decide) ?_
  refine lv_iload_n hx hb (xb_d D_Machine_fall 26 rfl) rfl (lv_at hl 1 rfl) ?_
  refine lv_if_eq (tgt := 68) hx hb (xb_d D_Machine_fall 27 rfl) rfl (fun hc6 => ?_) (fun hc6 => ?_)
  · have hw := hw.1 hc6
    refine lv_iconst (v := (-1)) hx hb (xb_d D_Machine_fall 40 rfl) (by decide) ?_
    exact am_Machine_fall_L69 l hfl D A σ MC MS h0 Qr x0 x2 (-1) 2 b5 h3 hw p e s m args below meth c hC H locs ls k n hE (lv_sub hl [0, 1] rfl) hR hS (by omega) (by omega)
  · have hw := hw.2 hc6
    refine lv_aload_n hx hb (xb_d D_Machine_fall 28 rfl) rfl (lv_at hl 0 rfl) ?_
    refine xb_getP (C := R_Machine) (T := F_Machine) (N := 18) hx hb 7 11 hts fin_Machine hown hR hk4 (by decide) rfl (by decide) rfl (hts _ m_ca1fb183) (fun _ h9 => h9) (xb_d D_Machine_fall 29 rfl) ?_
    obtain ⟨b7, eb7, hw⟩ := hw
    refine xb_some eb7 ?_
    refine lv_aload_n hx hb (xb_d D_Machine_fall 30 rfl) rfl (lv_at hl 0 rfl) ?_
    refine xb_getI (C := R_Machine) (T := F_Machine) (N := 18) hx hb 7 4 hts fin_Machine hown hR hk4 (by decide) rfl (by decide) rfl (hts _ m_61f414b6) (fun _ h9 => h9) (xb_d D_Machine_fall 31 rfl) ?_
    refine lv_iconst (v := 1) hx hb (xb_d D_Machine_fall 32 rfl) (by decide) ?_
    refine lv_isub hx hb (xb_d D_Machine_fall 33 rfl) ?_
    refine lv_iconst (v := 5) hx hb (xb_d D_Machine_fall 34 rfl) (by decide) ?_
    refine lv_imul hx hb (xb_d D_Machine_fall 35 rfl) ?_
    refine lv_iconst (v := 1) hx hb (xb_d D_Machine_fall 36 rfl) (by decide) ?_
    refine lv_iadd hx hb (xb_d D_Machine_fall 37 rfl) ?_
    obtain ⟨hk9, hw⟩ := hw
    obtain ⟨hi8, hw⟩ := hw
    refine xb_iald hx hb hR hk9 hi8 (xb_d D_Machine_fall 38 rfl) ?_
    refine lv_goto (tgt := 69) hx hb (xb_d D_Machine_fall 39 rfl) rfl ?_
    exact am_Machine_fall_L69 l hfl D A σ MC MS h0 Qr x0 x2 (xb_i h3 b7 (Int32.toNatClampNeg ((((xb_i h3 x0 4) - 1) * 5) + 1))) 2 b5 h3 hw p e s m args below meth c hC H locs ls k n hE (lv_sub hl [0, 1] rfl) hR hS (by omega) (by omega)

set_option maxHeartbeats 4000000 in
set_option maxRecDepth 100000 in
theorem am_Machine_fall_L12 (l : Launch) (hfl : l.flags = pinnedFlags ++ [noTraceFlag]) (D : va_G) (A : Nat → Prop) (σ MC MS : Nat) (h0 : xb_H) (Qr : xb_H → Prop) (x0 : Nat) (x1 : Int32) (y0 : Int32) (h : xb_H) (hw : w_Machine_fall_L12 Qr x0 x1 y0 h) : xb_am l D A σ 2 MC MS h0 (fun v h _ _ => v = none ∧ Qr h) (fun _ _ _ _ => False) y_Machine_fall.cls y_Machine_fall.name b_Machine_fall 3 ([] : List ExceptionTableEntry) none 12 [(0, .ref x0), (1, .int x1)] [.int y0] h 0 0 := by
  unfold w_Machine_fall_L12 at hw
  intro p e s m args below meth c hC H locs ls k n hE hl hR hS hk hn
  obtain ⟨hx, hb, hown, hlocks, htab, hml, hr, hB, hA, hnm⟩ := id hC
  have hts := hB.1.1.at args
  refine lv_istore_n hx hb (xb_d D_Machine_fall 6 rfl) rfl hl (by decide) rfl (fun ls hl => ?_)
  have hl : lv_has ls 3 [(2, .int y0), (0, .ref x0), (1, .int x1)] := hl
  refine lv_aload_n hx hb (xb_d D_Machine_fall 7 rfl) rfl (lv_at hl 1 rfl) ?_
  obtain ⟨hk1, hw⟩ := hw
  refine xb_getP (C := R_Machine) (T := F_Machine) (N := 18) hx hb 7 6 hts fin_Machine hown hR hk1 (by decide) rfl (by decide) rfl (hts _ m_731e5d01) (fun _ h9 => h9) (xb_d D_Machine_fall 8 rfl) ?_
  obtain ⟨b2, eb2, hw⟩ := hw
  refine xb_some eb2 ?_
  refine lv_iconst (v := 0) hx hb (xb_d D_Machine_fall 9 rfl) (by decide) ?_
  refine lv_iload_n hx hb (xb_d D_Machine_fall 10 rfl) rfl (lv_at hl 2 rfl) ?_
  obtain ⟨hk3, hw⟩ := hw
  obtain ⟨hi4, hw⟩ := hw
  refine xb_iast hx hb hR hS hk3 hi4 (xb_d D_Machine_fall 11 rfl) (fun H locs hR hS => ?_)
  obtain ⟨h5, eh5⟩ : ∃ x : xb_H, x = xb_I h b2 (Int32.toNatClampNeg 0) x1 := ⟨_, rfl⟩
  rw [← eh5] at hR
  have hw := hw h5 eh5
  have hE : xb_ext h0 h5 := by rw [eh5]; exact hE
  refine lv_aload_n hx hb (xb_d D_Machine_fall 12 rfl) rfl (lv_at hl 1 rfl) ?_
  have hk1 : xb_k h5 x0 = 8 := by rw [eh5]; exact hk1
  refine xb_getP (C := R_Machine) (T := F_Machine) (N := 18) hx hb 7 6 hts fin_Machine hown hR hk1 (by decide) rfl (by decide) rfl (hts _ m_731e5d01) (fun _ h9 => h9) (xb_d D_Machine_fall 13 rfl) ?_
  obtain ⟨b6, eb6, hw⟩ := hw
  refine xb_some eb6 ?_
  refine lv_iconst (v := 1) hx hb (xb_d D_Machine_fall 14 rfl) (by decide) ?_
  refine lv_iload_n hx hb (xb_d D_Machine_fall 15 rfl) rfl (lv_at hl 0 rfl) ?_
  refine lv_if_eq (tgt := 39) hx hb (xb_d D_Machine_fall 16 rfl) rfl (fun hc7 => ?_) (fun hc7 => ?_)
  · have hw := hw.1 hc7
    refine lv_iconst (v := (-1)) hx hb (xb_d D_Machine_fall 21 rfl) (by decide) ?_
    exact am_Machine_fall_L40 l hfl D A σ MC MS h0 Qr x0 y0 (-1) 1 b6 h5 hw p e s m args below meth c hC H locs ls k n hE (lv_sub hl [1, 0] rfl) hR hS (by omega) (by omega)
  · have hw := hw.2 hc7
    refine lv_aload_n hx hb (xb_d D_Machine_fall 17 rfl) rfl (lv_at hl 1 rfl) ?_
    refine xb_getP (C := R_Machine) (T := F_Machine) (N := 18) hx hb 7 12 hts fin_Machine hown hR hk1 (by decide) rfl (by decide) rfl (hts _ m_a347cb26) (fun _ h9 => h9) (xb_d D_Machine_fall 18 rfl) ?_
    obtain ⟨b8, eb8, hw⟩ := hw
    refine xb_some eb8 ?_
    obtain ⟨hk9, hw⟩ := hw
    refine xb_getI (C := R_Instance) (T := F_Instance) (N := 8) hx hb 10 0 hts fin_Instance hown hR hk9 (by decide) rfl (by decide) rfl (hts _ m_0e2a43da) (fun _ h9 => h9) (xb_d D_Machine_fall 19 rfl) ?_
    refine lv_goto (tgt := 40) hx hb (xb_d D_Machine_fall 20 rfl) rfl ?_
    exact am_Machine_fall_L40 l hfl D A σ MC MS h0 Qr x0 y0 (xb_i h5 b8 0) 1 b6 h5 hw p e s m args below meth c hC H locs ls k n hE (lv_sub hl [1, 0] rfl) hR hS (by omega) (by omega)

set_option maxHeartbeats 4000000 in
set_option maxRecDepth 100000 in
theorem ok_Machine_fall (l : Launch) (hfl : l.flags = pinnedFlags ++ [noTraceFlag]) (D : va_G) (A : Nat → Prop) (σ : Nat) (x0 : Nat) (x1 : Int32) (h : xb_H) (Qr : xb_H → Prop) (hw : w_Machine_fall x0 x1 h Qr) : xb_Met l y_Machine_fall [.code y_Machine_fall b_Machine_fall 3 none] (xb_rm 2 0 0) (xb_Pc D A σ h [.ref x0, .int x1]) (xb_Qc D A h 0 0 (fun v h _ _ => v = none ∧ Qr h) (fun _ _ _ _ => False)) A := by
  refine xb_ofAm (cc := b_Machine_fall) (by decide) (Nat.le_of_ble_eq_true rfl) ?_
  unfold w_Machine_fall at hw
  show xb_am l D A σ 2 0 0 h (fun v h _ _ => v = none ∧ Qr h) (fun _ _ _ _ => False) y_Machine_fall.cls y_Machine_fall.name b_Machine_fall 3 ([] : List ExceptionTableEntry) none 0 [(0, .ref x0), (1, .int x1)] [] h 0 0
  obtain ⟨MC, hMC⟩ : ∃ x, x = 0 := ⟨_, rfl⟩
  obtain ⟨MS, hMS⟩ : ∃ x, x = 0 := ⟨_, rfl⟩
  rw [show xb_am l D A σ 2 0 0 = xb_am l D A σ 2 MC MS by rw [hMC, hMS]]
  obtain ⟨h0, hh0⟩ : ∃ x, x = h := ⟨_, rfl⟩
  rw [show xb_am l D A σ 2 MC MS h = xb_am l D A σ 2 MC MS h0 by rw [hh0]]
  intro p e s m args below meth c hC H locs ls k n hE hl hR hS hk hn
  obtain ⟨hx, hb, hown, hlocks, htab, hml, hr, hB, hA, hnm⟩ := id hC
  have hts := hB.1.1.at args
  refine lv_aload_n hx hb (xb_d D_Machine_fall 0 rfl) rfl (lv_at hl 0 rfl) ?_
  obtain ⟨hk1, hw⟩ := hw
  refine xb_getI (C := R_Machine) (T := F_Machine) (N := 18) hx hb 7 4 hts fin_Machine hown hR hk1 (by decide) rfl (by decide) rfl (hts _ m_61f414b6) (fun _ h9 => h9) (xb_d D_Machine_fall 1 rfl) ?_
  refine lv_if_le (tgt := 11) hx hb (xb_d D_Machine_fall 2 rfl) rfl (fun hc2 => ?_) (fun hc2 => ?_)
  · have hw := hw.1 hc2
    refine lv_iconst (v := 0) hx hb (xb_d D_Machine_fall 5 rfl) (by decide) ?_
    exact am_Machine_fall_L12 l hfl D A σ MC MS h0 Qr x0 x1 0 h hw p e s m args below meth c hC H locs ls k n hE (lv_sub hl [0, 1] rfl) hR hS (by omega) (by omega)
  · have hw := hw.2 hc2
    refine lv_iconst (v := 1) hx hb (xb_d D_Machine_fall 3 rfl) (by decide) ?_
    refine lv_goto (tgt := 12) hx hb (xb_d D_Machine_fall 4 rfl) rfl ?_
    exact am_Machine_fall_L12 l hfl D A σ MC MS h0 Qr x0 x1 1 h hw p e s m args below meth c hC H locs ls k n hE (lv_sub hl [0, 1] rfl) hR hS (by omega) (by omega)

theorem m_1a79dca6 : (.fieldLink "StackHost$Machine" 126 "StackHost$Machine" "latestResult" "J" : Cond) ∈ xt_tbl := xt_in (xt_t2 (List.mem_of_getElem? (i := 28) (by decide +kernel))) (by decide +kernel)
set_option maxRecDepth 100000 in
def T_Machine_finish : List (Nat × Instr × Nat) := [(0, .aload_n 0, 1), (1, .lload_n 1, 1), (2, .putfield 126, 3), (5, .aload_n 0, 1), (6, .iconst 0, 1), (7, .putfield 46, 3), (10, .aload_n 0, 1), (11, .iconst 0, 1), (12, .putfield 50, 3), (15, .return_, 1)]
theorem D_Machine_finish : ∀ q ∈ T_Machine_finish, decode b_Machine_finish q.1 = .ok (q.2.1, q.2.2) := by decide +kernel

set_option maxHeartbeats 4000000 in
set_option maxRecDepth 100000 in
theorem ok_Machine_finish (l : Launch) (hfl : l.flags = pinnedFlags ++ [noTraceFlag]) (D : va_G) (A : Nat → Prop) (σ : Nat) (x0 : Nat) (x1 : Int64) (h : xb_H) (Qr : xb_H → Prop) (hw : w_Machine_finish x0 x1 h Qr) : xb_Met l y_Machine_finish [.code y_Machine_finish b_Machine_finish 3 none] (xb_rm 2 0 0) (xb_Pc D A σ h [.ref x0, .long x1]) (xb_Qc D A h 0 0 (fun v h _ _ => v = none ∧ Qr h) (fun _ _ _ _ => False)) A := by
  refine xb_ofAm (cc := b_Machine_finish) (by decide) (Nat.le_of_ble_eq_true rfl) ?_
  unfold w_Machine_finish at hw
  show xb_am l D A σ 2 0 0 h (fun v h _ _ => v = none ∧ Qr h) (fun _ _ _ _ => False) y_Machine_finish.cls y_Machine_finish.name b_Machine_finish 3 ([] : List ExceptionTableEntry) none 0 [(0, .ref x0), (1, .long x1)] [] h 0 0
  obtain ⟨MC, hMC⟩ : ∃ x, x = 0 := ⟨_, rfl⟩
  obtain ⟨MS, hMS⟩ : ∃ x, x = 0 := ⟨_, rfl⟩
  rw [show xb_am l D A σ 2 0 0 = xb_am l D A σ 2 MC MS by rw [hMC, hMS]]
  obtain ⟨h0, hh0⟩ : ∃ x, x = h := ⟨_, rfl⟩
  rw [show xb_am l D A σ 2 MC MS h = xb_am l D A σ 2 MC MS h0 by rw [hh0]]
  intro p e s m args below meth c hC H locs ls k n hE hl hR hS hk hn
  obtain ⟨hx, hb, hown, hlocks, htab, hml, hr, hB, hA, hnm⟩ := id hC
  have hts := hB.1.1.at args
  refine lv_aload_n hx hb (xb_d D_Machine_finish 0 rfl) rfl (lv_at hl 0 rfl) ?_
  refine lv_lload_n hx hb (xb_d D_Machine_finish 1 rfl) rfl (lv_at hl 1 rfl) ?_
  obtain ⟨hk1, hw⟩ := hw
  refine xb_putL (C := R_Machine) (T := F_Machine) (N := 18) (ty := .long) (x := x1) hx hb 7 5 hts fin_Machine t_Machine t_Machine_ok n_Machine hown hR hS hk1 (by decide) rfl (by decide) rfl (hts _ m_1a79dca6) (fun _ h9 => h9) rfl (by decide +kernel) rfl rfl (xb_d D_Machine_finish 2 rfl) (fun H locs hR hS => ?_)
  obtain ⟨h2, eh2⟩ : ∃ x : xb_H, x = xb_L h x0 5 x1 := ⟨_, rfl⟩
  rw [← eh2] at hR
  have hw := hw h2 eh2
  have hE : xb_ext h0 h2 := by rw [eh2]; exact hE
  refine lv_aload_n hx hb (xb_d D_Machine_finish 3 rfl) rfl (lv_at hl 0 rfl) ?_
  refine lv_iconst (v := 0) hx hb (xb_d D_Machine_finish 4 rfl) (by decide) ?_
  have hk1 : xb_k h2 x0 = 8 := by rw [eh2]; exact hk1
  refine xb_putI (C := R_Machine) (T := F_Machine) (N := 18) (ty := .boolean) (x := 0) hx hb 7 3 hts fin_Machine t_Machine t_Machine_ok n_Machine hown hR hS hk1 (by decide) rfl (by decide) rfl (hts _ m_87cf9501) (fun _ h9 => h9) rfl (by decide +kernel) (by decide) (by decide) (xb_d D_Machine_finish 5 rfl) (fun H locs hR hS => ?_)
  obtain ⟨h3, eh3⟩ : ∃ x : xb_H, x = xb_I h2 x0 3 0 := ⟨_, rfl⟩
  rw [← eh3] at hR
  have hw := hw h3 eh3
  have hE : xb_ext h0 h3 := by rw [eh3]; exact hE
  refine lv_aload_n hx hb (xb_d D_Machine_finish 6 rfl) rfl (lv_at hl 0 rfl) ?_
  refine lv_iconst (v := 0) hx hb (xb_d D_Machine_finish 7 rfl) (by decide) ?_
  have hk1 : xb_k h3 x0 = 8 := by rw [eh3]; exact hk1
  refine xb_putI (C := R_Machine) (T := F_Machine) (N := 18) (ty := .int) (x := 0) hx hb 7 4 hts fin_Machine t_Machine t_Machine_ok n_Machine hown hR hS hk1 (by decide) rfl (by decide) rfl (hts _ m_61f414b6) (fun _ h9 => h9) rfl (by decide +kernel) rfl rfl (xb_d D_Machine_finish 8 rfl) (fun H locs hR hS => ?_)
  obtain ⟨h4, eh4⟩ : ∃ x : xb_H, x = xb_I h3 x0 4 0 := ⟨_, rfl⟩
  rw [← eh4] at hR
  have hw := hw h4 eh4
  have hE : xb_ext h0 h4 := by rw [eh4]; exact hE
  exact xb_vret 0 0 hx hb hr hlocks (show k + 0 ≤ MC by omega) (show n + 0 ≤ MS by omega) hE hR hS (xb_d D_Machine_finish 9 rfl) hw

set_option maxRecDepth 100000 in
def T_Machine_giveUp : List (Nat × Instr × Nat) := [(0, .aload_n 0, 1), (1, .getfield 50, 3), (4, .istore_n 1, 1), (5, .aload_n 0, 1), (6, .iconst 0, 1), (7, .putfield 46, 3), (10, .aload_n 0, 1), (11, .iconst 0, 1), (12, .putfield 50, 3), (15, .iload_n 1, 1), (16, .ireturn, 1)]
theorem D_Machine_giveUp : ∀ q ∈ T_Machine_giveUp, decode b_Machine_giveUp q.1 = .ok (q.2.1, q.2.2) := by decide +kernel

set_option maxHeartbeats 4000000 in
set_option maxRecDepth 100000 in
theorem ok_Machine_giveUp (l : Launch) (hfl : l.flags = pinnedFlags ++ [noTraceFlag]) (D : va_G) (A : Nat → Prop) (σ : Nat) (x0 : Nat) (h : xb_H) (Qr : Int32 → xb_H → Prop) (hw : w_Machine_giveUp x0 h Qr) : xb_Met l y_Machine_giveUp [.code y_Machine_giveUp b_Machine_giveUp 2 (some .int)] (xb_rm 2 0 0) (xb_Pc D A σ h [.ref x0]) (xb_Qc D A h 0 0 (fun v h _ _ => ∃ r, v = some (.int r) ∧ Qr r h) (fun _ _ _ _ => False)) A := by
  refine xb_ofAm (cc := b_Machine_giveUp) (by decide) (Nat.le_of_ble_eq_true rfl) ?_
  unfold w_Machine_giveUp at hw
  show xb_am l D A σ 2 0 0 h (fun v h _ _ => ∃ r, v = some (.int r) ∧ Qr r h) (fun _ _ _ _ => False) y_Machine_giveUp.cls y_Machine_giveUp.name b_Machine_giveUp 2 ([] : List ExceptionTableEntry) (some .int) 0 [(0, .ref x0)] [] h 0 0
  obtain ⟨MC, hMC⟩ : ∃ x, x = 0 := ⟨_, rfl⟩
  obtain ⟨MS, hMS⟩ : ∃ x, x = 0 := ⟨_, rfl⟩
  rw [show xb_am l D A σ 2 0 0 = xb_am l D A σ 2 MC MS by rw [hMC, hMS]]
  obtain ⟨h0, hh0⟩ : ∃ x, x = h := ⟨_, rfl⟩
  rw [show xb_am l D A σ 2 MC MS h = xb_am l D A σ 2 MC MS h0 by rw [hh0]]
  intro p e s m args below meth c hC H locs ls k n hE hl hR hS hk hn
  obtain ⟨hx, hb, hown, hlocks, htab, hml, hr, hB, hA, hnm⟩ := id hC
  have hts := hB.1.1.at args
  refine lv_aload_n hx hb (xb_d D_Machine_giveUp 0 rfl) rfl (lv_at hl 0 rfl) ?_
  obtain ⟨hk1, hw⟩ := hw
  refine xb_getI (C := R_Machine) (T := F_Machine) (N := 18) hx hb 7 4 hts fin_Machine hown hR hk1 (by decide) rfl (by decide) rfl (hts _ m_61f414b6) (fun _ h9 => h9) (xb_d D_Machine_giveUp 1 rfl) ?_
  obtain ⟨v2, ev2⟩ : ∃ x : Int32, x = (xb_i h x0 4) := ⟨_, rfl⟩
  have hw := hw v2 ev2
  refine xt_numi (y := v2) ev2.symm ?_
  refine lv_istore_n hx hb (xb_d D_Machine_giveUp 2 rfl) rfl hl (by decide) rfl (fun ls hl => ?_)
  have hl : lv_has ls 2 [(1, .int v2), (0, .ref x0)] := hl
  refine lv_aload_n hx hb (xb_d D_Machine_giveUp 3 rfl) rfl (lv_at hl 1 rfl) ?_
  refine lv_iconst (v := 0) hx hb (xb_d D_Machine_giveUp 4 rfl) (by decide) ?_
  refine xb_putI (C := R_Machine) (T := F_Machine) (N := 18) (ty := .boolean) (x := 0) hx hb 7 3 hts fin_Machine t_Machine t_Machine_ok n_Machine hown hR hS hk1 (by decide) rfl (by decide) rfl (hts _ m_87cf9501) (fun _ h9 => h9) rfl (by decide +kernel) (by decide) (by decide) (xb_d D_Machine_giveUp 5 rfl) (fun H locs hR hS => ?_)
  obtain ⟨h3, eh3⟩ : ∃ x : xb_H, x = xb_I h x0 3 0 := ⟨_, rfl⟩
  rw [← eh3] at hR
  have hw := hw h3 eh3
  have hE : xb_ext h0 h3 := by rw [eh3]; exact hE
  refine lv_aload_n hx hb (xb_d D_Machine_giveUp 6 rfl) rfl (lv_at hl 1 rfl) ?_
  refine lv_iconst (v := 0) hx hb (xb_d D_Machine_giveUp 7 rfl) (by decide) ?_
  have hk1 : xb_k h3 x0 = 8 := by rw [eh3]; exact hk1
  refine xb_putI (C := R_Machine) (T := F_Machine) (N := 18) (ty := .int) (x := 0) hx hb 7 4 hts fin_Machine t_Machine t_Machine_ok n_Machine hown hR hS hk1 (by decide) rfl (by decide) rfl (hts _ m_61f414b6) (fun _ h9 => h9) rfl (by decide +kernel) rfl rfl (xb_d D_Machine_giveUp 8 rfl) (fun H locs hR hS => ?_)
  obtain ⟨h4, eh4⟩ : ∃ x : xb_H, x = xb_I h3 x0 4 0 := ⟨_, rfl⟩
  rw [← eh4] at hR
  have hw := hw h4 eh4
  have hE : xb_ext h0 h4 := by rw [eh4]; exact hE
  refine lv_iload_n hx hb (xb_d D_Machine_giveUp 9 rfl) rfl (lv_at hl 0 rfl) ?_
  exact xb_iret 0 0 hx hb hr hlocks (show k + 0 ≤ MC by omega) (show n + 0 ≤ MS by omega) hE hR hS (xb_d D_Machine_giveUp 10 rfl) hw

set_option maxRecDepth 100000 in
def T_Machine_putValue : List (Nat × Instr × Nat) := [(0, .aload_n 0, 1), (1, .getfield 35, 3), (4, .aload_n 0, 1), (5, .getfield 53, 3), (8, .lload_n 1, 1), (9, .lastore, 1), (10, .aload_n 0, 1), (11, .dup, 1), (12, .getfield 53, 3), (15, .iconst 1, 1), (16, .iadd, 1), (17, .putfield 53, 3), (20, .return_, 1)]
theorem D_Machine_putValue : ∀ q ∈ T_Machine_putValue, decode b_Machine_putValue q.1 = .ok (q.2.1, q.2.2) := by decide +kernel

set_option maxHeartbeats 4000000 in
set_option maxRecDepth 100000 in
theorem ok_Machine_putValue (l : Launch) (hfl : l.flags = pinnedFlags ++ [noTraceFlag]) (D : va_G) (A : Nat → Prop) (σ : Nat) (x0 : Nat) (x1 : Int64) (h : xb_H) (Qr : xb_H → Prop) (hw : w_Machine_putValue x0 x1 h Qr) : xb_Met l y_Machine_putValue [.code y_Machine_putValue b_Machine_putValue 3 none] (xb_rm 2 0 0) (xb_Pc D A σ h [.ref x0, .long x1]) (xb_Qc D A h 0 0 (fun v h _ _ => v = none ∧ Qr h) (fun _ _ _ _ => False)) A := by
  refine xb_ofAm (cc := b_Machine_putValue) (by decide) (Nat.le_of_ble_eq_true rfl) ?_
  unfold w_Machine_putValue at hw
  show xb_am l D A σ 2 0 0 h (fun v h _ _ => v = none ∧ Qr h) (fun _ _ _ _ => False) y_Machine_putValue.cls y_Machine_putValue.name b_Machine_putValue 3 ([] : List ExceptionTableEntry) none 0 [(0, .ref x0), (1, .long x1)] [] h 0 0
  obtain ⟨MC, hMC⟩ : ∃ x, x = 0 := ⟨_, rfl⟩
  obtain ⟨MS, hMS⟩ : ∃ x, x = 0 := ⟨_, rfl⟩
  rw [show xb_am l D A σ 2 0 0 = xb_am l D A σ 2 MC MS by rw [hMC, hMS]]
  obtain ⟨h0, hh0⟩ : ∃ x, x = h := ⟨_, rfl⟩
  rw [show xb_am l D A σ 2 MC MS h = xb_am l D A σ 2 MC MS h0 by rw [hh0]]
  intro p e s m args below meth c hC H locs ls k n hE hl hR hS hk hn
  obtain ⟨hx, hb, hown, hlocks, htab, hml, hr, hB, hA, hnm⟩ := id hC
  have hts := hB.1.1.at args
  refine lv_aload_n hx hb (xb_d D_Machine_putValue 0 rfl) rfl (lv_at hl 0 rfl) ?_
  obtain ⟨hk1, hw⟩ := hw
  refine xb_getP (C := R_Machine) (T := F_Machine) (N := 18) hx hb 7 9 hts fin_Machine hown hR hk1 (by decide) rfl (by decide) rfl (hts _ m_6904195b) (fun _ h9 => h9) (xb_d D_Machine_putValue 1 rfl) ?_
  obtain ⟨b2, eb2, hw⟩ := hw
  refine xb_some eb2 ?_
  refine lv_aload_n hx hb (xb_d D_Machine_putValue 2 rfl) rfl (lv_at hl 0 rfl) ?_
  refine xb_getI (C := R_Machine) (T := F_Machine) (N := 18) hx hb 7 10 hts fin_Machine hown hR hk1 (by decide) rfl (by decide) rfl (hts _ m_79cf62f6) (fun _ h9 => h9) (xb_d D_Machine_putValue 3 rfl) ?_
  refine lv_lload_n hx hb (xb_d D_Machine_putValue 4 rfl) rfl (lv_at hl 1 rfl) ?_
  obtain ⟨hk3, hw⟩ := hw
  obtain ⟨hi4, hw⟩ := hw
  refine xb_last hx hb hR hS hk3 hi4 (xb_d D_Machine_putValue 5 rfl) (fun H locs hR hS => ?_)
  obtain ⟨h5, eh5⟩ : ∃ x : xb_H, x = xb_L h b2 (Int32.toNatClampNeg (xb_i h x0 10)) x1 := ⟨_, rfl⟩
  rw [← eh5] at hR
  have hw := hw h5 eh5
  have hE : xb_ext h0 h5 := by rw [eh5]; exact hE
  refine lv_aload_n hx hb (xb_d D_Machine_putValue 6 rfl) rfl (lv_at hl 0 rfl) ?_
  refine lv_dup hx hb (xb_d D_Machine_putValue 7 rfl) rfl ?_
  have hk1 : xb_k h5 x0 = 8 := by rw [eh5]; exact hk1
  refine xb_getI (C := R_Machine) (T := F_Machine) (N := 18) hx hb 7 10 hts fin_Machine hown hR hk1 (by decide) rfl (by decide) rfl (hts _ m_79cf62f6) (fun _ h9 => h9) (xb_d D_Machine_putValue 8 rfl) ?_
  refine lv_iconst (v := 1) hx hb (xb_d D_Machine_putValue 9 rfl) (by decide) ?_
  refine lv_iadd hx hb (xb_d D_Machine_putValue 10 rfl) ?_
  refine xb_putI (C := R_Machine) (T := F_Machine) (N := 18) (ty := .int) (x := ((xb_i h5 x0 10) + 1)) hx hb 7 10 hts fin_Machine t_Machine t_Machine_ok n_Machine hown hR hS hk1 (by decide) rfl (by decide) rfl (hts _ m_79cf62f6) (fun _ h9 => h9) rfl (by decide +kernel) rfl rfl (xb_d D_Machine_putValue 11 rfl) (fun H locs hR hS => ?_)
  obtain ⟨h6, eh6⟩ : ∃ x : xb_H, x = xb_I h5 x0 10 ((xb_i h5 x0 10) + 1) := ⟨_, rfl⟩
  rw [← eh6] at hR
  have hw := hw h6 eh6
  have hE : xb_ext h0 h6 := by rw [eh6]; exact hE
  exact xb_vret 0 0 hx hb hr hlocks (show k + 0 ≤ MC by omega) (show n + 0 ≤ MS by omega) hE hR hS (xb_d D_Machine_putValue 12 rfl) hw

theorem m_2b0551dd : (.constantLong "StackHost$Machine" 74 4294967295 : Cond) ∈ xt_tbl := xt_in (xt_t7 (List.mem_of_getElem? (i := 192) (by decide +kernel))) (by decide +kernel)
set_option maxRecDepth 100000 in
def T_Machine_widened : List (Nat × Instr × Nat) := [(0, .iload_n 0, 1), (1, .tableswitch 83 44 52 #[51, 83, 60, 83, 69, 83, 74, 83, 79], 51), (52, .lload_n 1, 1), (53, .l2i, 1), (54, .i2b, 1), (55, .i2l, 1), (56, .ldc2_w 74, 3), (59, .land, 1), (60, .lreturn, 1), (61, .lload_n 1, 1), (62, .l2i, 1), (63, .i2s, 1), (64, .i2l, 1), (65, .ldc2_w 74, 3), (68, .land, 1), (69, .lreturn, 1), (70, .lload_n 1, 1), (71, .l2i, 1), (72, .i2b, 1), (73, .i2l, 1), (74, .lreturn, 1), (75, .lload_n 1, 1), (76, .l2i, 1), (77, .i2s, 1), (78, .i2l, 1), (79, .lreturn, 1), (80, .lload_n 1, 1), (81, .l2i, 1), (82, .i2l, 1), (83, .lreturn, 1), (84, .lload_n 1, 1), (85, .lreturn, 1)]
theorem D_Machine_widened : ∀ q ∈ T_Machine_widened, decode b_Machine_widened q.1 = .ok (q.2.1, q.2.2) := by decide +kernel

set_option maxHeartbeats 4000000 in
set_option maxRecDepth 100000 in
theorem am_Machine_widened_L84 (l : Launch) (hfl : l.flags = pinnedFlags ++ [noTraceFlag]) (D : va_G) (A : Nat → Prop) (σ MC MS : Nat) (h0 : xb_H) (Qr : Int64 → xb_H → Prop) (x1 : Int64) (h : xb_H) (hw : w_Machine_widened_L84 Qr x1 h) : xb_am l D A σ 2 MC MS h0 (fun v h _ _ => ∃ r, v = some (.long r) ∧ Qr r h) (fun _ _ _ _ => False) y_Machine_widened.cls y_Machine_widened.name b_Machine_widened 3 ([] : List ExceptionTableEntry) (some .long) 84 [(1, .long x1)] [] h 0 0 := by
  unfold w_Machine_widened_L84 at hw
  intro p e s m args below meth c hC H locs ls k n hE hl hR hS hk hn
  obtain ⟨hx, hb, hown, hlocks, htab, hml, hr, hB, hA, hnm⟩ := id hC
  have hts := hB.1.1.at args
  refine lv_lload_n hx hb (xb_d D_Machine_widened 30 rfl) rfl (lv_at hl 0 rfl) ?_
  exact xb_lret 0 0 hx hb hr hlocks (show k + 0 ≤ MC by omega) (show n + 0 ≤ MS by omega) hE hR hS (xb_d D_Machine_widened 31 rfl) hw

set_option maxHeartbeats 4000000 in
set_option maxRecDepth 100000 in
theorem ok_Machine_widened (l : Launch) (hfl : l.flags = pinnedFlags ++ [noTraceFlag]) (D : va_G) (A : Nat → Prop) (σ : Nat) (x0 : Int32) (x1 : Int64) (h : xb_H) (Qr : Int64 → xb_H → Prop) (hw : w_Machine_widened x0 x1 h Qr) : xb_Met l y_Machine_widened [.code y_Machine_widened b_Machine_widened 3 (some .long)] (xb_rm 2 0 0) (xb_Pc D A σ h [.int x0, .long x1]) (xb_Qc D A h 0 0 (fun v h _ _ => ∃ r, v = some (.long r) ∧ Qr r h) (fun _ _ _ _ => False)) A := by
  refine xb_ofAm (cc := b_Machine_widened) (by decide) (Nat.le_of_ble_eq_true rfl) ?_
  unfold w_Machine_widened at hw
  show xb_am l D A σ 2 0 0 h (fun v h _ _ => ∃ r, v = some (.long r) ∧ Qr r h) (fun _ _ _ _ => False) y_Machine_widened.cls y_Machine_widened.name b_Machine_widened 3 ([] : List ExceptionTableEntry) (some .long) 0 [(0, .int x0), (1, .long x1)] [] h 0 0
  obtain ⟨MC, hMC⟩ : ∃ x, x = 0 := ⟨_, rfl⟩
  obtain ⟨MS, hMS⟩ : ∃ x, x = 0 := ⟨_, rfl⟩
  rw [show xb_am l D A σ 2 0 0 = xb_am l D A σ 2 MC MS by rw [hMC, hMS]]
  obtain ⟨h0, hh0⟩ : ∃ x, x = h := ⟨_, rfl⟩
  rw [show xb_am l D A σ 2 MC MS h = xb_am l D A σ 2 MC MS h0 by rw [hh0]]
  intro p e s m args below meth c hC H locs ls k n hE hl hR hS hk hn
  obtain ⟨hx, hb, hown, hlocks, htab, hml, hr, hB, hA, hnm⟩ := id hC
  have hts := hB.1.1.at args
  refine lv_iload_n hx hb (xb_d D_Machine_widened 0 rfl) rfl (lv_at hl 0 rfl) ?_
  by_cases hc1 : x0 = 44
  · have hw := hw.1 hc1
    refine xt_numi hc1 ?_
    refine lv_tableIn (off := 51) (tgt := 52) hx hb (xb_d D_Machine_widened 1 rfl) (by decide +kernel) (by decide +kernel) (by decide +kernel) (by decide) ?_
    refine lv_lload_n hx hb (xb_d D_Machine_widened 2 rfl) rfl (lv_at hl 1 rfl) ?_
    refine lv_l2i hx hb (xb_d D_Machine_widened 3 rfl) rfl ?_
    refine lv_i2b hx hb (xb_d D_Machine_widened 4 rfl) rfl ?_
    refine lv_i2l hx hb (xb_d D_Machine_widened 5 rfl) rfl ?_
    refine lv_ldc2 (v := 4294967295) hx hb hown (hts _ m_2b0551dd) (xb_d D_Machine_widened 6 rfl) ?_
    refine lv_land hx hb (xb_d D_Machine_widened 7 rfl) ?_
    exact xb_lret 0 0 hx hb hr hlocks (show k + 0 ≤ MC by omega) (show n + 0 ≤ MS by omega) hE hR hS (xb_d D_Machine_widened 8 rfl) hw
  have hw := hw.2
  by_cases hc2 : x0 = 45
  · have hw := hw.1 hc2
    refine xt_numi hc2 ?_
    refine lv_tableIn (off := 83) (tgt := 84) hx hb (xb_d D_Machine_widened 1 rfl) (by decide +kernel) (by decide +kernel) (by decide +kernel) (by decide) ?_
    exact am_Machine_widened_L84 l hfl D A σ MC MS h0 Qr x1 h hw p e s m args below meth c hC H locs ls k n hE (lv_sub hl [1] rfl) hR hS (by omega) (by omega)
  have hw := hw.2
  by_cases hc3 : x0 = 46
  · have hw := hw.1 hc3
    refine xt_numi hc3 ?_
    refine lv_tableIn (off := 60) (tgt := 61) hx hb (xb_d D_Machine_widened 1 rfl) (by decide +kernel) (by decide +kernel) (by decide +kernel) (by decide) ?_
    refine lv_lload_n hx hb (xb_d D_Machine_widened 9 rfl) rfl (lv_at hl 1 rfl) ?_
    refine lv_l2i hx hb (xb_d D_Machine_widened 10 rfl) rfl ?_
    refine lv_i2s hx hb (xb_d D_Machine_widened 11 rfl) rfl ?_
    refine lv_i2l hx hb (xb_d D_Machine_widened 12 rfl) rfl ?_
    refine lv_ldc2 (v := 4294967295) hx hb hown (hts _ m_2b0551dd) (xb_d D_Machine_widened 13 rfl) ?_
    refine lv_land hx hb (xb_d D_Machine_widened 14 rfl) ?_
    exact xb_lret 0 0 hx hb hr hlocks (show k + 0 ≤ MC by omega) (show n + 0 ≤ MS by omega) hE hR hS (xb_d D_Machine_widened 15 rfl) hw
  have hw := hw.2
  by_cases hc4 : x0 = 47
  · have hw := hw.1 hc4
    refine xt_numi hc4 ?_
    refine lv_tableIn (off := 83) (tgt := 84) hx hb (xb_d D_Machine_widened 1 rfl) (by decide +kernel) (by decide +kernel) (by decide +kernel) (by decide) ?_
    exact am_Machine_widened_L84 l hfl D A σ MC MS h0 Qr x1 h hw p e s m args below meth c hC H locs ls k n hE (lv_sub hl [1] rfl) hR hS (by omega) (by omega)
  have hw := hw.2
  by_cases hc5 : x0 = 48
  · have hw := hw.1 hc5
    refine xt_numi hc5 ?_
    refine lv_tableIn (off := 69) (tgt := 70) hx hb (xb_d D_Machine_widened 1 rfl) (by decide +kernel) (by decide +kernel) (by decide +kernel) (by decide) ?_
    refine lv_lload_n hx hb (xb_d D_Machine_widened 16 rfl) rfl (lv_at hl 1 rfl) ?_
    refine lv_l2i hx hb (xb_d D_Machine_widened 17 rfl) rfl ?_
    refine lv_i2b hx hb (xb_d D_Machine_widened 18 rfl) rfl ?_
    refine lv_i2l hx hb (xb_d D_Machine_widened 19 rfl) rfl ?_
    exact xb_lret 0 0 hx hb hr hlocks (show k + 0 ≤ MC by omega) (show n + 0 ≤ MS by omega) hE hR hS (xb_d D_Machine_widened 20 rfl) hw
  have hw := hw.2
  by_cases hc6 : x0 = 49
  · have hw := hw.1 hc6
    refine xt_numi hc6 ?_
    refine lv_tableIn (off := 83) (tgt := 84) hx hb (xb_d D_Machine_widened 1 rfl) (by decide +kernel) (by decide +kernel) (by decide +kernel) (by decide) ?_
    exact am_Machine_widened_L84 l hfl D A σ MC MS h0 Qr x1 h hw p e s m args below meth c hC H locs ls k n hE (lv_sub hl [1] rfl) hR hS (by omega) (by omega)
  have hw := hw.2
  by_cases hc7 : x0 = 50
  · have hw := hw.1 hc7
    refine xt_numi hc7 ?_
    refine lv_tableIn (off := 74) (tgt := 75) hx hb (xb_d D_Machine_widened 1 rfl) (by decide +kernel) (by decide +kernel) (by decide +kernel) (by decide) ?_
    refine lv_lload_n hx hb (xb_d D_Machine_widened 21 rfl) rfl (lv_at hl 1 rfl) ?_
    refine lv_l2i hx hb (xb_d D_Machine_widened 22 rfl) rfl ?_
    refine lv_i2s hx hb (xb_d D_Machine_widened 23 rfl) rfl ?_
    refine lv_i2l hx hb (xb_d D_Machine_widened 24 rfl) rfl ?_
    exact xb_lret 0 0 hx hb hr hlocks (show k + 0 ≤ MC by omega) (show n + 0 ≤ MS by omega) hE hR hS (xb_d D_Machine_widened 25 rfl) hw
  have hw := hw.2
  by_cases hc8 : x0 = 51
  · have hw := hw.1 hc8
    refine xt_numi hc8 ?_
    refine lv_tableIn (off := 83) (tgt := 84) hx hb (xb_d D_Machine_widened 1 rfl) (by decide +kernel) (by decide +kernel) (by decide +kernel) (by decide) ?_
    exact am_Machine_widened_L84 l hfl D A σ MC MS h0 Qr x1 h hw p e s m args below meth c hC H locs ls k n hE (lv_sub hl [1] rfl) hR hS (by omega) (by omega)
  have hw := hw.2
  by_cases hc9 : x0 = 52
  · have hw := hw.1 hc9
    refine xt_numi hc9 ?_
    refine lv_tableIn (off := 79) (tgt := 80) hx hb (xb_d D_Machine_widened 1 rfl) (by decide +kernel) (by decide +kernel) (by decide +kernel) (by decide) ?_
    refine lv_lload_n hx hb (xb_d D_Machine_widened 26 rfl) rfl (lv_at hl 1 rfl) ?_
    refine lv_l2i hx hb (xb_d D_Machine_widened 27 rfl) rfl ?_
    refine lv_i2l hx hb (xb_d D_Machine_widened 28 rfl) rfl ?_
    exact xb_lret 0 0 hx hb hr hlocks (show k + 0 ≤ MC by omega) (show n + 0 ≤ MS by omega) hE hR hS (xb_d D_Machine_widened 29 rfl) hw
  have hw := hw.2
  have hw := hw hc1 hc2 hc3 hc4 hc5 hc6 hc7 hc8 hc9
  refine lv_tableOut (tgt := 84) hx hb (xb_d D_Machine_widened 1 rfl) (by have a0 := xb_nl (44) 44 (by decide) hc1; have a1 := xb_nl (45) 45 (by decide) hc2; have a2 := xb_nl (46) 46 (by decide) hc3; have a3 := xb_nl (47) 47 (by decide) hc4; have a4 := xb_nl (48) 48 (by decide) hc5; have a5 := xb_nl (49) 49 (by decide) hc6; have a6 := xb_nl (50) 50 (by decide) hc7; have a7 := xb_nl (51) 51 (by decide) hc8; have a8 := xb_nl (52) 52 (by decide) hc9; omega) (by decide) ?_
  exact am_Machine_widened_L84 l hfl D A σ MC MS h0 Qr x1 h hw p e s m args below meth c hC H locs ls k n hE (lv_sub hl [1] rfl) hR hS (by omega) (by omega)

theorem m_81e7bfba : (.methodLink "StackHost$Memory" 3 objectInit : Cond) ∈ xt_tbl := xt_in (xt_t7 (List.mem_of_getElem? (i := 72) (by decide +kernel))) (by decide +kernel)
theorem m_56a50a6f : (.fieldLink "StackHost$Memory" 9 "StackHost$Memory" "slots" "[I" : Cond) ∈ xt_tbl := xt_in (xt_t7 (List.mem_of_getElem? (i := 76) (by decide +kernel))) (by decide +kernel)
theorem m_2e5685af : (.fieldLink "StackHost$Memory" 15 "StackHost$Memory" "words" "LStackHost$Row;" : Cond) ∈ xt_tbl := xt_in (xt_t7 (List.mem_of_getElem? (i := 73) (by decide +kernel))) (by decide +kernel)
theorem m_4e6a3ead : (.fieldLink "StackHost$Memory" 19 "StackHost$Memory" "most" "J" : Cond) ∈ xt_tbl := xt_in (xt_t7 (List.mem_of_getElem? (i := 74) (by decide +kernel))) (by decide +kernel)
set_option maxRecDepth 100000 in
def T_Memory_init : List (Nat × Instr × Nat) := [(0, .aload_n 0, 1), (1, .invokespecial 3, 3), (4, .aload_n 0, 1), (5, .bipush 16, 2), (7, .newarray .int, 2), (9, .putfield 9, 3), (12, .aload_n 0, 1), (13, .aload_n 1, 1), (14, .putfield 15, 3), (17, .aload_n 0, 1), (18, .lload_n 2, 1), (19, .putfield 19, 3), (22, .return_, 1)]
theorem D_Memory_init : ∀ q ∈ T_Memory_init, decode b_Memory_init q.1 = .ok (q.2.1, q.2.2) := by decide +kernel

set_option maxHeartbeats 4000000 in
set_option maxRecDepth 100000 in
theorem ok_Memory_init (l : Launch) (hfl : l.flags = pinnedFlags ++ [noTraceFlag]) (D : va_G) (A : Nat → Prop) (σ : Nat) (x0 : Nat) (x1 : Nat) (x2 : Int64) (h : xb_H) (bc : Nat) (bs : Nat) (Qr : xb_H → Nat → Nat → Prop) (hw : w_Memory_init x0 x1 x2 h bc bs Qr) : xb_Met l y_Memory_init [.code y_Memory_init b_Memory_init 4 none] (xb_rm 2 bc bs) (xb_Pc D A σ h [.ref x0, .ref x1, .long x2]) (xb_Qc D A h bc bs (fun v h bc bs => v = none ∧ Qr h bc bs) (fun _ _ _ _ => False)) A := by
  refine xb_ofAm (cc := b_Memory_init) (by decide) (Nat.le_of_ble_eq_true rfl) ?_
  unfold w_Memory_init at hw
  show xb_am l D A σ 2 bc bs h (fun v h bc bs => v = none ∧ Qr h bc bs) (fun _ _ _ _ => False) y_Memory_init.cls y_Memory_init.name b_Memory_init 4 ([] : List ExceptionTableEntry) none 0 [(0, .ref x0), (1, .ref x1), (2, .long x2)] [] h bc bs
  obtain ⟨MC, hMC⟩ : ∃ x, x = bc := ⟨_, rfl⟩
  obtain ⟨MS, hMS⟩ : ∃ x, x = bs := ⟨_, rfl⟩
  rw [show xb_am l D A σ 2 bc bs = xb_am l D A σ 2 MC MS by rw [hMC, hMS]]
  obtain ⟨h0, hh0⟩ : ∃ x, x = h := ⟨_, rfl⟩
  rw [show xb_am l D A σ 2 MC MS h = xb_am l D A σ 2 MC MS h0 by rw [hh0]]
  intro p e s m args below meth c hC H locs ls k n hE hl hR hS hk hn
  obtain ⟨hx, hb, hown, hlocks, htab, hml, hr, hB, hA, hnm⟩ := id hC
  have hts := hB.1.1.at args
  refine lv_aload_n hx hb (xb_d D_Memory_init 0 rfl) rfl (lv_at hl 0 rfl) ?_
  refine W.objInit hx hb hown (hts _ m_81e7bfba) (hts _ m_fba9d542) (hts _ m_9febdb7e) rfl (hml.trans hl.1.symm).symm rfl (xb_d D_Memory_init 1 rfl) (by show 1 ≤ 8 + _; omega) (Nat.le_trans (Nat.le_of_ble_eq_true rfl : _ ≤ 40) (by show 40 ≤ 120 + _; omega)) ?_
  refine W.eq (g2 := F0 m 4 ls []) rfl ?_
  refine lv_aload_n hx hb (xb_d D_Memory_init 2 rfl) rfl (lv_at hl 0 rfl) ?_
  refine lv_bipush (v := 16) hx hb (xb_d D_Memory_init 3 rfl) (by decide) ?_
  obtain ⟨hcq1, hsq1, hw⟩ := hw
  have enq1 : (16 : Int32).toNatClampNeg = 16 := by decide
  refine xb_newa_i hx hb (hts _ m_d160d5ac) hR hS hA (by decide) (by decide +kernel) (show k + 1 ≤ MC by omega) (show n + _ ≤ MS by rw [enq1]; omega) (xb_d D_Memory_init 4 rfl) (fun q1 H hqq1 hR hS => ?_)
  rw [enq1] at hR ⊢
  have hw := hw q1 hqq1
  obtain ⟨h2, eh2⟩ : ∃ x : xb_H, x = xb_new h q1 102 16 := ⟨_, rfl⟩
  rw [← eh2] at hR
  have hw := hw h2 eh2
  have hE : xb_ext h0 h2 := by rw [eh2]; exact hE.new _ _ hqq1
  have hk3 : xb_k h2 q1 = 102 := by rw [eh2]; exact xb_new_k _ _ _ _
  obtain ⟨hk4, hw⟩ := hw
  refine xb_putPF (C := R_Memory) (T := F_Memory) (N := 4) (ty := .array .int) (x := (some q1)) hx hb 12 2 hts fin_Memory t_Memory t_Memory_ok n_Memory hown hR hS hk4 (by decide) rfl (by decide) rfl (hts _ m_56a50a6f) (fun _ h9 => h9) rfl hnm rfl (by decide +kernel) (xb_pnA _ _).1 (xb_pnA _ _).2 (xb_d D_Memory_init 5 rfl) (fun H locs hR hS => ?_)
  obtain ⟨h5, eh5⟩ : ∃ x : xb_H, x = xb_P h2 x0 2 (some q1) := ⟨_, rfl⟩
  rw [← eh5] at hR
  have hw := hw h5 eh5
  have hE : xb_ext h0 h5 := by rw [eh5]; exact hE
  refine lv_aload_n hx hb (xb_d D_Memory_init 6 rfl) rfl (lv_at hl 0 rfl) ?_
  refine lv_aload_n hx hb (xb_d D_Memory_init 7 rfl) rfl (lv_at hl 1 rfl) ?_
  have hk4 : xb_k h5 x0 = 13 := by rw [eh5]; exact hk4
  refine xb_putPF (C := R_Memory) (T := F_Memory) (N := 4) (ty := .object "StackHost$Row") (x := (some x1)) hx hb 12 0 hts fin_Memory t_Memory t_Memory_ok n_Memory hown hR hS hk4 (by decide) rfl (by decide) rfl (hts _ m_2e5685af) (fun _ h9 => h9) rfl hnm rfl (by decide +kernel) (xb_pnO _ _).1 (xb_pnO _ _).2 (xb_d D_Memory_init 8 rfl) (fun H locs hR hS => ?_)
  obtain ⟨h6, eh6⟩ : ∃ x : xb_H, x = xb_P h5 x0 0 (some x1) := ⟨_, rfl⟩
  rw [← eh6] at hR
  have hw := hw h6 eh6
  have hE : xb_ext h0 h6 := by rw [eh6]; exact hE
  refine lv_aload_n hx hb (xb_d D_Memory_init 9 rfl) rfl (lv_at hl 0 rfl) ?_
  refine lv_lload_n hx hb (xb_d D_Memory_init 10 rfl) rfl (lv_at hl 2 rfl) ?_
  have hk4 : xb_k h6 x0 = 13 := by rw [eh6]; exact hk4
  refine xb_putLF (C := R_Memory) (T := F_Memory) (N := 4) (ty := .long) (x := x2) hx hb 12 1 hts fin_Memory t_Memory t_Memory_ok n_Memory hown hR hS hk4 (by decide) rfl (by decide) rfl (hts _ m_4e6a3ead) (fun _ h9 => h9) rfl hnm rfl (by decide +kernel) rfl rfl (xb_d D_Memory_init 11 rfl) (fun H locs hR hS => ?_)
  obtain ⟨h7, eh7⟩ : ∃ x : xb_H, x = xb_L h6 x0 1 x2 := ⟨_, rfl⟩
  rw [← eh7] at hR
  have hw := hw h7 eh7
  have hE : xb_ext h0 h7 := by rw [eh7]; exact hE
  exact xb_vret (bc - 1) (bs - 16) hx hb hr hlocks (show (k + 1) + (bc - 1) ≤ MC by omega) (show (n + 16) + (bs - 16) ≤ MS by omega) hE hR hS (xb_d D_Memory_init 12 rfl) hw

theorem m_862d66b2 : (.fieldLink "StackHost$Memory" 23 "StackHost$Memory" "pageCount" "I" : Cond) ∈ xt_tbl := xt_in (xt_t7 (List.mem_of_getElem? (i := 78) (by decide +kernel))) (by decide +kernel)
theorem m_3b4331e6 : (.constant "StackHost$Memory" 27 65536 : Cond) ∈ xt_tbl := xt_in (xt_t6 (List.mem_of_getElem? (i := 228) (by decide +kernel))) (by decide +kernel)
set_option maxRecDepth 100000 in
def T_Memory_bytes : List (Nat × Instr × Nat) := [(0, .aload_n 0, 1), (1, .getfield 23, 3), (4, .ldc 27, 2), (6, .imul, 1), (7, .ireturn, 1)]
theorem D_Memory_bytes : ∀ q ∈ T_Memory_bytes, decode b_Memory_bytes q.1 = .ok (q.2.1, q.2.2) := by decide +kernel

set_option maxHeartbeats 4000000 in
set_option maxRecDepth 100000 in
theorem ok_Memory_bytes (l : Launch) (hfl : l.flags = pinnedFlags ++ [noTraceFlag]) (D : va_G) (A : Nat → Prop) (σ : Nat) (x0 : Nat) (h : xb_H) (Qr : Int32 → xb_H → Prop) (hw : w_Memory_bytes x0 h Qr) : xb_Met l y_Memory_bytes [.code y_Memory_bytes b_Memory_bytes 1 (some .int)] (xb_rm 2 0 0) (xb_Pc D A σ h [.ref x0]) (xb_Qc D A h 0 0 (fun v h _ _ => ∃ r, v = some (.int r) ∧ Qr r h) (fun _ _ _ _ => False)) A := by
  refine xb_ofAm (cc := b_Memory_bytes) (by decide) (Nat.le_of_ble_eq_true rfl) ?_
  unfold w_Memory_bytes at hw
  show xb_am l D A σ 2 0 0 h (fun v h _ _ => ∃ r, v = some (.int r) ∧ Qr r h) (fun _ _ _ _ => False) y_Memory_bytes.cls y_Memory_bytes.name b_Memory_bytes 1 ([] : List ExceptionTableEntry) (some .int) 0 [(0, .ref x0)] [] h 0 0
  obtain ⟨MC, hMC⟩ : ∃ x, x = 0 := ⟨_, rfl⟩
  obtain ⟨MS, hMS⟩ : ∃ x, x = 0 := ⟨_, rfl⟩
  rw [show xb_am l D A σ 2 0 0 = xb_am l D A σ 2 MC MS by rw [hMC, hMS]]
  obtain ⟨h0, hh0⟩ : ∃ x, x = h := ⟨_, rfl⟩
  rw [show xb_am l D A σ 2 MC MS h = xb_am l D A σ 2 MC MS h0 by rw [hh0]]
  intro p e s m args below meth c hC H locs ls k n hE hl hR hS hk hn
  obtain ⟨hx, hb, hown, hlocks, htab, hml, hr, hB, hA, hnm⟩ := id hC
  have hts := hB.1.1.at args
  refine lv_aload_n hx hb (xb_d D_Memory_bytes 0 rfl) rfl (lv_at hl 0 rfl) ?_
  obtain ⟨hk1, hw⟩ := hw
  refine xb_getI (C := R_Memory) (T := F_Memory) (N := 4) hx hb 12 3 hts fin_Memory hown hR hk1 (by decide) rfl (by decide) rfl (hts _ m_862d66b2) (fun _ h9 => h9) (xb_d D_Memory_bytes 1 rfl) ?_
  refine lv_ldc (v := 65536) hx hb hown (hts _ m_3b4331e6) (xb_d D_Memory_bytes 2 rfl) ?_
  refine lv_imul hx hb (xb_d D_Memory_bytes 3 rfl) ?_
  exact xb_iret 0 0 hx hb hr hlocks (show k + 0 ≤ MC by omega) (show n + 0 ≤ MS by omega) hE hR hS (xb_d D_Memory_bytes 4 rfl) hw

theorem m_63fbcb17 : (.constant "StackHost$Memory" 28 65535 : Cond) ∈ xt_tbl := xt_in (xt_t7 (List.mem_of_getElem? (i := 112) (by decide +kernel))) (by decide +kernel)
set_option maxRecDepth 100000 in
def T_Memory_wordOf : List (Nat × Instr × Nat) := [(0, .aload_n 0, 1), (1, .getfield 9, 3), (4, .iload_n 1, 1), (5, .bipush 16, 2), (7, .iushr, 1), (8, .iaload, 1), (9, .sipush 8192, 3), (12, .imul, 1), (13, .iload_n 1, 1), (14, .ldc 28, 2), (16, .iand, 1), (17, .iconst 3, 1), (18, .iushr, 1), (19, .iadd, 1), (20, .ireturn, 1)]
theorem D_Memory_wordOf : ∀ q ∈ T_Memory_wordOf, decode b_Memory_wordOf q.1 = .ok (q.2.1, q.2.2) := by decide +kernel

set_option maxHeartbeats 4000000 in
set_option maxRecDepth 100000 in
theorem ok_Memory_wordOf (l : Launch) (hfl : l.flags = pinnedFlags ++ [noTraceFlag]) (D : va_G) (A : Nat → Prop) (σ : Nat) (x0 : Nat) (x1 : Int32) (h : xb_H) (Qr : Int32 → xb_H → Prop) (hw : w_Memory_wordOf x0 x1 h Qr) : xb_Met l y_Memory_wordOf [.code y_Memory_wordOf b_Memory_wordOf 2 (some .int)] (xb_rm 2 0 0) (xb_Pc D A σ h [.ref x0, .int x1]) (xb_Qc D A h 0 0 (fun v h _ _ => ∃ r, v = some (.int r) ∧ Qr r h) (fun _ _ _ _ => False)) A := by
  refine xb_ofAm (cc := b_Memory_wordOf) (by decide) (Nat.le_of_ble_eq_true rfl) ?_
  unfold w_Memory_wordOf at hw
  show xb_am l D A σ 2 0 0 h (fun v h _ _ => ∃ r, v = some (.int r) ∧ Qr r h) (fun _ _ _ _ => False) y_Memory_wordOf.cls y_Memory_wordOf.name b_Memory_wordOf 2 ([] : List ExceptionTableEntry) (some .int) 0 [(0, .ref x0), (1, .int x1)] [] h 0 0
  obtain ⟨MC, hMC⟩ : ∃ x, x = 0 := ⟨_, rfl⟩
  obtain ⟨MS, hMS⟩ : ∃ x, x = 0 := ⟨_, rfl⟩
  rw [show xb_am l D A σ 2 0 0 = xb_am l D A σ 2 MC MS by rw [hMC, hMS]]
  obtain ⟨h0, hh0⟩ : ∃ x, x = h := ⟨_, rfl⟩
  rw [show xb_am l D A σ 2 MC MS h = xb_am l D A σ 2 MC MS h0 by rw [hh0]]
  intro p e s m args below meth c hC H locs ls k n hE hl hR hS hk hn
  obtain ⟨hx, hb, hown, hlocks, htab, hml, hr, hB, hA, hnm⟩ := id hC
  have hts := hB.1.1.at args
  refine lv_aload_n hx hb (xb_d D_Memory_wordOf 0 rfl) rfl (lv_at hl 0 rfl) ?_
  obtain ⟨hk1, hw⟩ := hw
  refine xb_getP (C := R_Memory) (T := F_Memory) (N := 4) hx hb 12 2 hts fin_Memory hown hR hk1 (by decide) rfl (by decide) rfl (hts _ m_56a50a6f) (fun _ h9 => h9) (xb_d D_Memory_wordOf 1 rfl) ?_
  obtain ⟨b2, eb2, hw⟩ := hw
  refine xb_some eb2 ?_
  refine lv_iload_n hx hb (xb_d D_Memory_wordOf 2 rfl) rfl (lv_at hl 1 rfl) ?_
  refine lv_bipush (v := 16) hx hb (xb_d D_Memory_wordOf 3 rfl) (by decide) ?_
  refine lv_iushr (v := xb_ushr x1 16) hx hb (xb_d D_Memory_wordOf 4 rfl) rfl ?_
  obtain ⟨hk4, hw⟩ := hw
  obtain ⟨hi3, hw⟩ := hw
  refine xb_iald hx hb hR hk4 hi3 (xb_d D_Memory_wordOf 5 rfl) ?_
  refine lv_sipush (v := 8192) hx hb (xb_d D_Memory_wordOf 6 rfl) (by decide) ?_
  refine lv_imul hx hb (xb_d D_Memory_wordOf 7 rfl) ?_
  refine lv_iload_n hx hb (xb_d D_Memory_wordOf 8 rfl) rfl (lv_at hl 1 rfl) ?_
  refine lv_ldc (v := 65535) hx hb hown (hts _ m_63fbcb17) (xb_d D_Memory_wordOf 9 rfl) ?_
  refine lv_iand hx hb (xb_d D_Memory_wordOf 10 rfl) ?_
  refine lv_iconst (v := 3) hx hb (xb_d D_Memory_wordOf 11 rfl) (by decide) ?_
  refine lv_iushr (v := xb_ushr (x1 &&& 65535) 3) hx hb (xb_d D_Memory_wordOf 12 rfl) rfl ?_
  refine lv_iadd hx hb (xb_d D_Memory_wordOf 13 rfl) ?_
  exact xb_iret 0 0 hx hb hr hlocks (show k + 0 ≤ MC by omega) (show n + 0 ≤ MS by omega) hE hR hS (xb_d D_Memory_wordOf 14 rfl) hw

theorem m_fd6399d7 : (.methodLink "StackHost$Reader" 3 objectInit : Cond) ∈ xt_tbl := xt_in (xt_t1 (List.mem_of_getElem? (i := 49) (by decide +kernel))) (by decide +kernel)
theorem m_59e07c6d : (.fieldLink "StackHost$Reader" 9 "StackHost$Reader" "opened" "[I" : Cond) ∈ xt_tbl := xt_in (xt_t1 (List.mem_of_getElem? (i := 55) (by decide +kernel))) (by decide +kernel)
set_option maxRecDepth 100000 in
def T_Reader_init : List (Nat × Instr × Nat) := [(0, .aload_n 0, 1), (1, .invokespecial 3, 3), (4, .aload_n 0, 1), (5, .sipush 200, 3), (8, .newarray .int, 2), (10, .putfield 9, 3), (13, .return_, 1)]
theorem D_Reader_init : ∀ q ∈ T_Reader_init, decode b_Reader_init q.1 = .ok (q.2.1, q.2.2) := by decide +kernel

set_option maxHeartbeats 4000000 in
set_option maxRecDepth 100000 in
theorem ok_Reader_init (l : Launch) (hfl : l.flags = pinnedFlags ++ [noTraceFlag]) (D : va_G) (A : Nat → Prop) (σ : Nat) (x0 : Nat) (h : xb_H) (bc : Nat) (bs : Nat) (Qr : xb_H → Nat → Nat → Prop) (hw : w_Reader_init x0 h bc bs Qr) : xb_Met l y_Reader_init [.code y_Reader_init b_Reader_init 1 none] (xb_rm 2 bc bs) (xb_Pc D A σ h [.ref x0]) (xb_Qc D A h bc bs (fun v h bc bs => v = none ∧ Qr h bc bs) (fun _ _ _ _ => False)) A := by
  refine xb_ofAm (cc := b_Reader_init) (by decide) (Nat.le_of_ble_eq_true rfl) ?_
  unfold w_Reader_init at hw
  show xb_am l D A σ 2 bc bs h (fun v h bc bs => v = none ∧ Qr h bc bs) (fun _ _ _ _ => False) y_Reader_init.cls y_Reader_init.name b_Reader_init 1 ([] : List ExceptionTableEntry) none 0 [(0, .ref x0)] [] h bc bs
  obtain ⟨MC, hMC⟩ : ∃ x, x = bc := ⟨_, rfl⟩
  obtain ⟨MS, hMS⟩ : ∃ x, x = bs := ⟨_, rfl⟩
  rw [show xb_am l D A σ 2 bc bs = xb_am l D A σ 2 MC MS by rw [hMC, hMS]]
  obtain ⟨h0, hh0⟩ : ∃ x, x = h := ⟨_, rfl⟩
  rw [show xb_am l D A σ 2 MC MS h = xb_am l D A σ 2 MC MS h0 by rw [hh0]]
  intro p e s m args below meth c hC H locs ls k n hE hl hR hS hk hn
  obtain ⟨hx, hb, hown, hlocks, htab, hml, hr, hB, hA, hnm⟩ := id hC
  have hts := hB.1.1.at args
  refine lv_aload_n hx hb (xb_d D_Reader_init 0 rfl) rfl (lv_at hl 0 rfl) ?_
  refine W.objInit hx hb hown (hts _ m_fd6399d7) (hts _ m_fba9d542) (hts _ m_9febdb7e) rfl (hml.trans hl.1.symm).symm rfl (xb_d D_Reader_init 1 rfl) (by show 1 ≤ 8 + _; omega) (Nat.le_trans (Nat.le_of_ble_eq_true rfl : _ ≤ 40) (by show 40 ≤ 120 + _; omega)) ?_
  refine W.eq (g2 := F0 m 4 ls []) rfl ?_
  refine lv_aload_n hx hb (xb_d D_Reader_init 2 rfl) rfl (lv_at hl 0 rfl) ?_
  refine lv_sipush (v := 200) hx hb (xb_d D_Reader_init 3 rfl) (by decide) ?_
  obtain ⟨hcq1, hsq1, hw⟩ := hw
  have enq1 : (200 : Int32).toNatClampNeg = 200 := by decide
  refine xb_newa_i hx hb (hts _ m_d160d5ac) hR hS hA (by decide) (by decide +kernel) (show k + 1 ≤ MC by omega) (show n + _ ≤ MS by rw [enq1]; omega) (xb_d D_Reader_init 4 rfl) (fun q1 H hqq1 hR hS => ?_)
  rw [enq1] at hR ⊢
  have hw := hw q1 hqq1
  obtain ⟨h2, eh2⟩ : ∃ x : xb_H, x = xb_new h q1 102 200 := ⟨_, rfl⟩
  rw [← eh2] at hR
  have hw := hw h2 eh2
  have hE : xb_ext h0 h2 := by rw [eh2]; exact hE.new _ _ hqq1
  have hk3 : xb_k h2 q1 = 102 := by rw [eh2]; exact xb_new_k _ _ _ _
  obtain ⟨hk4, hw⟩ := hw
  refine xb_putPF (C := R_Reader) (T := F_Reader) (N := 6) (ty := .array .int) (x := (some q1)) hx hb 3 5 hts fin_Reader t_Reader t_Reader_ok n_Reader hown hR hS hk4 (by decide) rfl (by decide) rfl (hts _ m_59e07c6d) (fun _ h9 => h9) rfl hnm rfl (by decide +kernel) (xb_pnA _ _).1 (xb_pnA _ _).2 (xb_d D_Reader_init 5 rfl) (fun H locs hR hS => ?_)
  obtain ⟨h5, eh5⟩ : ∃ x : xb_H, x = xb_P h2 x0 5 (some q1) := ⟨_, rfl⟩
  rw [← eh5] at hR
  have hw := hw h5 eh5
  have hE : xb_ext h0 h5 := by rw [eh5]; exact hE
  exact xb_vret (bc - 1) (bs - 200) hx hb hr hlocks (show (k + 1) + (bc - 1) ≤ MC by omega) (show (n + 200) + (bs - 200) ≤ MS by omega) hE hR hS (xb_d D_Reader_init 6 rfl) hw

set_option maxRecDepth 100000 in
def T_Reader_endsSigned : List (Nat × Instr × Nat) := [(0, .iload_n 1, 1), (1, .iconst 5, 1), (2, .if_icmp .ne 27, 3), (5, .iload_n 0, 1), (6, .bipush 7, 2), (8, .if_icmp .le 15, 3), (11, .iload_n 0, 1), (12, .bipush 120, 2), (14, .if_icmp .lt 13, 3), (17, .iload_n 0, 1), (18, .bipush 127, 2), (20, .if_icmp .gt 7, 3), (23, .iconst 1, 1), (24, .goto 4, 3), (27, .iconst 0, 1), (28, .ireturn, 1), (29, .iload_n 0, 1), (30, .ifCond .eq 9, 3), (33, .iload_n 0, 1), (34, .bipush 127, 2), (36, .if_icmp .ne 7, 3), (39, .iconst 1, 1), (40, .goto 4, 3), (43, .iconst 0, 1), (44, .ireturn, 1)]
theorem D_Reader_endsSigned : ∀ q ∈ T_Reader_endsSigned, decode b_Reader_endsSigned q.1 = .ok (q.2.1, q.2.2) := by decide +kernel

set_option maxHeartbeats 4000000 in
set_option maxRecDepth 100000 in
theorem am_Reader_endsSigned_L44 (l : Launch) (hfl : l.flags = pinnedFlags ++ [noTraceFlag]) (D : va_G) (A : Nat → Prop) (σ MC MS : Nat) (h0 : xb_H) (Qr : Int32 → xb_H → Prop) (y0 : Int32) (h : xb_H) (hw : w_Reader_endsSigned_L44 Qr y0 h) : xb_am l D A σ 2 MC MS h0 (fun v h _ _ => ∃ r, v = some (.int r) ∧ Qr r h) (fun _ _ _ _ => False) y_Reader_endsSigned.cls y_Reader_endsSigned.name b_Reader_endsSigned 2 ([] : List ExceptionTableEntry) (some .boolean) 44 [] [.int y0] h 0 0 := by
  unfold w_Reader_endsSigned_L44 at hw
  intro p e s m args below meth c hC H locs ls k n hE hl hR hS hk hn
  obtain ⟨hx, hb, hown, hlocks, htab, hml, hr, hB, hA, hnm⟩ := id hC
  have hts := hB.1.1.at args
  exact xb_zret 0 0 hx hb hr hlocks (show k + 0 ≤ MC by omega) (show n + 0 ≤ MS by omega) hw.1 hE hR hS (xb_d D_Reader_endsSigned 24 rfl) hw.2

set_option maxHeartbeats 4000000 in
set_option maxRecDepth 100000 in
theorem am_Reader_endsSigned_L39 (l : Launch) (hfl : l.flags = pinnedFlags ++ [noTraceFlag]) (D : va_G) (A : Nat → Prop) (σ MC MS : Nat) (h0 : xb_H) (Qr : Int32 → xb_H → Prop) (h : xb_H) (hw : w_Reader_endsSigned_L39 Qr h) : xb_am l D A σ 2 MC MS h0 (fun v h _ _ => ∃ r, v = some (.int r) ∧ Qr r h) (fun _ _ _ _ => False) y_Reader_endsSigned.cls y_Reader_endsSigned.name b_Reader_endsSigned 2 ([] : List ExceptionTableEntry) (some .boolean) 39 [] [] h 0 0 := by
  unfold w_Reader_endsSigned_L39 at hw
  intro p e s m args below meth c hC H locs ls k n hE hl hR hS hk hn
  obtain ⟨hx, hb, hown, hlocks, htab, hml, hr, hB, hA, hnm⟩ := id hC
  have hts := hB.1.1.at args
  refine lv_iconst (v := 1) hx hb (xb_d D_Reader_endsSigned 21 rfl) (by decide) ?_
  refine lv_goto (tgt := 44) hx hb (xb_d D_Reader_endsSigned 22 rfl) rfl ?_
  exact am_Reader_endsSigned_L44 l hfl D A σ MC MS h0 Qr 1 h hw p e s m args below meth c hC H locs ls k n hE (lv_sub hl [] rfl) hR hS (by omega) (by omega)

set_option maxHeartbeats 4000000 in
set_option maxRecDepth 100000 in
theorem am_Reader_endsSigned_L28 (l : Launch) (hfl : l.flags = pinnedFlags ++ [noTraceFlag]) (D : va_G) (A : Nat → Prop) (σ MC MS : Nat) (h0 : xb_H) (Qr : Int32 → xb_H → Prop) (y0 : Int32) (h : xb_H) (hw : w_Reader_endsSigned_L28 Qr y0 h) : xb_am l D A σ 2 MC MS h0 (fun v h _ _ => ∃ r, v = some (.int r) ∧ Qr r h) (fun _ _ _ _ => False) y_Reader_endsSigned.cls y_Reader_endsSigned.name b_Reader_endsSigned 2 ([] : List ExceptionTableEntry) (some .boolean) 28 [] [.int y0] h 0 0 := by
  unfold w_Reader_endsSigned_L28 at hw
  intro p e s m args below meth c hC H locs ls k n hE hl hR hS hk hn
  obtain ⟨hx, hb, hown, hlocks, htab, hml, hr, hB, hA, hnm⟩ := id hC
  have hts := hB.1.1.at args
  exact xb_zret 0 0 hx hb hr hlocks (show k + 0 ≤ MC by omega) (show n + 0 ≤ MS by omega) hw.1 hE hR hS (xb_d D_Reader_endsSigned 15 rfl) hw.2

set_option maxHeartbeats 4000000 in
set_option maxRecDepth 100000 in
theorem am_Reader_endsSigned_L27 (l : Launch) (hfl : l.flags = pinnedFlags ++ [noTraceFlag]) (D : va_G) (A : Nat → Prop) (σ MC MS : Nat) (h0 : xb_H) (Qr : Int32 → xb_H → Prop) (h : xb_H) (hw : w_Reader_endsSigned_L27 Qr h) : xb_am l D A σ 2 MC MS h0 (fun v h _ _ => ∃ r, v = some (.int r) ∧ Qr r h) (fun _ _ _ _ => False) y_Reader_endsSigned.cls y_Reader_endsSigned.name b_Reader_endsSigned 2 ([] : List ExceptionTableEntry) (some .boolean) 27 [] [] h 0 0 := by
  unfold w_Reader_endsSigned_L27 at hw
  intro p e s m args below meth c hC H locs ls k n hE hl hR hS hk hn
  obtain ⟨hx, hb, hown, hlocks, htab, hml, hr, hB, hA, hnm⟩ := id hC
  have hts := hB.1.1.at args
  refine lv_iconst (v := 0) hx hb (xb_d D_Reader_endsSigned 14 rfl) (by decide) ?_
  exact am_Reader_endsSigned_L28 l hfl D A σ MC MS h0 Qr 0 h hw p e s m args below meth c hC H locs ls k n hE (lv_sub hl [] rfl) hR hS (by omega) (by omega)

set_option maxHeartbeats 4000000 in
set_option maxRecDepth 100000 in
theorem am_Reader_endsSigned_L23 (l : Launch) (hfl : l.flags = pinnedFlags ++ [noTraceFlag]) (D : va_G) (A : Nat → Prop) (σ MC MS : Nat) (h0 : xb_H) (Qr : Int32 → xb_H → Prop) (h : xb_H) (hw : w_Reader_endsSigned_L23 Qr h) : xb_am l D A σ 2 MC MS h0 (fun v h _ _ => ∃ r, v = some (.int r) ∧ Qr r h) (fun _ _ _ _ => False) y_Reader_endsSigned.cls y_Reader_endsSigned.name b_Reader_endsSigned 2 ([] : List ExceptionTableEntry) (some .boolean) 23 [] [] h 0 0 := by
  unfold w_Reader_endsSigned_L23 at hw
  intro p e s m args below meth c hC H locs ls k n hE hl hR hS hk hn
  obtain ⟨hx, hb, hown, hlocks, htab, hml, hr, hB, hA, hnm⟩ := id hC
  have hts := hB.1.1.at args
  refine lv_iconst (v := 1) hx hb (xb_d D_Reader_endsSigned 12 rfl) (by decide) ?_
  refine lv_goto (tgt := 28) hx hb (xb_d D_Reader_endsSigned 13 rfl) rfl ?_
  exact am_Reader_endsSigned_L28 l hfl D A σ MC MS h0 Qr 1 h hw p e s m args below meth c hC H locs ls k n hE (lv_sub hl [] rfl) hR hS (by omega) (by omega)

set_option maxHeartbeats 4000000 in
set_option maxRecDepth 100000 in
theorem ok_Reader_endsSigned (l : Launch) (hfl : l.flags = pinnedFlags ++ [noTraceFlag]) (D : va_G) (A : Nat → Prop) (σ : Nat) (x0 : Int32) (x1 : Int32) (h : xb_H) (Qr : Int32 → xb_H → Prop) (hw : w_Reader_endsSigned x0 x1 h Qr) : xb_Met l y_Reader_endsSigned [.code y_Reader_endsSigned b_Reader_endsSigned 2 (some .boolean)] (xb_rm 2 0 0) (xb_Pc D A σ h [.int x0, .int x1]) (xb_Qc D A h 0 0 (fun v h _ _ => ∃ r, v = some (.int r) ∧ Qr r h) (fun _ _ _ _ => False)) A := by
  refine xb_ofAm (cc := b_Reader_endsSigned) (by decide) (Nat.le_of_ble_eq_true rfl) ?_
  unfold w_Reader_endsSigned at hw
  show xb_am l D A σ 2 0 0 h (fun v h _ _ => ∃ r, v = some (.int r) ∧ Qr r h) (fun _ _ _ _ => False) y_Reader_endsSigned.cls y_Reader_endsSigned.name b_Reader_endsSigned 2 ([] : List ExceptionTableEntry) (some .boolean) 0 [(0, .int x0), (1, .int x1)] [] h 0 0
  obtain ⟨MC, hMC⟩ : ∃ x, x = 0 := ⟨_, rfl⟩
  obtain ⟨MS, hMS⟩ : ∃ x, x = 0 := ⟨_, rfl⟩
  rw [show xb_am l D A σ 2 0 0 = xb_am l D A σ 2 MC MS by rw [hMC, hMS]]
  obtain ⟨h0, hh0⟩ : ∃ x, x = h := ⟨_, rfl⟩
  rw [show xb_am l D A σ 2 MC MS h = xb_am l D A σ 2 MC MS h0 by rw [hh0]]
  intro p e s m args below meth c hC H locs ls k n hE hl hR hS hk hn
  obtain ⟨hx, hb, hown, hlocks, htab, hml, hr, hB, hA, hnm⟩ := id hC
  have hts := hB.1.1.at args
  refine lv_iload_n hx hb (xb_d D_Reader_endsSigned 0 rfl) rfl (lv_at hl 1 rfl) ?_
  refine lv_iconst (v := 5) hx hb (xb_d D_Reader_endsSigned 1 rfl) (by decide) ?_
  refine lv_icmp_ne (tgt := 29) hx hb (xb_d D_Reader_endsSigned 2 rfl) rfl (fun hc1 => ?_) (fun hc1 => ?_)
  · have hw := hw.1 hc1
    refine lv_iload_n hx hb (xb_d D_Reader_endsSigned 16 rfl) rfl (lv_at hl 0 rfl) ?_
    refine lv_if_eq (tgt := 39) hx hb (xb_d D_Reader_endsSigned 17 rfl) rfl (fun hc2 => ?_) (fun hc2 => ?_)
    · have hw := hw.1 hc2
      exact am_Reader_endsSigned_L39 l hfl D A σ MC MS h0 Qr h hw p e s m args below meth c hC H locs ls k n hE (lv_sub hl [] rfl) hR hS (by omega) (by omega)
    · have hw := hw.2 hc2
      refine lv_iload_n hx hb (xb_d D_Reader_endsSigned 18 rfl) rfl (lv_at hl 0 rfl) ?_
      refine lv_bipush (v := 127) hx hb (xb_d D_Reader_endsSigned 19 rfl) (by decide) ?_
      refine lv_icmp_ne (tgt := 43) hx hb (xb_d D_Reader_endsSigned 20 rfl) rfl (fun hc3 => ?_) (fun hc3 => ?_)
      · have hw := hw.1 hc3
        refine lv_iconst (v := 0) hx hb (xb_d D_Reader_endsSigned 23 rfl) (by decide) ?_
        exact am_Reader_endsSigned_L44 l hfl D A σ MC MS h0 Qr 0 h hw p e s m args below meth c hC H locs ls k n hE (lv_sub hl [] rfl) hR hS (by omega) (by omega)
      · have hw := hw.2 hc3
        exact am_Reader_endsSigned_L39 l hfl D A σ MC MS h0 Qr h hw p e s m args below meth c hC H locs ls k n hE (lv_sub hl [] rfl) hR hS (by omega) (by omega)
  · have hw := hw.2 hc1
    refine lv_iload_n hx hb (xb_d D_Reader_endsSigned 3 rfl) rfl (lv_at hl 0 rfl) ?_
    refine lv_bipush (v := 7) hx hb (xb_d D_Reader_endsSigned 4 rfl) (by decide) ?_
    refine lv_icmp_le (tgt := 23) hx hb (xb_d D_Reader_endsSigned 5 rfl) rfl (fun hc4 => ?_) (fun hc4 => ?_)
    · have hw := hw.1 hc4
      exact am_Reader_endsSigned_L23 l hfl D A σ MC MS h0 Qr h hw p e s m args below meth c hC H locs ls k n hE (lv_sub hl [] rfl) hR hS (by omega) (by omega)
    · have hw := hw.2 hc4
      refine lv_iload_n hx hb (xb_d D_Reader_endsSigned 6 rfl) rfl (lv_at hl 0 rfl) ?_
      refine lv_bipush (v := 120) hx hb (xb_d D_Reader_endsSigned 7 rfl) (by decide) ?_
      refine lv_icmp_lt (tgt := 27) hx hb (xb_d D_Reader_endsSigned 8 rfl) rfl (fun hc5 => ?_) (fun hc5 => ?_)
      · have hw := hw.1 hc5
        exact am_Reader_endsSigned_L27 l hfl D A σ MC MS h0 Qr h hw p e s m args below meth c hC H locs ls k n hE (lv_sub hl [] rfl) hR hS (by omega) (by omega)
      · have hw := hw.2 hc5
        refine lv_iload_n hx hb (xb_d D_Reader_endsSigned 9 rfl) rfl (lv_at hl 0 rfl) ?_
        refine lv_bipush (v := 127) hx hb (xb_d D_Reader_endsSigned 10 rfl) (by decide) ?_
        refine lv_icmp_gt (tgt := 27) hx hb (xb_d D_Reader_endsSigned 11 rfl) rfl (fun hc6 => ?_) (fun hc6 => ?_)
        · have hw := hw.1 hc6
          exact am_Reader_endsSigned_L27 l hfl D A σ MC MS h0 Qr h hw p e s m args below meth c hC H locs ls k n hE (lv_sub hl [] rfl) hR hS (by omega) (by omega)
        · have hw := hw.2 hc6
          exact am_Reader_endsSigned_L23 l hfl D A σ MC MS h0 Qr h hw p e s m args below meth c hC H locs ls k n hE (lv_sub hl [] rfl) hR hS (by omega) (by omega)

theorem m_d1ba4be8 : (.fieldLink "StackHost$Reader" 25 "StackHost$Reader" "code" "[B" : Cond) ∈ xt_tbl := xt_in (xt_t1 (List.mem_of_getElem? (i := 51) (by decide +kernel))) (by decide +kernel)
set_option maxRecDepth 100000 in
def T_Reader_groupLength : List (Nat × Instr × Nat) := [(0, .aload_n 0, 1), (1, .getfield 25, 3), (4, .iload_n 1, 1), (5, .baload, 1), (6, .sipush 255, 3), (9, .iand, 1), (10, .istore_n 3, 1), (11, .iload_n 3, 1), (12, .sipush 128, 3), (15, .if_icmp .ge 5, 3), (18, .iconst 1, 1), (19, .ireturn, 1), (20, .iload_n 3, 1), (21, .sipush 224, 3), (24, .if_icmp .ge 7, 3), (27, .iconst 2, 1), (28, .goto 15, 3), (31, .iload_n 3, 1), (32, .sipush 240, 3), (35, .if_icmp .ge 7, 3), (38, .iconst 3, 1), (39, .goto 4, 3), (42, .iconst 4, 1), (43, .istore 4, 2), (45, .iload_n 3, 1), (46, .sipush 194, 3), (49, .if_icmp .lt 18, 3), (52, .iload_n 3, 1), (53, .sipush 244, 3), (56, .if_icmp .gt 11, 3), (59, .iload 4, 2), (61, .iload_n 2, 1), (62, .iload_n 1, 1), (63, .isub, 1), (64, .if_icmp .le 5, 3), (67, .iconst 0, 1), (68, .ireturn, 1), (69, .aload_n 0, 1), (70, .getfield 25, 3), (73, .iload_n 1, 1), (74, .iconst 1, 1), (75, .iadd, 1), (76, .baload, 1), (77, .sipush 255, 3), (80, .iand, 1), (81, .istore 5, 2), (83, .iload_n 3, 1), (84, .sipush 224, 3), (87, .if_icmp .ne 9, 3), (90, .sipush 160, 3), (93, .goto 19, 3), (96, .iload_n 3, 1), (97, .sipush 240, 3), (100, .if_icmp .ne 9, 3), (103, .sipush 144, 3), (106, .goto 6, 3), (109, .sipush 128, 3), (112, .istore 6, 2), (114, .iload_n 3, 1), (115, .sipush 237, 3), (118, .if_icmp .ne 9, 3), (121, .sipush 159, 3), (124, .goto 19, 3), (127, .iload_n 3, 1), (128, .sipush 244, 3), (131, .if_icmp .ne 9, 3), (134, .sipush 143, 3), (137, .goto 6, 3), (140, .sipush 191, 3), (143, .istore 7, 2), (145, .iload 5, 2), (147, .iload 6, 2), (149, .if_icmp .lt 10, 3), (152, .iload 5, 2), (154, .iload 7, 2), (156, .if_icmp .le 5, 3), (159, .iconst 0, 1), (160, .ireturn, 1), (161, .iconst 2, 1), (162, .istore 8, 2), (164, .iload 8, 2), (166, .iload 4, 2), (168, .if_icmp .ge 42, 3), (171, .aload_n 0, 1), (172, .getfield 25, 3), (175, .iload_n 1, 1), (176, .iload 8, 2), (178, .iadd, 1), (179, .baload, 1), (180, .sipush 255, 3), (183, .iand, 1), (184, .istore 9, 2), (186, .iload 9, 2), (188, .sipush 128, 3), (191, .if_icmp .lt 11, 3), (194, .iload 9, 2), (196, .sipush 191, 3), (199, .if_icmp .le 5, 3), (202, .iconst 0, 1), (203, .ireturn, 1), (204, .iinc 8 1, 3), (207, .goto (-43), 3), (210, .iload 4, 2), (212, .ireturn, 1)]
theorem D_Reader_groupLength : ∀ q ∈ T_Reader_groupLength, decode b_Reader_groupLength q.1 = .ok (q.2.1, q.2.2) := by decide +kernel

set_option maxHeartbeats 4000000 in
set_option maxRecDepth 100000 in
theorem am_Reader_groupLength_L202 (l : Launch) (hfl : l.flags = pinnedFlags ++ [noTraceFlag]) (D : va_G) (A : Nat → Prop) (σ MC MS : Nat) (h0 : xb_H) (Qr : Int32 → xb_H → Prop) (K164 : Nat → Int32 → Int32 → Int32 → xb_H → Prop) (hK164 : ∀ (x0 : Nat) (x1 : Int32) (x4 : Int32) (x8 : Int32) (h : xb_H), K164 x0 x1 x4 x8 h → xb_am l D A σ 2 MC MS h0 (fun v h _ _ => ∃ r, v = some (.int r) ∧ Qr r h) (fun _ _ _ _ => False) y_Reader_groupLength.cls y_Reader_groupLength.name b_Reader_groupLength 10 ([] : List ExceptionTableEntry) (some .int) 164 [(0, .ref x0), (1, .int x1), (4, .int x4), (8, .int x8)] [] h 0 0) (h : xb_H) (hw : w_Reader_groupLength_L202 K164 Qr h) : xb_am l D A σ 2 MC MS h0 (fun v h _ _ => ∃ r, v = some (.int r) ∧ Qr r h) (fun _ _ _ _ => False) y_Reader_groupLength.cls y_Reader_groupLength.name b_Reader_groupLength 10 ([] : List ExceptionTableEntry) (some .int) 202 [] [] h 0 0 := by
  unfold w_Reader_groupLength_L202 at hw
  intro p e s m args below meth c hC H locs ls k n hE hl hR hS hk hn
  obtain ⟨hx, hb, hown, hlocks, htab, hml, hr, hB, hA, hnm⟩ := id hC
  have hts := hB.1.1.at args
  refine lv_iconst (v := 0) hx hb (xb_d D_Reader_groupLength 98 rfl) (by decide) ?_
  exact xb_iret 0 0 hx hb hr hlocks (show k + 0 ≤ MC by omega) (show n + 0 ≤ MS by omega) hE hR hS (xb_d D_Reader_groupLength 99 rfl) hw

set_option maxHeartbeats 4000000 in
set_option maxRecDepth 100000 in
theorem am_Reader_groupLength_L164 (l : Launch) (hfl : l.flags = pinnedFlags ++ [noTraceFlag]) (D : va_G) (A : Nat → Prop) (σ MC MS : Nat) (h0 : xb_H) (Qr : Int32 → xb_H → Prop) (n9 : Nat) : ∀ (x0 : Nat) (x1 : Int32) (x4 : Int32) (x8 : Int32) (h : xb_H), w_Reader_groupLength_L164 Qr n9 x0 x1 x4 x8 h → xb_am l D A σ 2 MC MS h0 (fun v h _ _ => ∃ r, v = some (.int r) ∧ Qr r h) (fun _ _ _ _ => False) y_Reader_groupLength.cls y_Reader_groupLength.name b_Reader_groupLength 10 ([] : List ExceptionTableEntry) (some .int) 164 [(0, .ref x0), (1, .int x1), (4, .int x4), (8, .int x8)] [] h 0 0 := by
  induction n9 with
  | zero => intro x0 x1 x4 x8 h hw; exact False.elim hw
  | succ n9 ih =>
    intro x0 x1 x4 x8 h hw
    unfold w_Reader_groupLength_L164 at hw
    intro p e s m args below meth c hC H locs ls k n hE hl hR hS hk hn
    obtain ⟨hx, hb, hown, hlocks, htab, hml, hr, hB, hA, hnm⟩ := id hC
    have hts := hB.1.1.at args
    refine lv_iload hx hb (xb_d D_Reader_groupLength 80 rfl) (lv_at hl 3 rfl) ?_
    refine lv_iload hx hb (xb_d D_Reader_groupLength 81 rfl) (lv_at hl 2 rfl) ?_
    refine lv_icmp_ge (tgt := 210) hx hb (xb_d D_Reader_groupLength 82 rfl) rfl (fun hc1 => ?_) (fun hc1 => ?_)
    · have hw := hw.1 hc1
      refine lv_iload hx hb (xb_d D_Reader_groupLength 102 rfl) (lv_at hl 2 rfl) ?_
      exact xb_iret 0 0 hx hb hr hlocks (show k + 0 ≤ MC by omega) (show n + 0 ≤ MS by omega) hE hR hS (xb_d D_Reader_groupLength 103 rfl) hw
    · have hw := hw.2 hc1
      refine lv_aload_n hx hb (xb_d D_Reader_groupLength 83 rfl) rfl (lv_at hl 0 rfl) ?_
      obtain ⟨hk2, hw⟩ := hw
      refine xb_getP (C := R_Reader) (T := F_Reader) (N := 6) hx hb 3 1 hts fin_Reader hown hR hk2 (by decide) rfl (by decide) rfl (hts _ m_d1ba4be8) (fun _ h9 => h9) (xb_d D_Reader_groupLength 84 rfl) ?_
      obtain ⟨b3, eb3, hw⟩ := hw
      refine xb_some eb3 ?_
      refine lv_iload_n hx hb (xb_d D_Reader_groupLength 85 rfl) rfl (lv_at hl 1 rfl) ?_
      refine lv_iload hx hb (xb_d D_Reader_groupLength 86 rfl) (lv_at hl 3 rfl) ?_
      refine lv_iadd hx hb (xb_d D_Reader_groupLength 87 rfl) ?_
      obtain ⟨hk5, hw⟩ := hw
      obtain ⟨hi4, hw⟩ := hw
      refine xb_bald hx hb hR hk5 hi4 (xb_d D_Reader_groupLength 88 rfl) ?_
      refine lv_sipush (v := 255) hx hb (xb_d D_Reader_groupLength 89 rfl) (by decide) ?_
      refine lv_iand hx hb (xb_d D_Reader_groupLength 90 rfl) ?_
      obtain ⟨v6, ev6⟩ : ∃ x : Int32, x = ((xb_i h b3 (Int32.toNatClampNeg (x1 + x8))) &&& 255) := ⟨_, rfl⟩
      have hw := hw v6 ev6
      refine xt_numi (y := v6) ev6.symm ?_
      refine lv_istore hx hb (xb_d D_Reader_groupLength 91 rfl) hl (by decide) rfl (fun ls hl => ?_)
      have hl : lv_has ls 10 [(9, .int v6), (0, .ref x0), (1, .int x1), (4, .int x4), (8, .int x8)] := hl
      refine lv_iload hx hb (xb_d D_Reader_groupLength 92 rfl) (lv_at hl 0 rfl) ?_
      refine lv_sipush (v := 128) hx hb (xb_d D_Reader_groupLength 93 rfl) (by decide) ?_
      refine lv_icmp_lt (tgt := 202) hx hb (xb_d D_Reader_groupLength 94 rfl) rfl (fun hc7 => ?_) (fun hc7 => ?_)
      · have hw := hw.1 hc7
        exact am_Reader_groupLength_L202 l hfl D A σ MC MS h0 Qr (w_Reader_groupLength_L164 Qr n9) ih h hw p e s m args below meth c hC H locs ls k n hE (lv_sub hl [] rfl) hR hS (by omega) (by omega)
      · have hw := hw.2 hc7
        refine lv_iload hx hb (xb_d D_Reader_groupLength 95 rfl) (lv_at hl 0 rfl) ?_
        refine lv_sipush (v := 191) hx hb (xb_d D_Reader_groupLength 96 rfl) (by decide) ?_
        refine lv_icmp_le (tgt := 204) hx hb (xb_d D_Reader_groupLength 97 rfl) rfl (fun hc8 => ?_) (fun hc8 => ?_)
        · have hw := hw.1 hc8
          refine lv_iinc (v := (x8 + 1)) (k := 4) hx hb (xb_d D_Reader_groupLength 100 rfl) hl rfl (by first | rfl | decide) (by decide) rfl (fun ls hl => ?_)
          have hl : lv_has ls 10 [(8, .int (x8 + 1)), (9, .int v6), (0, .ref x0), (1, .int x1), (4, .int x4)] := hl
          refine lv_goto (tgt := 164) hx hb (xb_d D_Reader_groupLength 101 rfl) rfl ?_
          exact ih x0 x1 x4 (x8 + 1) h hw p e s m args below meth c hC H locs ls k n hE (lv_sub hl [2, 3, 4, 0] rfl) hR hS (by omega) (by omega)
        · have hw := hw.2 hc8
          exact am_Reader_groupLength_L202 l hfl D A σ MC MS h0 Qr (w_Reader_groupLength_L164 Qr n9) ih h hw p e s m args below meth c hC H locs ls k n hE (lv_sub hl [] rfl) hR hS (by omega) (by omega)

set_option maxHeartbeats 4000000 in
set_option maxRecDepth 100000 in
theorem am_Reader_groupLength_L159 (l : Launch) (hfl : l.flags = pinnedFlags ++ [noTraceFlag]) (D : va_G) (A : Nat → Prop) (σ MC MS : Nat) (h0 : xb_H) (Qr : Int32 → xb_H → Prop) (h : xb_H) (hw : w_Reader_groupLength_L159 Qr h) : xb_am l D A σ 2 MC MS h0 (fun v h _ _ => ∃ r, v = some (.int r) ∧ Qr r h) (fun _ _ _ _ => False) y_Reader_groupLength.cls y_Reader_groupLength.name b_Reader_groupLength 10 ([] : List ExceptionTableEntry) (some .int) 159 [] [] h 0 0 := by
  unfold w_Reader_groupLength_L159 at hw
  intro p e s m args below meth c hC H locs ls k n hE hl hR hS hk hn
  obtain ⟨hx, hb, hown, hlocks, htab, hml, hr, hB, hA, hnm⟩ := id hC
  have hts := hB.1.1.at args
  refine lv_iconst (v := 0) hx hb (xb_d D_Reader_groupLength 76 rfl) (by decide) ?_
  exact xb_iret 0 0 hx hb hr hlocks (show k + 0 ≤ MC by omega) (show n + 0 ≤ MS by omega) hE hR hS (xb_d D_Reader_groupLength 77 rfl) hw

set_option maxHeartbeats 4000000 in
set_option maxRecDepth 100000 in
theorem am_Reader_groupLength_L143 (l : Launch) (hfl : l.flags = pinnedFlags ++ [noTraceFlag]) (D : va_G) (A : Nat → Prop) (σ MC MS : Nat) (h0 : xb_H) (Qr : Int32 → xb_H → Prop) (x0 : Nat) (x1 : Int32) (x4 : Int32) (x5 : Int32) (x6 : Int32) (y0 : Int32) (h : xb_H) (hw : w_Reader_groupLength_L143 Qr x0 x1 x4 x5 x6 y0 h) : xb_am l D A σ 2 MC MS h0 (fun v h _ _ => ∃ r, v = some (.int r) ∧ Qr r h) (fun _ _ _ _ => False) y_Reader_groupLength.cls y_Reader_groupLength.name b_Reader_groupLength 10 ([] : List ExceptionTableEntry) (some .int) 143 [(0, .ref x0), (1, .int x1), (4, .int x4), (5, .int x5), (6, .int x6)] [.int y0] h 0 0 := by
  unfold w_Reader_groupLength_L143 at hw
  intro p e s m args below meth c hC H locs ls k n hE hl hR hS hk hn
  obtain ⟨hx, hb, hown, hlocks, htab, hml, hr, hB, hA, hnm⟩ := id hC
  have hts := hB.1.1.at args
  refine lv_istore hx hb (xb_d D_Reader_groupLength 69 rfl) hl (by decide) rfl (fun ls hl => ?_)
  have hl : lv_has ls 10 [(7, .int y0), (0, .ref x0), (1, .int x1), (4, .int x4), (5, .int x5), (6, .int x6)] := hl
  refine lv_iload hx hb (xb_d D_Reader_groupLength 70 rfl) (lv_at hl 4 rfl) ?_
  refine lv_iload hx hb (xb_d D_Reader_groupLength 71 rfl) (lv_at hl 5 rfl) ?_
  refine lv_icmp_lt (tgt := 159) hx hb (xb_d D_Reader_groupLength 72 rfl) rfl (fun hc1 => ?_) (fun hc1 => ?_)
  · have hw := hw.1 hc1
    exact am_Reader_groupLength_L159 l hfl D A σ MC MS h0 Qr h hw p e s m args below meth c hC H locs ls k n hE (lv_sub hl [] rfl) hR hS (by omega) (by omega)
  · have hw := hw.2 hc1
    refine lv_iload hx hb (xb_d D_Reader_groupLength 73 rfl) (lv_at hl 4 rfl) ?_
    refine lv_iload hx hb (xb_d D_Reader_groupLength 74 rfl) (lv_at hl 0 rfl) ?_
    refine lv_icmp_le (tgt := 161) hx hb (xb_d D_Reader_groupLength 75 rfl) rfl (fun hc2 => ?_) (fun hc2 => ?_)
    · have hw := hw.1 hc2
      refine lv_iconst (v := 2) hx hb (xb_d D_Reader_groupLength 78 rfl) (by decide) ?_
      refine lv_istore hx hb (xb_d D_Reader_groupLength 79 rfl) hl (by decide) rfl (fun ls hl => ?_)
      have hl : lv_has ls 10 [(8, .int 2), (7, .int y0), (0, .ref x0), (1, .int x1), (4, .int x4), (5, .int x5), (6, .int x6)] := hl
      obtain ⟨n8, hw⟩ := hw
      exact am_Reader_groupLength_L164 l hfl D A σ MC MS h0 Qr n8 x0 x1 x4 2 h hw p e s m args below meth c hC H locs ls k n hE (lv_sub hl [2, 3, 4, 0] rfl) hR hS (by omega) (by omega)
    · have hw := hw.2 hc2
      exact am_Reader_groupLength_L159 l hfl D A σ MC MS h0 Qr h hw p e s m args below meth c hC H locs ls k n hE (lv_sub hl [] rfl) hR hS (by omega) (by omega)

set_option maxHeartbeats 4000000 in
set_option maxRecDepth 100000 in
theorem am_Reader_groupLength_L112 (l : Launch) (hfl : l.flags = pinnedFlags ++ [noTraceFlag]) (D : va_G) (A : Nat → Prop) (σ MC MS : Nat) (h0 : xb_H) (Qr : Int32 → xb_H → Prop) (x0 : Nat) (x1 : Int32) (x3 : Int32) (x4 : Int32) (x5 : Int32) (y0 : Int32) (h : xb_H) (hw : w_Reader_groupLength_L112 Qr x0 x1 x3 x4 x5 y0 h) : xb_am l D A σ 2 MC MS h0 (fun v h _ _ => ∃ r, v = some (.int r) ∧ Qr r h) (fun _ _ _ _ => False) y_Reader_groupLength.cls y_Reader_groupLength.name b_Reader_groupLength 10 ([] : List ExceptionTableEntry) (some .int) 112 [(0, .ref x0), (1, .int x1), (3, .int x3), (4, .int x4), (5, .int x5)] [.int y0] h 0 0 := by
  unfold w_Reader_groupLength_L112 at hw
  intro p e s m args below meth c hC H locs ls k n hE hl hR hS hk hn
  obtain ⟨hx, hb, hown, hlocks, htab, hml, hr, hB, hA, hnm⟩ := id hC
  have hts := hB.1.1.at args
  refine lv_istore hx hb (xb_d D_Reader_groupLength 57 rfl) hl (by decide) rfl (fun ls hl => ?_)
  have hl : lv_has ls 10 [(6, .int y0), (0, .ref x0), (1, .int x1), (3, .int x3), (4, .int x4), (5, .int x5)] := hl
  refine lv_iload_n hx hb (xb_d D_Reader_groupLength 58 rfl) rfl (lv_at hl 3 rfl) ?_
  refine lv_sipush (v := 237) hx hb (xb_d D_Reader_groupLength 59 rfl) (by decide) ?_
  refine lv_icmp_ne (tgt := 127) hx hb (xb_d D_Reader_groupLength 60 rfl) rfl (fun hc1 => ?_) (fun hc1 => ?_)
  · have hw := hw.1 hc1
    refine lv_iload_n hx hb (xb_d D_Reader_groupLength 63 rfl) rfl (lv_at hl 3 rfl) ?_
    refine lv_sipush (v := 244) hx hb (xb_d D_Reader_groupLength 64 rfl) (by decide) ?_
    refine lv_icmp_ne (tgt := 140) hx hb (xb_d D_Reader_groupLength 65 rfl) rfl (fun hc2 => ?_) (fun hc2 => ?_)
    · have hw := hw.1 hc2
      refine lv_sipush (v := 191) hx hb (xb_d D_Reader_groupLength 68 rfl) (by decide) ?_
      exact am_Reader_groupLength_L143 l hfl D A σ MC MS h0 Qr x0 x1 x4 x5 y0 191 h hw p e s m args below meth c hC H locs ls k n hE (lv_sub hl [1, 2, 4, 5, 0] rfl) hR hS (by omega) (by omega)
    · have hw := hw.2 hc2
      refine lv_sipush (v := 143) hx hb (xb_d D_Reader_groupLength 66 rfl) (by decide) ?_
      refine lv_goto (tgt := 143) hx hb (xb_d D_Reader_groupLength 67 rfl) rfl ?_
      exact am_Reader_groupLength_L143 l hfl D A σ MC MS h0 Qr x0 x1 x4 x5 y0 143 h hw p e s m args below meth c hC H locs ls k n hE (lv_sub hl [1, 2, 4, 5, 0] rfl) hR hS (by omega) (by omega)
  · have hw := hw.2 hc1
    refine lv_sipush (v := 159) hx hb (xb_d D_Reader_groupLength 61 rfl) (by decide) ?_
    refine lv_goto (tgt := 143) hx hb (xb_d D_Reader_groupLength 62 rfl) rfl ?_
    exact am_Reader_groupLength_L143 l hfl D A σ MC MS h0 Qr x0 x1 x4 x5 y0 159 h hw p e s m args below meth c hC H locs ls k n hE (lv_sub hl [1, 2, 4, 5, 0] rfl) hR hS (by omega) (by omega)

set_option maxHeartbeats 4000000 in
set_option maxRecDepth 100000 in
theorem am_Reader_groupLength_L67 (l : Launch) (hfl : l.flags = pinnedFlags ++ [noTraceFlag]) (D : va_G) (A : Nat → Prop) (σ MC MS : Nat) (h0 : xb_H) (Qr : Int32 → xb_H → Prop) (h : xb_H) (hw : w_Reader_groupLength_L67 Qr h) : xb_am l D A σ 2 MC MS h0 (fun v h _ _ => ∃ r, v = some (.int r) ∧ Qr r h) (fun _ _ _ _ => False) y_Reader_groupLength.cls y_Reader_groupLength.name b_Reader_groupLength 10 ([] : List ExceptionTableEntry) (some .int) 67 [] [] h 0 0 := by
  unfold w_Reader_groupLength_L67 at hw
  intro p e s m args below meth c hC H locs ls k n hE hl hR hS hk hn
  obtain ⟨hx, hb, hown, hlocks, htab, hml, hr, hB, hA, hnm⟩ := id hC
  have hts := hB.1.1.at args
  refine lv_iconst (v := 0) hx hb (xb_d D_Reader_groupLength 35 rfl) (by decide) ?_
  exact xb_iret 0 0 hx hb hr hlocks (show k + 0 ≤ MC by omega) (show n + 0 ≤ MS by omega) hE hR hS (xb_d D_Reader_groupLength 36 rfl) hw

set_option maxHeartbeats 4000000 in
set_option maxRecDepth 100000 in
theorem am_Reader_groupLength_L43 (l : Launch) (hfl : l.flags = pinnedFlags ++ [noTraceFlag]) (D : va_G) (A : Nat → Prop) (σ MC MS : Nat) (h0 : xb_H) (Qr : Int32 → xb_H → Prop) (x0 : Nat) (x1 : Int32) (x2 : Int32) (x3 : Int32) (y0 : Int32) (h : xb_H) (hw : w_Reader_groupLength_L43 Qr x0 x1 x2 x3 y0 h) : xb_am l D A σ 2 MC MS h0 (fun v h _ _ => ∃ r, v = some (.int r) ∧ Qr r h) (fun _ _ _ _ => False) y_Reader_groupLength.cls y_Reader_groupLength.name b_Reader_groupLength 10 ([] : List ExceptionTableEntry) (some .int) 43 [(0, .ref x0), (1, .int x1), (2, .int x2), (3, .int x3)] [.int y0] h 0 0 := by
  unfold w_Reader_groupLength_L43 at hw
  intro p e s m args below meth c hC H locs ls k n hE hl hR hS hk hn
  obtain ⟨hx, hb, hown, hlocks, htab, hml, hr, hB, hA, hnm⟩ := id hC
  have hts := hB.1.1.at args
  refine lv_istore hx hb (xb_d D_Reader_groupLength 23 rfl) hl (by decide) rfl (fun ls hl => ?_)
  have hl : lv_has ls 10 [(4, .int y0), (0, .ref x0), (1, .int x1), (2, .int x2), (3, .int x3)] := hl
  refine lv_iload_n hx hb (xb_d D_Reader_groupLength 24 rfl) rfl (lv_at hl 4 rfl) ?_
  refine lv_sipush (v := 194) hx hb (xb_d D_Reader_groupLength 25 rfl) (by decide) ?_
  refine lv_icmp_lt (tgt := 67) hx hb (xb_d D_Reader_groupLength 26 rfl) rfl (fun hc1 => ?_) (fun hc1 => ?_)
  · have hw := hw.1 hc1
    exact am_Reader_groupLength_L67 l hfl D A σ MC MS h0 Qr h hw p e s m args below meth c hC H locs ls k n hE (lv_sub hl [] rfl) hR hS (by omega) (by omega)
  · have hw := hw.2 hc1
    refine lv_iload_n hx hb (xb_d D_Reader_groupLength 27 rfl) rfl (lv_at hl 4 rfl) ?_
    refine lv_sipush (v := 244) hx hb (xb_d D_Reader_groupLength 28 rfl) (by decide) ?_
    refine lv_icmp_gt (tgt := 67) hx hb (xb_d D_Reader_groupLength 29 rfl) rfl (fun hc2 => ?_) (fun hc2 => ?_)
    · have hw := hw.1 hc2
      exact am_Reader_groupLength_L67 l hfl D A σ MC MS h0 Qr h hw p e s m args below meth c hC H locs ls k n hE (lv_sub hl [] rfl) hR hS (by omega) (by omega)
    · have hw := hw.2 hc2
      refine lv_iload hx hb (xb_d D_Reader_groupLength 30 rfl) (lv_at hl 0 rfl) ?_
      refine lv_iload_n hx hb (xb_d D_Reader_groupLength 31 rfl) rfl (lv_at hl 3 rfl) ?_
      refine lv_iload_n hx hb (xb_d D_Reader_groupLength 32 rfl) rfl (lv_at hl 2 rfl) ?_
      refine lv_isub hx hb (xb_d D_Reader_groupLength 33 rfl) ?_
      refine lv_icmp_le (tgt := 69) hx hb (xb_d D_Reader_groupLength 34 rfl) rfl (fun hc3 => ?_) (fun hc3 => ?_)
      · have hw := hw.1 hc3
        refine lv_aload_n hx hb (xb_d D_Reader_groupLength 37 rfl) rfl (lv_at hl 1 rfl) ?_
        obtain ⟨hk4, hw⟩ := hw
        refine xb_getP (C := R_Reader) (T := F_Reader) (N := 6) hx hb 3 1 hts fin_Reader hown hR hk4 (by decide) rfl (by decide) rfl (hts _ m_d1ba4be8) (fun _ h9 => h9) (xb_d D_Reader_groupLength 38 rfl) ?_
        obtain ⟨b5, eb5, hw⟩ := hw
        refine xb_some eb5 ?_
        refine lv_iload_n hx hb (xb_d D_Reader_groupLength 39 rfl) rfl (lv_at hl 2 rfl) ?_
        refine lv_iconst (v := 1) hx hb (xb_d D_Reader_groupLength 40 rfl) (by decide) ?_
        refine lv_iadd hx hb (xb_d D_Reader_groupLength 41 rfl) ?_
        obtain ⟨hk7, hw⟩ := hw
        obtain ⟨hi6, hw⟩ := hw
        refine xb_bald hx hb hR hk7 hi6 (xb_d D_Reader_groupLength 42 rfl) ?_
        refine lv_sipush (v := 255) hx hb (xb_d D_Reader_groupLength 43 rfl) (by decide) ?_
        refine lv_iand hx hb (xb_d D_Reader_groupLength 44 rfl) ?_
        obtain ⟨v8, ev8⟩ : ∃ x : Int32, x = ((xb_i h b5 (Int32.toNatClampNeg (x1 + 1))) &&& 255) := ⟨_, rfl⟩
        have hw := hw v8 ev8
        refine xt_numi (y := v8) ev8.symm ?_
        refine lv_istore hx hb (xb_d D_Reader_groupLength 45 rfl) hl (by decide) rfl (fun ls hl => ?_)
        have hl : lv_has ls 10 [(5, .int v8), (4, .int y0), (0, .ref x0), (1, .int x1), (2, .int x2), (3, .int x3)] := hl
        refine lv_iload_n hx hb (xb_d D_Reader_groupLength 46 rfl) rfl (lv_at hl 5 rfl) ?_
        refine lv_sipush (v := 224) hx hb (xb_d D_Reader_groupLength 47 rfl) (by decide) ?_
        refine lv_icmp_ne (tgt := 96) hx hb (xb_d D_Reader_groupLength 48 rfl) rfl (fun hc9 => ?_) (fun hc9 => ?_)
        · have hw := hw.1 hc9
          refine lv_iload_n hx hb (xb_d D_Reader_groupLength 51 rfl) rfl (lv_at hl 5 rfl) ?_
          refine lv_sipush (v := 240) hx hb (xb_d D_Reader_groupLength 52 rfl) (by decide) ?_
          refine lv_icmp_ne (tgt := 109) hx hb (xb_d D_Reader_groupLength 53 rfl) rfl (fun hc10 => ?_) (fun hc10 => ?_)
          · have hw := hw.1 hc10
            refine lv_sipush (v := 128) hx hb (xb_d D_Reader_groupLength 56 rfl) (by decide) ?_
            exact am_Reader_groupLength_L112 l hfl D A σ MC MS h0 Qr x0 x1 x3 y0 v8 128 h hw p e s m args below meth c hC H locs ls k n hE (lv_sub hl [2, 3, 5, 1, 0] rfl) hR hS (by omega) (by omega)
          · have hw := hw.2 hc10
            refine lv_sipush (v := 144) hx hb (xb_d D_Reader_groupLength 54 rfl) (by decide) ?_
            refine lv_goto (tgt := 112) hx hb (xb_d D_Reader_groupLength 55 rfl) rfl ?_
            exact am_Reader_groupLength_L112 l hfl D A σ MC MS h0 Qr x0 x1 x3 y0 v8 144 h hw p e s m args below meth c hC H locs ls k n hE (lv_sub hl [2, 3, 5, 1, 0] rfl) hR hS (by omega) (by omega)
        · have hw := hw.2 hc9
          refine lv_sipush (v := 160) hx hb (xb_d D_Reader_groupLength 49 rfl) (by decide) ?_
          refine lv_goto (tgt := 112) hx hb (xb_d D_Reader_groupLength 50 rfl) rfl ?_
          exact am_Reader_groupLength_L112 l hfl D A σ MC MS h0 Qr x0 x1 x3 y0 v8 160 h hw p e s m args below meth c hC H locs ls k n hE (lv_sub hl [2, 3, 5, 1, 0] rfl) hR hS (by omega) (by omega)
      · have hw := hw.2 hc3
        exact am_Reader_groupLength_L67 l hfl D A σ MC MS h0 Qr h hw p e s m args below meth c hC H locs ls k n hE (lv_sub hl [] rfl) hR hS (by omega) (by omega)

set_option maxHeartbeats 4000000 in
set_option maxRecDepth 100000 in
theorem ok_Reader_groupLength (l : Launch) (hfl : l.flags = pinnedFlags ++ [noTraceFlag]) (D : va_G) (A : Nat → Prop) (σ : Nat) (x0 : Nat) (x1 : Int32) (x2 : Int32) (h : xb_H) (Qr : Int32 → xb_H → Prop) (hw : w_Reader_groupLength x0 x1 x2 h Qr) : xb_Met l y_Reader_groupLength [.code y_Reader_groupLength b_Reader_groupLength 10 (some .int)] (xb_rm 2 0 0) (xb_Pc D A σ h [.ref x0, .int x1, .int x2]) (xb_Qc D A h 0 0 (fun v h _ _ => ∃ r, v = some (.int r) ∧ Qr r h) (fun _ _ _ _ => False)) A := by
  refine xb_ofAm (cc := b_Reader_groupLength) (by decide) (Nat.le_of_ble_eq_true rfl) ?_
  unfold w_Reader_groupLength at hw
  show xb_am l D A σ 2 0 0 h (fun v h _ _ => ∃ r, v = some (.int r) ∧ Qr r h) (fun _ _ _ _ => False) y_Reader_groupLength.cls y_Reader_groupLength.name b_Reader_groupLength 10 ([] : List ExceptionTableEntry) (some .int) 0 [(0, .ref x0), (1, .int x1), (2, .int x2)] [] h 0 0
  obtain ⟨MC, hMC⟩ : ∃ x, x = 0 := ⟨_, rfl⟩
  obtain ⟨MS, hMS⟩ : ∃ x, x = 0 := ⟨_, rfl⟩
  rw [show xb_am l D A σ 2 0 0 = xb_am l D A σ 2 MC MS by rw [hMC, hMS]]
  obtain ⟨h0, hh0⟩ : ∃ x, x = h := ⟨_, rfl⟩
  rw [show xb_am l D A σ 2 MC MS h = xb_am l D A σ 2 MC MS h0 by rw [hh0]]
  intro p e s m args below meth c hC H locs ls k n hE hl hR hS hk hn
  obtain ⟨hx, hb, hown, hlocks, htab, hml, hr, hB, hA, hnm⟩ := id hC
  have hts := hB.1.1.at args
  refine lv_aload_n hx hb (xb_d D_Reader_groupLength 0 rfl) rfl (lv_at hl 0 rfl) ?_
  obtain ⟨hk1, hw⟩ := hw
  refine xb_getP (C := R_Reader) (T := F_Reader) (N := 6) hx hb 3 1 hts fin_Reader hown hR hk1 (by decide) rfl (by decide) rfl (hts _ m_d1ba4be8) (fun _ h9 => h9) (xb_d D_Reader_groupLength 1 rfl) ?_
  obtain ⟨b2, eb2, hw⟩ := hw
  refine xb_some eb2 ?_
  refine lv_iload_n hx hb (xb_d D_Reader_groupLength 2 rfl) rfl (lv_at hl 1 rfl) ?_
  obtain ⟨hk4, hw⟩ := hw
  obtain ⟨hi3, hw⟩ := hw
  refine xb_bald hx hb hR hk4 hi3 (xb_d D_Reader_groupLength 3 rfl) ?_
  refine lv_sipush (v := 255) hx hb (xb_d D_Reader_groupLength 4 rfl) (by decide) ?_
  refine lv_iand hx hb (xb_d D_Reader_groupLength 5 rfl) ?_
  obtain ⟨v5, ev5⟩ : ∃ x : Int32, x = ((xb_i h b2 (Int32.toNatClampNeg x1)) &&& 255) := ⟨_, rfl⟩
  have hw := hw v5 ev5
  refine xt_numi (y := v5) ev5.symm ?_
  refine lv_istore_n hx hb (xb_d D_Reader_groupLength 6 rfl) rfl hl (by decide) rfl (fun ls hl => ?_)
  have hl : lv_has ls 10 [(3, .int v5), (0, .ref x0), (1, .int x1), (2, .int x2)] := hl
  refine lv_iload_n hx hb (xb_d D_Reader_groupLength 7 rfl) rfl (lv_at hl 0 rfl) ?_
  refine lv_sipush (v := 128) hx hb (xb_d D_Reader_groupLength 8 rfl) (by decide) ?_
  refine lv_icmp_ge (tgt := 20) hx hb (xb_d D_Reader_groupLength 9 rfl) rfl (fun hc6 => ?_) (fun hc6 => ?_)
  · have hw := hw.1 hc6
    refine lv_iload_n hx hb (xb_d D_Reader_groupLength 12 rfl) rfl (lv_at hl 0 rfl) ?_
    refine lv_sipush (v := 224) hx hb (xb_d D_Reader_groupLength 13 rfl) (by decide) ?_
    refine lv_icmp_ge (tgt := 31) hx hb (xb_d D_Reader_groupLength 14 rfl) rfl (fun hc7 => ?_) (fun hc7 => ?_)
    · have hw := hw.1 hc7
      refine lv_iload_n hx hb (xb_d D_Reader_groupLength 17 rfl) rfl (lv_at hl 0 rfl) ?_
      refine lv_sipush (v := 240) hx hb (xb_d D_Reader_groupLength 18 rfl) (by decide) ?_
      refine lv_icmp_ge (tgt := 42) hx hb (xb_d D_Reader_groupLength 19 rfl) rfl (fun hc8 => ?_) (fun hc8 => ?_)
      · have hw := hw.1 hc8
        refine lv_iconst (v := 4) hx hb (xb_d D_Reader_groupLength 22 rfl) (by decide) ?_
        exact am_Reader_groupLength_L43 l hfl D A σ MC MS h0 Qr x0 x1 x2 v5 4 h hw p e s m args below meth c hC H locs ls k n hE (lv_sub hl [1, 2, 3, 0] rfl) hR hS (by omega) (by omega)
      · have hw := hw.2 hc8
        refine lv_iconst (v := 3) hx hb (xb_d D_Reader_groupLength 20 rfl) (by decide) ?_
        refine lv_goto (tgt := 43) hx hb (xb_d D_Reader_groupLength 21 rfl) rfl ?_
        exact am_Reader_groupLength_L43 l hfl D A σ MC MS h0 Qr x0 x1 x2 v5 3 h hw p e s m args below meth c hC H locs ls k n hE (lv_sub hl [1, 2, 3, 0] rfl) hR hS (by omega) (by omega)
    · have hw := hw.2 hc7
      refine lv_iconst (v := 2) hx hb (xb_d D_Reader_groupLength 15 rfl) (by decide) ?_
      refine lv_goto (tgt := 43) hx hb (xb_d D_Reader_groupLength 16 rfl) rfl ?_
      exact am_Reader_groupLength_L43 l hfl D A σ MC MS h0 Qr x0 x1 x2 v5 2 h hw p e s m args below meth c hC H locs ls k n hE (lv_sub hl [1, 2, 3, 0] rfl) hR hS (by omega) (by omega)
  · have hw := hw.2 hc6
    refine lv_iconst (v := 1) hx hb (xb_d D_Reader_groupLength 10 rfl) (by decide) ?_
    exact xb_iret 0 0 hx hb hr hlocks (show k + 0 ≤ MC by omega) (show n + 0 ≤ MS by omega) hE hR hS (xb_d D_Reader_groupLength 11 rfl) hw

theorem m_5660bdee : (.fieldLink "StackHost$Reader" 29 "StackHost$Reader" "notes" "[I" : Cond) ∈ xt_tbl := xt_in (xt_t1 (List.mem_of_getElem? (i := 52) (by decide +kernel))) (by decide +kernel)
set_option maxRecDepth 100000 in
def T_Reader_noteEnd : List (Nat × Instr × Nat) := [(0, .iload_n 1, 1), (1, .ifCond .eq 13, 3), (4, .aload_n 0, 1), (5, .getfield 29, 3), (8, .iload_n 2, 1), (9, .iconst 1, 1), (10, .iastore, 1), (11, .goto 32, 3), (14, .aload_n 0, 1), (15, .getfield 25, 3), (18, .iload_n 3, 1), (19, .baload, 1), (20, .iconst 5, 1), (21, .if_icmp .ne 13, 3), (24, .aload_n 0, 1), (25, .getfield 29, 3), (28, .iload_n 3, 1), (29, .iload_n 2, 1), (30, .iastore, 1), (31, .goto 12, 3), (34, .aload_n 0, 1), (35, .getfield 29, 3), (38, .iload_n 3, 1), (39, .iconst 1, 1), (40, .iadd, 1), (41, .iload_n 2, 1), (42, .iastore, 1), (43, .return_, 1)]
theorem D_Reader_noteEnd : ∀ q ∈ T_Reader_noteEnd, decode b_Reader_noteEnd q.1 = .ok (q.2.1, q.2.2) := by decide +kernel

set_option maxHeartbeats 4000000 in
set_option maxRecDepth 100000 in
theorem am_Reader_noteEnd_L43 (l : Launch) (hfl : l.flags = pinnedFlags ++ [noTraceFlag]) (D : va_G) (A : Nat → Prop) (σ MC MS : Nat) (h0 : xb_H) (Qr : xb_H → Prop) (h : xb_H) (hw : w_Reader_noteEnd_L43 Qr h) : xb_am l D A σ 2 MC MS h0 (fun v h _ _ => v = none ∧ Qr h) (fun _ _ _ _ => False) y_Reader_noteEnd.cls y_Reader_noteEnd.name b_Reader_noteEnd 4 ([] : List ExceptionTableEntry) none 43 [] [] h 0 0 := by
  unfold w_Reader_noteEnd_L43 at hw
  intro p e s m args below meth c hC H locs ls k n hE hl hR hS hk hn
  obtain ⟨hx, hb, hown, hlocks, htab, hml, hr, hB, hA, hnm⟩ := id hC
  have hts := hB.1.1.at args
  exact xb_vret 0 0 hx hb hr hlocks (show k + 0 ≤ MC by omega) (show n + 0 ≤ MS by omega) hE hR hS (xb_d D_Reader_noteEnd 27 rfl) hw

set_option maxHeartbeats 4000000 in
set_option maxRecDepth 100000 in
theorem ok_Reader_noteEnd (l : Launch) (hfl : l.flags = pinnedFlags ++ [noTraceFlag]) (D : va_G) (A : Nat → Prop) (σ : Nat) (x0 : Nat) (x1 : Int32) (x2 : Int32) (x3 : Int32) (h : xb_H) (Qr : xb_H → Prop) (hw : w_Reader_noteEnd x0 x1 x2 x3 h Qr) : xb_Met l y_Reader_noteEnd [.code y_Reader_noteEnd b_Reader_noteEnd 4 none] (xb_rm 2 0 0) (xb_Pc D A σ h [.ref x0, .int x1, .int x2, .int x3]) (xb_Qc D A h 0 0 (fun v h _ _ => v = none ∧ Qr h) (fun _ _ _ _ => False)) A := by
  refine xb_ofAm (cc := b_Reader_noteEnd) (by decide) (Nat.le_of_ble_eq_true rfl) ?_
  unfold w_Reader_noteEnd at hw
  show xb_am l D A σ 2 0 0 h (fun v h _ _ => v = none ∧ Qr h) (fun _ _ _ _ => False) y_Reader_noteEnd.cls y_Reader_noteEnd.name b_Reader_noteEnd 4 ([] : List ExceptionTableEntry) none 0 [(0, .ref x0), (1, .int x1), (2, .int x2), (3, .int x3)] [] h 0 0
  obtain ⟨MC, hMC⟩ : ∃ x, x = 0 := ⟨_, rfl⟩
  obtain ⟨MS, hMS⟩ : ∃ x, x = 0 := ⟨_, rfl⟩
  rw [show xb_am l D A σ 2 0 0 = xb_am l D A σ 2 MC MS by rw [hMC, hMS]]
  obtain ⟨h0, hh0⟩ : ∃ x, x = h := ⟨_, rfl⟩
  rw [show xb_am l D A σ 2 MC MS h = xb_am l D A σ 2 MC MS h0 by rw [hh0]]
  intro p e s m args below meth c hC H locs ls k n hE hl hR hS hk hn
  obtain ⟨hx, hb, hown, hlocks, htab, hml, hr, hB, hA, hnm⟩ := id hC
  have hts := hB.1.1.at args
  refine lv_iload_n hx hb (xb_d D_Reader_noteEnd 0 rfl) rfl (lv_at hl 1 rfl) ?_
  refine lv_if_eq (tgt := 14) hx hb (xb_d D_Reader_noteEnd 1 rfl) rfl (fun hc1 => ?_) (fun hc1 => ?_)
  · have hw := hw.1 hc1
    refine lv_aload_n hx hb (xb_d D_Reader_noteEnd 8 rfl) rfl (lv_at hl 0 rfl) ?_
    obtain ⟨hk2, hw⟩ := hw
    refine xb_getP (C := R_Reader) (T := F_Reader) (N := 6) hx hb 3 1 hts fin_Reader hown hR hk2 (by decide) rfl (by decide) rfl (hts _ m_d1ba4be8) (fun _ h9 => h9) (xb_d D_Reader_noteEnd 9 rfl) ?_
    obtain ⟨b3, eb3, hw⟩ := hw
    refine xb_some eb3 ?_
    refine lv_iload_n hx hb (xb_d D_Reader_noteEnd 10 rfl) rfl (lv_at hl 3 rfl) ?_
    obtain ⟨hk5, hw⟩ := hw
    obtain ⟨hi4, hw⟩ := hw
    refine xb_bald hx hb hR hk5 hi4 (xb_d D_Reader_noteEnd 11 rfl) ?_
    refine lv_iconst (v := 5) hx hb (xb_d D_Reader_noteEnd 12 rfl) (by decide) ?_
    refine lv_icmp_ne (tgt := 34) hx hb (xb_d D_Reader_noteEnd 13 rfl) rfl (fun hc6 => ?_) (fun hc6 => ?_)
    · have hw := hw.1 hc6
      refine lv_aload_n hx hb (xb_d D_Reader_noteEnd 20 rfl) rfl (lv_at hl 0 rfl) ?_
      refine xb_getP (C := R_Reader) (T := F_Reader) (N := 6) hx hb 3 2 hts fin_Reader hown hR hk2 (by decide) rfl (by decide) rfl (hts _ m_5660bdee) (fun _ h9 => h9) (xb_d D_Reader_noteEnd 21 rfl) ?_
      obtain ⟨b7, eb7, hw⟩ := hw
      refine xb_some eb7 ?_
      refine lv_iload_n hx hb (xb_d D_Reader_noteEnd 22 rfl) rfl (lv_at hl 3 rfl) ?_
      refine lv_iconst (v := 1) hx hb (xb_d D_Reader_noteEnd 23 rfl) (by decide) ?_
      refine lv_iadd hx hb (xb_d D_Reader_noteEnd 24 rfl) ?_
      refine lv_iload_n hx hb (xb_d D_Reader_noteEnd 25 rfl) rfl (lv_at hl 2 rfl) ?_
      obtain ⟨hk8, hw⟩ := hw
      obtain ⟨hi9, hw⟩ := hw
      refine xb_iast hx hb hR hS hk8 hi9 (xb_d D_Reader_noteEnd 26 rfl) (fun H locs hR hS => ?_)
      obtain ⟨h10, eh10⟩ : ∃ x : xb_H, x = xb_I h b7 (Int32.toNatClampNeg (x3 + 1)) x2 := ⟨_, rfl⟩
      rw [← eh10] at hR
      have hw := hw h10 eh10
      have hE : xb_ext h0 h10 := by rw [eh10]; exact hE
      exact am_Reader_noteEnd_L43 l hfl D A σ MC MS h0 Qr h10 hw p e s m args below meth c hC H locs ls k n hE (lv_sub hl [] rfl) hR hS (by omega) (by omega)
    · have hw := hw.2 hc6
      refine lv_aload_n hx hb (xb_d D_Reader_noteEnd 14 rfl) rfl (lv_at hl 0 rfl) ?_
      refine xb_getP (C := R_Reader) (T := F_Reader) (N := 6) hx hb 3 2 hts fin_Reader hown hR hk2 (by decide) rfl (by decide) rfl (hts _ m_5660bdee) (fun _ h9 => h9) (xb_d D_Reader_noteEnd 15 rfl) ?_
      obtain ⟨b11, eb11, hw⟩ := hw
      refine xb_some eb11 ?_
      refine lv_iload_n hx hb (xb_d D_Reader_noteEnd 16 rfl) rfl (lv_at hl 3 rfl) ?_
      refine lv_iload_n hx hb (xb_d D_Reader_noteEnd 17 rfl) rfl (lv_at hl 2 rfl) ?_
      obtain ⟨hk12, hw⟩ := hw
      obtain ⟨hi13, hw⟩ := hw
      refine xb_iast hx hb hR hS hk12 hi13 (xb_d D_Reader_noteEnd 18 rfl) (fun H locs hR hS => ?_)
      obtain ⟨h14, eh14⟩ : ∃ x : xb_H, x = xb_I h b11 (Int32.toNatClampNeg x3) x2 := ⟨_, rfl⟩
      rw [← eh14] at hR
      have hw := hw h14 eh14
      have hE : xb_ext h0 h14 := by rw [eh14]; exact hE
      refine lv_goto (tgt := 43) hx hb (xb_d D_Reader_noteEnd 19 rfl) rfl ?_
      exact am_Reader_noteEnd_L43 l hfl D A σ MC MS h0 Qr h14 hw p e s m args below meth c hC H locs ls k n hE (lv_sub hl [] rfl) hR hS (by omega) (by omega)
  · have hw := hw.2 hc1
    refine lv_aload_n hx hb (xb_d D_Reader_noteEnd 2 rfl) rfl (lv_at hl 0 rfl) ?_
    obtain ⟨hk15, hw⟩ := hw
    refine xb_getP (C := R_Reader) (T := F_Reader) (N := 6) hx hb 3 2 hts fin_Reader hown hR hk15 (by decide) rfl (by decide) rfl (hts _ m_5660bdee) (fun _ h9 => h9) (xb_d D_Reader_noteEnd 3 rfl) ?_
    obtain ⟨b16, eb16, hw⟩ := hw
    refine xb_some eb16 ?_
    refine lv_iload_n hx hb (xb_d D_Reader_noteEnd 4 rfl) rfl (lv_at hl 2 rfl) ?_
    refine lv_iconst (v := 1) hx hb (xb_d D_Reader_noteEnd 5 rfl) (by decide) ?_
    obtain ⟨hk17, hw⟩ := hw
    obtain ⟨hi18, hw⟩ := hw
    refine xb_iast hx hb hR hS hk17 hi18 (xb_d D_Reader_noteEnd 6 rfl) (fun H locs hR hS => ?_)
    obtain ⟨h19, eh19⟩ : ∃ x : xb_H, x = xb_I h b16 (Int32.toNatClampNeg x2) 1 := ⟨_, rfl⟩
    rw [← eh19] at hR
    have hw := hw h19 eh19
    have hE : xb_ext h0 h19 := by rw [eh19]; exact hE
    refine lv_goto (tgt := 43) hx hb (xb_d D_Reader_noteEnd 7 rfl) rfl ?_
    exact am_Reader_noteEnd_L43 l hfl D A σ MC MS h0 Qr h19 hw p e s m args below meth c hC H locs ls k n hE (lv_sub hl [] rfl) hR hS (by omega) (by omega)

theorem m_a9b84ac2 : (.fieldLink "StackHost$Reader" 41 "StackHost$Reader" "at" "I" : Cond) ∈ xt_tbl := xt_in (xt_t1 (List.mem_of_getElem? (i := 53) (by decide +kernel))) (by decide +kernel)
set_option maxRecDepth 100000 in
def T_Reader_noteLong : List (Nat × Instr × Nat) := [(0, .aload_n 0, 1), (1, .getfield 29, 3), (4, .iload_n 1, 1), (5, .iconst 1, 1), (6, .iadd, 1), (7, .lload_n 2, 1), (8, .l2i, 1), (9, .iastore, 1), (10, .aload_n 0, 1), (11, .getfield 41, 3), (14, .iload_n 1, 1), (15, .iconst 2, 1), (16, .iadd, 1), (17, .if_icmp .le 16, 3), (20, .aload_n 0, 1), (21, .getfield 29, 3), (24, .iload_n 1, 1), (25, .iconst 2, 1), (26, .iadd, 1), (27, .lload_n 2, 1), (28, .bipush 32, 2), (30, .lushr, 1), (31, .l2i, 1), (32, .iastore, 1), (33, .return_, 1)]
theorem D_Reader_noteLong : ∀ q ∈ T_Reader_noteLong, decode b_Reader_noteLong q.1 = .ok (q.2.1, q.2.2) := by decide +kernel

set_option maxHeartbeats 4000000 in
set_option maxRecDepth 100000 in
theorem am_Reader_noteLong_L33 (l : Launch) (hfl : l.flags = pinnedFlags ++ [noTraceFlag]) (D : va_G) (A : Nat → Prop) (σ MC MS : Nat) (h0 : xb_H) (Qr : xb_H → Prop) (h : xb_H) (hw : w_Reader_noteLong_L33 Qr h) : xb_am l D A σ 2 MC MS h0 (fun v h _ _ => v = none ∧ Qr h) (fun _ _ _ _ => False) y_Reader_noteLong.cls y_Reader_noteLong.name b_Reader_noteLong 4 ([] : List ExceptionTableEntry) none 33 [] [] h 0 0 := by
  unfold w_Reader_noteLong_L33 at hw
  intro p e s m args below meth c hC H locs ls k n hE hl hR hS hk hn
  obtain ⟨hx, hb, hown, hlocks, htab, hml, hr, hB, hA, hnm⟩ := id hC
  have hts := hB.1.1.at args
  exact xb_vret 0 0 hx hb hr hlocks (show k + 0 ≤ MC by omega) (show n + 0 ≤ MS by omega) hE hR hS (xb_d D_Reader_noteLong 24 rfl) hw

set_option maxHeartbeats 4000000 in
set_option maxRecDepth 100000 in
theorem ok_Reader_noteLong (l : Launch) (hfl : l.flags = pinnedFlags ++ [noTraceFlag]) (D : va_G) (A : Nat → Prop) (σ : Nat) (x0 : Nat) (x1 : Int32) (x2 : Int64) (h : xb_H) (Qr : xb_H → Prop) (hw : w_Reader_noteLong x0 x1 x2 h Qr) : xb_Met l y_Reader_noteLong [.code y_Reader_noteLong b_Reader_noteLong 4 none] (xb_rm 2 0 0) (xb_Pc D A σ h [.ref x0, .int x1, .long x2]) (xb_Qc D A h 0 0 (fun v h _ _ => v = none ∧ Qr h) (fun _ _ _ _ => False)) A := by
  refine xb_ofAm (cc := b_Reader_noteLong) (by decide) (Nat.le_of_ble_eq_true rfl) ?_
  unfold w_Reader_noteLong at hw
  show xb_am l D A σ 2 0 0 h (fun v h _ _ => v = none ∧ Qr h) (fun _ _ _ _ => False) y_Reader_noteLong.cls y_Reader_noteLong.name b_Reader_noteLong 4 ([] : List ExceptionTableEntry) none 0 [(0, .ref x0), (1, .int x1), (2, .long x2)] [] h 0 0
  obtain ⟨MC, hMC⟩ : ∃ x, x = 0 := ⟨_, rfl⟩
  obtain ⟨MS, hMS⟩ : ∃ x, x = 0 := ⟨_, rfl⟩
  rw [show xb_am l D A σ 2 0 0 = xb_am l D A σ 2 MC MS by rw [hMC, hMS]]
  obtain ⟨h0, hh0⟩ : ∃ x, x = h := ⟨_, rfl⟩
  rw [show xb_am l D A σ 2 MC MS h = xb_am l D A σ 2 MC MS h0 by rw [hh0]]
  intro p e s m args below meth c hC H locs ls k n hE hl hR hS hk hn
  obtain ⟨hx, hb, hown, hlocks, htab, hml, hr, hB, hA, hnm⟩ := id hC
  have hts := hB.1.1.at args
  refine lv_aload_n hx hb (xb_d D_Reader_noteLong 0 rfl) rfl (lv_at hl 0 rfl) ?_
  obtain ⟨hk1, hw⟩ := hw
  refine xb_getP (C := R_Reader) (T := F_Reader) (N := 6) hx hb 3 2 hts fin_Reader hown hR hk1 (by decide) rfl (by decide) rfl (hts _ m_5660bdee) (fun _ h9 => h9) (xb_d D_Reader_noteLong 1 rfl) ?_
  obtain ⟨b2, eb2, hw⟩ := hw
  refine xb_some eb2 ?_
  refine lv_iload_n hx hb (xb_d D_Reader_noteLong 2 rfl) rfl (lv_at hl 1 rfl) ?_
  refine lv_iconst (v := 1) hx hb (xb_d D_Reader_noteLong 3 rfl) (by decide) ?_
  refine lv_iadd hx hb (xb_d D_Reader_noteLong 4 rfl) ?_
  refine lv_lload_n hx hb (xb_d D_Reader_noteLong 5 rfl) rfl (lv_at hl 2 rfl) ?_
  refine lv_l2i hx hb (xb_d D_Reader_noteLong 6 rfl) rfl ?_
  obtain ⟨hk3, hw⟩ := hw
  obtain ⟨hi4, hw⟩ := hw
  refine xb_iast hx hb hR hS hk3 hi4 (xb_d D_Reader_noteLong 7 rfl) (fun H locs hR hS => ?_)
  obtain ⟨h5, eh5⟩ : ∃ x : xb_H, x = xb_I h b2 (Int32.toNatClampNeg (x1 + 1)) (Int64.toInt32 x2) := ⟨_, rfl⟩
  rw [← eh5] at hR
  have hw := hw h5 eh5
  have hE : xb_ext h0 h5 := by rw [eh5]; exact hE
  refine lv_aload_n hx hb (xb_d D_Reader_noteLong 8 rfl) rfl (lv_at hl 0 rfl) ?_
  have hk1 : xb_k h5 x0 = 4 := by rw [eh5]; exact hk1
  refine xb_getI (C := R_Reader) (T := F_Reader) (N := 6) hx hb 3 3 hts fin_Reader hown hR hk1 (by decide) rfl (by decide) rfl (hts _ m_a9b84ac2) (fun _ h9 => h9) (xb_d D_Reader_noteLong 9 rfl) ?_
  refine lv_iload_n hx hb (xb_d D_Reader_noteLong 10 rfl) rfl (lv_at hl 1 rfl) ?_
  refine lv_iconst (v := 2) hx hb (xb_d D_Reader_noteLong 11 rfl) (by decide) ?_
  refine lv_iadd hx hb (xb_d D_Reader_noteLong 12 rfl) ?_
  refine lv_icmp_le (tgt := 33) hx hb (xb_d D_Reader_noteLong 13 rfl) rfl (fun hc6 => ?_) (fun hc6 => ?_)
  · have hw := hw.1 hc6
    exact am_Reader_noteLong_L33 l hfl D A σ MC MS h0 Qr h5 hw p e s m args below meth c hC H locs ls k n hE (lv_sub hl [] rfl) hR hS (by omega) (by omega)
  · have hw := hw.2 hc6
    refine lv_aload_n hx hb (xb_d D_Reader_noteLong 14 rfl) rfl (lv_at hl 0 rfl) ?_
    refine xb_getP (C := R_Reader) (T := F_Reader) (N := 6) hx hb 3 2 hts fin_Reader hown hR hk1 (by decide) rfl (by decide) rfl (hts _ m_5660bdee) (fun _ h9 => h9) (xb_d D_Reader_noteLong 15 rfl) ?_
    obtain ⟨b7, eb7, hw⟩ := hw
    refine xb_some eb7 ?_
    refine lv_iload_n hx hb (xb_d D_Reader_noteLong 16 rfl) rfl (lv_at hl 1 rfl) ?_
    refine lv_iconst (v := 2) hx hb (xb_d D_Reader_noteLong 17 rfl) (by decide) ?_
    refine lv_iadd hx hb (xb_d D_Reader_noteLong 18 rfl) ?_
    refine lv_lload_n hx hb (xb_d D_Reader_noteLong 19 rfl) rfl (lv_at hl 2 rfl) ?_
    refine lv_bipush (v := 32) hx hb (xb_d D_Reader_noteLong 20 rfl) (by decide) ?_
    refine lv_lushr (v := (xb_lushr x2 32)) hx hb (xb_d D_Reader_noteLong 21 rfl) rfl ?_
    refine lv_l2i hx hb (xb_d D_Reader_noteLong 22 rfl) rfl ?_
    obtain ⟨hk8, hw⟩ := hw
    obtain ⟨hi9, hw⟩ := hw
    refine xb_iast hx hb hR hS hk8 hi9 (xb_d D_Reader_noteLong 23 rfl) (fun H locs hR hS => ?_)
    obtain ⟨h10, eh10⟩ : ∃ x : xb_H, x = xb_I h5 b7 (Int32.toNatClampNeg (x1 + 2)) (Int64.toInt32 (xb_lushr x2 32)) := ⟨_, rfl⟩
    rw [← eh10] at hR
    have hw := hw h10 eh10
    have hE : xb_ext h0 h10 := by rw [eh10]; exact hE
    exact am_Reader_noteLong_L33 l hfl D A σ MC MS h0 Qr h10 hw p e s m args below meth c hC H locs ls k n hE (lv_sub hl [] rfl) hR hS (by omega) (by omega)

