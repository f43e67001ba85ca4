theorem m_decb3334 : (.methodLink "StackHost$Machine" 114 y_Machine_endCall : Cond) ∈ xt_tbl := xt_in (xt_t7 (List.mem_of_getElem? (i := 239) (by decide +kernel))) (by decide +kernel)
theorem m_d830cba0 : (.instanceMethod y_Machine_endCall : Cond) ∈ xt_tbl := xt_in (xt_t8 (List.mem_of_getElem? (i := 1) (by decide +kernel))) (by decide +kernel)
theorem m_0077867b : (.selects "StackHost$Machine" y_Machine_endCall y_Machine_endCall : Cond) ∈ xt_tbl := xt_in (xt_v6 (q := (⟨"StackHost$Machine", "endCall", "()V"⟩, 18)) (List.mem_of_getElem? (i := 11) (by decide +kernel))) (by decide +kernel)
theorem m_d7f63aa1 : (.code y_Machine_endCall b_Machine_endCall 7 none : Cond) ∈ xt_tbl := xt_in (xt_t8 (List.mem_of_getElem? (i := 2) (by decide +kernel))) (by decide +kernel)
theorem nm_Machine_endCall : xt_nm y_Machine_endCall 0 := ⟨by decide +kernel, by decide +kernel⟩
set_option maxRecDepth 100000 in
def T_Machine_branch : List (Nat × Instr × Nat) := [(0, .iload_n 1, 1), (1, .iconst (-1), 1), (2, .if_icmp .ne 8, 3), (5, .aload_n 0, 1), (6, .invokevirtual 114, 3), (9, .return_, 1), (10, .aload_n 0, 1), (11, .getfield 191, 3), (14, .aload_n 0, 1), (15, .getfield 111, 3), (18, .iload_n 1, 1), (19, .iaload, 1), (20, .iadd, 1), (21, .istore_n 2, 1), (22, .aload_n 0, 1), (23, .getfield 104, 3), (26, .iload_n 1, 1), (27, .baload, 1), (28, .iconst 3, 1), (29, .if_icmp .ne 16, 3), (32, .aload_n 0, 1), (33, .iload_n 2, 1), (34, .putfield 53, 3), (37, .aload_n 0, 1), (38, .iload_n 1, 1), (39, .iconst 2, 1), (40, .iadd, 1), (41, .putfield 108, 3), (44, .return_, 1), (45, .aload_n 0, 1), (46, .getfield 104, 3), (49, .iload_n 1, 1), (50, .iconst 1, 1), (51, .iadd, 1), (52, .baload, 1), (53, .bipush 64, 2), (55, .if_icmp .eq 23, 3), (58, .aload_n 0, 1), (59, .getfield 35, 3), (62, .iload_n 2, 1), (63, .aload_n 0, 1), (64, .getfield 35, 3), (67, .aload_n 0, 1), (68, .getfield 53, 3), (71, .iconst 1, 1), (72, .isub, 1), (73, .laload, 1), (74, .lastore, 1), (75, .iinc 2 1, 3), (78, .aload_n 0, 1), (79, .iload_n 2, 1), (80, .putfield 53, 3), (83, .aload_n 0, 1), (84, .getfield 111, 3), (87, .iload_n 1, 1), (88, .iconst 1, 1), (89, .iadd, 1), (90, .iaload, 1), (91, .istore_n 3, 1), (92, .aload_n 0, 1), (93, .aload_n 0, 1), (94, .getfield 104, 3), (97, .iload_n 3, 1), (98, .baload, 1), (99, .iconst 5, 1), (100, .if_icmp .ne 12, 3), (103, .aload_n 0, 1), (104, .getfield 111, 3), (107, .iload_n 3, 1), (108, .iaload, 1), (109, .goto 4, 3), (112, .iload_n 3, 1), (113, .iconst 1, 1), (114, .iadd, 1), (115, .putfield 108, 3), (118, .return_, 1)]
theorem D_Machine_branch : ∀ q ∈ T_Machine_branch, decode b_Machine_branch q.1 = .ok (q.2.1, q.2.2) := by decide +kernel

set_option maxHeartbeats 4000000 in
set_option maxRecDepth 100000 in
theorem am_Machine_branch_L113 (l : Launch) (hfl : l.flags = pinnedFlags ++ [noTraceFlag]) (D : va_G) (A : Nat → Prop) (σ MC MS : Nat) (h0 : xb_H) (Qr : xb_H → Prop) (y0 : Int32) (y1 : Nat) (h : xb_H) (hw : w_Machine_branch_L113 Qr y0 y1 h) : xb_am l D A σ 5 MC MS h0 (fun v h _ _ => v = none ∧ Qr h) (fun _ _ _ _ => False) y_Machine_branch.cls y_Machine_branch.name b_Machine_branch 4 ([] : List ExceptionTableEntry) none 113 [] [.int y0, .ref y1] h 0 0 := by
  unfold w_Machine_branch_L113 at hw
  intro p e s m args below meth c hC H locs ls k n hE hl hR hS hk hn
  obtain ⟨hx, hb, hown, hlocks, htab, hml, hr, hB, hA, hnm⟩ := id hC
  have hts := hB.1.1.at args
  refine lv_iconst (v := 1) hx hb (xb_d D_Machine_branch 72 rfl) (by decide) ?_
  refine lv_iadd hx hb (xb_d D_Machine_branch 73 rfl) ?_
  obtain ⟨hk1, hw⟩ := hw
  refine xb_putI (C := R_Machine) (T := F_Machine) (N := 18) (ty := .int) (x := (y0 + 1)) hx hb 7 15 hts fin_Machine t_Machine t_Machine_ok n_Machine hown hR hS hk1 (by decide) rfl (by decide) rfl (hts _ m_6a595805) (fun _ h9 => h9) rfl (by decide +kernel) rfl rfl (xb_d D_Machine_branch 74 rfl) (fun H locs hR hS => ?_)
  obtain ⟨h2, eh2⟩ : ∃ x : xb_H, x = xb_I h y1 15 (y0 + 1) := ⟨_, rfl⟩
  rw [← eh2] at hR
  have hw := hw h2 eh2
  have hE : xb_ext h0 h2 := by rw [eh2]; exact hE
  exact xb_vret 0 0 hx hb hr hlocks (show k + 0 ≤ MC by omega) (show n + 0 ≤ MS by omega) hE hR hS (xb_d D_Machine_branch 75 rfl) hw

set_option maxHeartbeats 4000000 in
set_option maxRecDepth 100000 in
theorem am_Machine_branch_L78 (l : Launch) (hfl : l.flags = pinnedFlags ++ [noTraceFlag]) (D : va_G) (A : Nat → Prop) (σ MC MS : Nat) (h0 : xb_H) (Qr : xb_H → Prop) (x0 : Nat) (x1 : Int32) (x2 : Int32) (h : xb_H) (hw : w_Machine_branch_L78 Qr x0 x1 x2 h) : xb_am l D A σ 5 MC MS h0 (fun v h _ _ => v = none ∧ Qr h) (fun _ _ _ _ => False) y_Machine_branch.cls y_Machine_branch.name b_Machine_branch 4 ([] : List ExceptionTableEntry) none 78 [(0, .ref x0), (1, .int x1), (2, .int x2)] [] h 0 0 := by
  unfold w_Machine_branch_L78 at hw
  intro p e s m args below meth c hC H locs ls k n hE hl hR hS hk hn
  obtain ⟨hx, hb, hown, hlocks, htab, hml, hr, hB, hA, hnm⟩ := id hC
  have hts := hB.1.1.at args
  refine lv_aload_n hx hb (xb_d D_Machine_branch 49 rfl) rfl (lv_at hl 0 rfl) ?_
  refine lv_iload_n hx hb (xb_d D_Machine_branch 50 rfl) rfl (lv_at hl 2 rfl) ?_
  obtain ⟨hk1, hw⟩ := hw
  refine xb_putI (C := R_Machine) (T := F_Machine) (N := 18) (ty := .int) (x := x2) hx hb 7 10 hts fin_Machine t_Machine t_Machine_ok n_Machine hown hR hS hk1 (by decide) rfl (by decide) rfl (hts _ m_79cf62f6) (fun _ h9 => h9) rfl (by decide +kernel) rfl rfl (xb_d D_Machine_branch 51 rfl) (fun H locs hR hS => ?_)
  obtain ⟨h2, eh2⟩ : ∃ x : xb_H, x = xb_I h x0 10 x2 := ⟨_, rfl⟩
  rw [← eh2] at hR
  have hw := hw h2 eh2
  have hE : xb_ext h0 h2 := by rw [eh2]; exact hE
  refine lv_aload_n hx hb (xb_d D_Machine_branch 52 rfl) rfl (lv_at hl 0 rfl) ?_
  have hk1 : xb_k h2 x0 = 8 := by rw [eh2]; exact hk1
  refine xb_getP (C := R_Machine) (T := F_Machine) (N := 18) hx hb 7 14 hts fin_Machine hown hR hk1 (by decide) rfl (by decide) rfl (hts _ m_8f763f86) (fun _ h9 => h9) (xb_d D_Machine_branch 53 rfl) ?_
  obtain ⟨b3, eb3, hw⟩ := hw
  refine xb_some eb3 ?_
  refine lv_iload_n hx hb (xb_d D_Machine_branch 54 rfl) rfl (lv_at hl 1 rfl) ?_
  refine lv_iconst (v := 1) hx hb (xb_d D_Machine_branch 55 rfl) (by decide) ?_
  refine lv_iadd hx hb (xb_d D_Machine_branch 56 rfl) ?_
  obtain ⟨hk5, hw⟩ := hw
  obtain ⟨hi4, hw⟩ := hw
  refine xb_iald hx hb hR hk5 hi4 (xb_d D_Machine_branch 57 rfl) ?_
  obtain ⟨v6, ev6⟩ : ∃ x : Int32, x = (xb_i h2 b3 (Int32.toNatClampNeg (x1 + 1))) := ⟨_, rfl⟩
  have hw := hw v6 ev6
  refine xt_numi (y := v6) ev6.symm ?_
  refine lv_istore_n hx hb (xb_d D_Machine_branch 58 rfl) rfl hl (by decide) rfl (fun ls hl => ?_)
  have hl : lv_has ls 4 [(3, .int v6), (0, .ref x0), (1, .int x1), (2, .int x2)] := hl
  refine lv_aload_n hx hb (xb_d D_Machine_branch 59 rfl) rfl (lv_at hl 1 rfl) ?_
  refine lv_aload_n hx hb (xb_d D_Machine_branch 60 rfl) rfl (lv_at hl 1 rfl) ?_
  refine xb_getP (C := R_Machine) (T := F_Machine) (N := 18) hx hb 7 13 hts fin_Machine hown hR hk1 (by decide) rfl (by decide) rfl (hts _ m_a6a0f666) (fun _ h9 => h9) (xb_d D_Machine_branch 61 rfl) ?_
  obtain ⟨b7, eb7, hw⟩ := hw
  refine xb_some eb7 ?_
  refine lv_iload_n hx hb (xb_d D_Machine_branch 62 rfl) rfl (lv_at hl 0 rfl) ?_
  obtain ⟨hk9, hw⟩ := hw
  obtain ⟨hi8, hw⟩ := hw
  refine xb_bald hx hb hR hk9 hi8 (xb_d D_Machine_branch 63 rfl) ?_
  refine lv_iconst (v := 5) hx hb (xb_d D_Machine_branch 64 rfl) (by decide) ?_
  refine lv_icmp_ne (tgt := 112) hx hb (xb_d D_Machine_branch 65 rfl) rfl (fun hc10 => ?_) (fun hc10 => ?_)
  · have hw := hw.1 hc10
    refine lv_iload_n hx hb (xb_d D_Machine_branch 71 rfl) rfl (lv_at hl 0 rfl) ?_
    exact am_Machine_branch_L113 l hfl D A σ MC MS h0 Qr v6 x0 h2 hw p e s m args below meth c hC H locs ls k n hE (lv_sub hl [] rfl) hR hS (by omega) (by omega)
  · have hw := hw.2 hc10
    refine lv_aload_n hx hb (xb_d D_Machine_branch 66 rfl) rfl (lv_at hl 1 rfl) ?_
    refine xb_getP (C := R_Machine) (T := F_Machine) (N := 18) hx hb 7 14 hts fin_Machine hown hR hk1 (by decide) rfl (by decide) rfl (hts _ m_8f763f86) (fun _ h9 => h9) (xb_d D_Machine_branch 67 rfl) ?_
    obtain ⟨b11, eb11, hw⟩ := hw
    refine xb_some eb11 ?_
    refine lv_iload_n hx hb (xb_d D_Machine_branch 68 rfl) rfl (lv_at hl 0 rfl) ?_
    obtain ⟨hk13, hw⟩ := hw
    obtain ⟨hi12, hw⟩ := hw
    refine xb_iald hx hb hR hk13 hi12 (xb_d D_Machine_branch 69 rfl) ?_
    refine lv_goto (tgt := 113) hx hb (xb_d D_Machine_branch 70 rfl) rfl ?_
    exact am_Machine_branch_L113 l hfl D A σ MC MS h0 Qr (xb_i h2 b11 (Int32.toNatClampNeg v6)) x0 h2 hw p e s m args below meth c hC H locs ls k n hE (lv_sub hl [] rfl) hR hS (by omega) (by omega)

set_option maxHeartbeats 4000000 in
set_option maxRecDepth 100000 in
theorem ok_Machine_branch (l : Launch) (hfl : l.flags = pinnedFlags ++ [noTraceFlag]) (D : va_G) (A : Nat → Prop) (σ : Nat) (x0 : Nat) (x1 : Int32) (h : xb_H) (Qr : xb_H → Prop) (hw : w_Machine_branch x0 x1 h Qr) : xb_Met l y_Machine_branch [.code y_Machine_branch b_Machine_branch 4 none] (xb_rm 5 0 0) (xb_Pc D A σ h [.ref x0, .int x1]) (xb_Qc D A h 0 0 (fun v h _ _ => v = none ∧ Qr h) (fun _ _ _ _ => False)) A := by
  refine xb_ofAm (cc := b_Machine_branch) (by decide) (Nat.le_of_ble_eq_true rfl) ?_
  unfold w_Machine_branch at hw
  show xb_am l D A σ 5 0 0 h (fun v h _ _ => v = none ∧ Qr h) (fun _ _ _ _ => False) y_Machine_branch.cls y_Machine_branch.name b_Machine_branch 4 ([] : List ExceptionTableEntry) none 0 [(0, .ref x0), (1, .int x1)] [] h 0 0
  obtain ⟨MC, hMC⟩ : ∃ x, x = 0 := ⟨_, rfl⟩
  obtain ⟨MS, hMS⟩ : ∃ x, x = 0 := ⟨_, rfl⟩
  rw [show xb_am l D A σ 5 0 0 = xb_am l D A σ 5 MC MS by rw [hMC, hMS]]
  obtain ⟨h0, hh0⟩ : ∃ x, x = h := ⟨_, rfl⟩
  rw [show xb_am l D A σ 5 MC MS h = xb_am l D A σ 5 MC MS h0 by rw [hh0]]
  intro p e s m args below meth c hC H locs ls k n hE hl hR hS hk hn
  obtain ⟨hx, hb, hown, hlocks, htab, hml, hr, hB, hA, hnm⟩ := id hC
  have hts := hB.1.1.at args
  refine lv_iload_n hx hb (xb_d D_Machine_branch 0 rfl) rfl (lv_at hl 1 rfl) ?_
  refine lv_iconst (v := (-1)) hx hb (xb_d D_Machine_branch 1 rfl) (by decide) ?_
  refine lv_icmp_ne (tgt := 10) hx hb (xb_d D_Machine_branch 2 rfl) rfl (fun hc1 => ?_) (fun hc1 => ?_)
  · have hw := hw.1 hc1
    refine lv_aload_n hx hb (xb_d D_Machine_branch 6 rfl) rfl (lv_at hl 0 rfl) ?_
    obtain ⟨hk2, hw⟩ := hw
    refine xb_getI (C := R_Machine) (T := F_Machine) (N := 18) hx hb 7 17 hts fin_Machine hown hR hk2 (by decide) rfl (by decide) rfl (hts _ m_5027e2c0) (fun _ h9 => h9) (xb_d D_Machine_branch 7 rfl) ?_
    refine lv_aload_n hx hb (xb_d D_Machine_branch 8 rfl) rfl (lv_at hl 0 rfl) ?_
    refine xb_getP (C := R_Machine) (T := F_Machine) (N := 18) hx hb 7 14 hts fin_Machine hown hR hk2 (by decide) rfl (by decide) rfl (hts _ m_8f763f86) (fun _ h9 => h9) (xb_d D_Machine_branch 9 rfl) ?_
    obtain ⟨b3, eb3, hw⟩ := hw
    refine xb_some eb3 ?_
    refine lv_iload_n hx hb (xb_d D_Machine_branch 10 rfl) rfl (lv_at hl 1 rfl) ?_
    obtain ⟨hk5, hw⟩ := hw
    obtain ⟨hi4, hw⟩ := hw
    refine xb_iald hx hb hR hk5 hi4 (xb_d D_Machine_branch 11 rfl) ?_
    refine lv_iadd hx hb (xb_d D_Machine_branch 12 rfl) ?_
    obtain ⟨v6, ev6⟩ : ∃ x : Int32, x = ((xb_i h x0 17) + (xb_i h b3 (Int32.toNatClampNeg x1))) := ⟨_, rfl⟩
    have hw := hw v6 ev6
    refine xt_numi (y := v6) ev6.symm ?_
    refine lv_istore_n hx hb (xb_d D_Machine_branch 13 rfl) rfl hl (by decide) rfl (fun ls hl => ?_)
    have hl : lv_has ls 4 [(2, .int v6), (0, .ref x0), (1, .int x1)] := hl
    refine lv_aload_n hx hb (xb_d D_Machine_branch 14 rfl) rfl (lv_at hl 1 rfl) ?_
    refine xb_getP (C := R_Machine) (T := F_Machine) (N := 18) hx hb 7 13 hts fin_Machine hown hR hk2 (by decide) rfl (by decide) rfl (hts _ m_a6a0f666) (fun _ h9 => h9) (xb_d D_Machine_branch 15 rfl) ?_
    obtain ⟨b7, eb7, hw⟩ := hw
    refine xb_some eb7 ?_
    refine lv_iload_n hx hb (xb_d D_Machine_branch 16 rfl) rfl (lv_at hl 2 rfl) ?_
    obtain ⟨hk9, hw⟩ := hw
    obtain ⟨hi8, hw⟩ := hw
    refine xb_bald hx hb hR hk9 hi8 (xb_d D_Machine_branch 17 rfl) ?_
    refine lv_iconst (v := 3) hx hb (xb_d D_Machine_branch 18 rfl) (by decide) ?_
    refine lv_icmp_ne (tgt := 45) hx hb (xb_d D_Machine_branch 19 rfl) rfl (fun hc10 => ?_) (fun hc10 => ?_)
    · have hw := hw.1 hc10
      refine lv_aload_n hx hb (xb_d D_Machine_branch 29 rfl) rfl (lv_at hl 1 rfl) ?_
      refine xb_getP (C := R_Machine) (T := F_Machine) (N := 18) hx hb 7 13 hts fin_Machine hown hR hk2 (by decide) rfl (by decide) rfl (hts _ m_a6a0f666) (fun _ h9 => h9) (xb_d D_Machine_branch 30 rfl) ?_
      obtain ⟨b11, eb11, hw⟩ := hw
      refine xb_some eb11 ?_
      refine lv_iload_n hx hb (xb_d D_Machine_branch 31 rfl) rfl (lv_at hl 2 rfl) ?_
      refine lv_iconst (v := 1) hx hb (xb_d D_Machine_branch 32 rfl) (by decide) ?_
      refine lv_iadd hx hb (xb_d D_Machine_branch 33 rfl) ?_
      obtain ⟨hk13, hw⟩ := hw
      obtain ⟨hi12, hw⟩ := hw
      refine xb_bald hx hb hR hk13 hi12 (xb_d D_Machine_branch 34 rfl) ?_
      refine lv_bipush (v := 64) hx hb (xb_d D_Machine_branch 35 rfl) (by decide) ?_
      refine lv_icmp_eq (tgt := 78) hx hb (xb_d D_Machine_branch 36 rfl) rfl (fun hc14 => ?_) (fun hc14 => ?_)
      · have hw := hw.1 hc14
        exact am_Machine_branch_L78 l hfl D A σ MC MS h0 Qr x0 x1 v6 h hw p e s m args below meth c hC H locs ls k n hE (lv_sub hl [1, 2, 0] rfl) hR hS (by omega) (by omega)
      · have hw := hw.2 hc14
        refine lv_aload_n hx hb (xb_d D_Machine_branch 37 rfl) rfl (lv_at hl 1 rfl) ?_
        refine xb_getP (C := R_Machine) (T := F_Machine) (N := 18) hx hb 7 9 hts fin_Machine hown hR hk2 (by decide) rfl (by decide) rfl (hts _ m_6904195b) (fun _ h9 => h9) (xb_d D_Machine_branch 38 rfl) ?_
        obtain ⟨b15, eb15, hw⟩ := hw
        refine xb_some eb15 ?_
        refine lv_iload_n hx hb (xb_d D_Machine_branch 39 rfl) rfl (lv_at hl 0 rfl) ?_
        refine lv_aload_n hx hb (xb_d D_Machine_branch 40 rfl) rfl (lv_at hl 1 rfl) ?_
        refine xb_getP (C := R_Machine) (T := F_Machine) (N := 18) hx hb 7 9 hts fin_Machine hown hR hk2 (by decide) rfl (by decide) rfl (hts _ m_6904195b) (fun _ h9 => h9) (xb_d D_Machine_branch 41 rfl) ?_
        obtain ⟨b16, eb16, hw⟩ := hw
        refine xb_some eb16 ?_
        refine lv_aload_n hx hb (xb_d D_Machine_branch 42 rfl) rfl (lv_at hl 1 rfl) ?_
        refine xb_getI (C := R_Machine) (T := F_Machine) (N := 18) hx hb 7 10 hts fin_Machine hown hR hk2 (by decide) rfl (by decide) rfl (hts _ m_79cf62f6) (fun _ h9 => h9) (xb_d D_Machine_branch 43 rfl) ?_
        refine lv_iconst (v := 1) hx hb (xb_d D_Machine_branch 44 rfl) (by decide) ?_
        refine lv_isub hx hb (xb_d D_Machine_branch 45 rfl) ?_
        obtain ⟨hk18, hw⟩ := hw
        obtain ⟨hi17, hw⟩ := hw
        refine xb_lald hx hb hR hk18 hi17 (xb_d D_Machine_branch 46 rfl) ?_
        obtain ⟨hk19, hw⟩ := hw
        obtain ⟨hi20, hw⟩ := hw
        refine xb_last hx hb hR hS hk19 hi20 (xb_d D_Machine_branch 47 rfl) (fun H locs hR hS => ?_)
        obtain ⟨h21, eh21⟩ : ∃ x : xb_H, x = xb_L h b15 (Int32.toNatClampNeg v6) (xb_l h b16 (Int32.toNatClampNeg ((xb_i h x0 10) - 1))) := ⟨_, rfl⟩
        rw [← eh21] at hR
        have hw := hw h21 eh21
        have hE : xb_ext h0 h21 := by rw [eh21]; exact hE
        refine lv_iinc (v := (v6 + 1)) (k := 0) hx hb (xb_d D_Machine_branch 48 rfl) hl rfl (by first | rfl | decide) (by decide) rfl (fun ls hl => ?_)
        have hl : lv_has ls 4 [(2, .int (v6 + 1)), (0, .ref x0), (1, .int x1)] := hl
        exact am_Machine_branch_L78 l hfl D A σ MC MS h0 Qr x0 x1 (v6 + 1) h21 hw p e s m args below meth c hC H locs ls k n hE (lv_sub hl [1, 2, 0] rfl) hR hS (by omega) (by omega)
    · have hw := hw.2 hc10
      refine lv_aload_n hx hb (xb_d D_Machine_branch 20 rfl) rfl (lv_at hl 1 rfl) ?_
      refine lv_iload_n hx hb (xb_d D_Machine_branch 21 rfl) rfl (lv_at hl 0 rfl) ?_
      refine xb_putI (C := R_Machine) (T := F_Machine) (N := 18) (ty := .int) (x := v6) hx hb 7 10 hts fin_Machine t_Machine t_Machine_ok n_Machine hown hR hS hk2 (by decide) rfl (by decide) rfl (hts _ m_79cf62f6) (fun _ h9 => h9) rfl (by decide +kernel) rfl rfl (xb_d D_Machine_branch 22 rfl) (fun H locs hR hS => ?_)
      obtain ⟨h22, eh22⟩ : ∃ x : xb_H, x = xb_I h x0 10 v6 := ⟨_, rfl⟩
      rw [← eh22] at hR
      have hw := hw h22 eh22
      have hE : xb_ext h0 h22 := by rw [eh22]; exact hE
      refine lv_aload_n hx hb (xb_d D_Machine_branch 23 rfl) rfl (lv_at hl 1 rfl) ?_
      refine lv_iload_n hx hb (xb_d D_Machine_branch 24 rfl) rfl (lv_at hl 2 rfl) ?_
      refine lv_iconst (v := 2) hx hb (xb_d D_Machine_branch 25 rfl) (by decide) ?_
      refine lv_iadd hx hb (xb_d D_Machine_branch 26 rfl) ?_
      have hk2 : xb_k h22 x0 = 8 := by rw [eh22]; exact hk2
      refine xb_putI (C := R_Machine) (T := F_Machine) (N := 18) (ty := .int) (x := (x1 + 2)) hx hb 7 15 hts fin_Machine t_Machine t_Machine_ok n_Machine hown hR hS hk2 (by decide) rfl (by decide) rfl (hts _ m_6a595805) (fun _ h9 => h9) rfl (by decide +kernel) rfl rfl (xb_d D_Machine_branch 27 rfl) (fun H locs hR hS => ?_)
      obtain ⟨h23, eh23⟩ : ∃ x : xb_H, x = xb_I h22 x0 15 (x1 + 2) := ⟨_, rfl⟩
      rw [← eh23] at hR
      have hw := hw h23 eh23
      have hE : xb_ext h0 h23 := by rw [eh23]; exact hE
      exact xb_vret 0 0 hx hb hr hlocks (show k + 0 ≤ MC by omega) (show n + 0 ≤ MS by omega) hE hR hS (xb_d D_Machine_branch 28 rfl) hw
  · have hw := hw.2 hc1
    refine lv_aload_n hx hb (xb_d D_Machine_branch 3 rfl) rfl (lv_at hl 0 rfl) ?_
    obtain ⟨hk24, hw⟩ := hw
    refine xb_call0 (D := D) (A := A) (σ := σ) (h := h) (d := 4) (maxL := 7) (rest := []) (av := [.ref x0]) (fun T hT X => by obtain ⟨cb9, ra9, rb9, rc9⟩ := xb_recv (ci := 7) hR rfl hk24 (by decide); exact xt_invV X hx hown (hts _ m_decb3334) (hts _ m_d830cba0) (hts _ m_0077867b) (xt_sigOf (hts _ m_d7f63aa1)) nm_Machine_endCall (by rw [hT]; exact ra9) rb9 rc9 (g := F0 m 6 ls [.ref x0]) rfl (argsL := []) (rest := []) rfl rfl (by rw [hb]; exact (xb_d D_Machine_branch 4 rfl))) (ok_Machine_endCall l hfl D A σ x0 h _ hw) (hml.trans hl.1.symm) (by rw [hb]; exact (xb_d D_Machine_branch 4 rfl)) (Nat.le_of_ble_eq_true rfl) (Nat.le_of_ble_eq_true rfl) (Nat.le_of_ble_eq_true rfl) (show k ≤ MC by omega) (show n ≤ MS by omega) (xt_w1 hB.1 m_d7f63aa1) (xt_cdOf hB.1 m_d7f63aa1) (hts _ m_73451f9b) hB hR hS hA (fun vv h25 H locs hq hEh25 hR hS => ?_)
    obtain ⟨rfl, hw⟩ := hq
    have hw := hw hEh25
    have hE := hE.tr hEh25
    refine W.eq (g2 := F0 m 9 ls []) rfl ?_
    exact xb_vret 0 0 hx hb hr hlocks (show k + 0 ≤ MC by omega) (show n + 0 ≤ MS by omega) hE hR hS (xb_d D_Machine_branch 5 rfl) hw

theorem m_787d92a5 : (.fieldLink "StackHost$Machine" 172 "StackHost$World" "out" "LStackHost$Row;" : Cond) ∈ xt_tbl := xt_in (xt_t1 (List.mem_of_getElem? (i := 180) (by decide +kernel))) (by decide +kernel)
theorem m_ff376621 : (.methodLink "StackHost$Machine" 175 y_Row_add : Cond) ∈ xt_tbl := xt_in (xt_t7 (List.mem_of_getElem? (i := 219) (by decide +kernel))) (by decide +kernel)
set_option maxRecDepth 100000 in
def T_Machine_callHost : List (Nat × Instr × Nat) := [(0, .aload_n 0, 1), (1, .getfield 42, 3), (4, .getfield 172, 3), (7, .getfield 56, 3), (10, .sipush 4096, 3), (13, .if_icmp .lt 10, 3), (16, .aload_n 0, 1), (17, .bipush 10, 2), (19, .invokevirtual 156, 3), (22, .return_, 1), (23, .aload_n 0, 1), (24, .dup, 1), (25, .getfield 53, 3), (28, .iconst 1, 1), (29, .isub, 1), (30, .putfield 53, 3), (33, .aload_n 0, 1), (34, .getfield 42, 3), (37, .getfield 172, 3), (40, .aload_n 0, 1), (41, .getfield 35, 3), (44, .aload_n 0, 1), (45, .getfield 53, 3), (48, .laload, 1), (49, .invokevirtual 175, 3), (52, .aload_n 0, 1), (53, .iload_n 1, 1), (54, .putfield 108, 3), (57, .aload_n 0, 1), (58, .getfield 50, 3), (61, .ifCond .ne 8, 3), (64, .aload_n 0, 1), (65, .lconst 0, 1), (66, .invokevirtual 179, 3), (69, .return_, 1)]
theorem D_Machine_callHost : ∀ q ∈ T_Machine_callHost, decode b_Machine_callHost q.1 = .ok (q.2.1, q.2.2) := by decide +kernel

set_option maxHeartbeats 4000000 in
set_option maxRecDepth 100000 in
theorem am_Machine_callHost_L69 (l : Launch) (hfl : l.flags = pinnedFlags ++ [noTraceFlag]) (D : va_G) (A : Nat → Prop) (σ MC MS : Nat) (h0 : xb_H) (Qr : xb_H → Nat → Nat → Prop) (h : xb_H) (bc : Nat) (bs : Nat) (hw : w_Machine_callHost_L69 Qr h bc bs) : xb_am l D A σ 5 MC MS h0 (fun v h bc bs => v = none ∧ Qr h bc bs) (fun _ _ _ _ => False) y_Machine_callHost.cls y_Machine_callHost.name b_Machine_callHost 2 ([] : List ExceptionTableEntry) none 69 [] [] h bc bs := by
  unfold w_Machine_callHost_L69 at hw
  intro p e s m args below meth c hC H locs ls k n hE hl hR hS hk hn
  obtain ⟨hx, hb, hown, hlocks, htab, hml, hr, hB, hA, hnm⟩ := id hC
  have hts := hB.1.1.at args
  exact xb_vret bc bs hx hb hr hlocks (show k + bc ≤ MC by omega) (show n + bs ≤ MS by omega) hE hR hS (xb_d D_Machine_callHost 34 rfl) hw

set_option maxHeartbeats 4000000 in
set_option maxRecDepth 100000 in
theorem ok_Machine_callHost (l : Launch) (hfl : l.flags = pinnedFlags ++ [noTraceFlag]) (D : va_G) (A : Nat → Prop) (σ : Nat) (x0 : Nat) (x1 : Int32) (h : xb_H) (bc : Nat) (bs : Nat) (Qr : xb_H → Nat → Nat → Prop) (hw : w_Machine_callHost x0 x1 h bc bs Qr) : xb_Met l y_Machine_callHost [.code y_Machine_callHost b_Machine_callHost 2 none] (xb_rm 5 bc bs) (xb_Pc D A σ h [.ref x0, .int x1]) (xb_Qc D A h bc bs (fun v h bc bs => v = none ∧ Qr h bc bs) (fun _ _ _ _ => False)) A := by
  refine xb_ofAm (cc := b_Machine_callHost) (by decide) (Nat.le_of_ble_eq_true rfl) ?_
  unfold w_Machine_callHost at hw
  show xb_am l D A σ 5 bc bs h (fun v h bc bs => v = none ∧ Qr h bc bs) (fun _ _ _ _ => False) y_Machine_callHost.cls y_Machine_callHost.name b_Machine_callHost 2 ([] : List ExceptionTableEntry) none 0 [(0, .ref x0), (1, .int x1)] [] h bc bs
  obtain ⟨MC, hMC⟩ : ∃ x, x = bc := ⟨_, rfl⟩
  obtain ⟨MS, hMS⟩ : ∃ x, x = bs := ⟨_, rfl⟩
  rw [show xb_am l D A σ 5 bc bs = xb_am l D A σ 5 MC MS by rw [hMC, hMS]]
  obtain ⟨h0, hh0⟩ : ∃ x, x = h := ⟨_, rfl⟩
  rw [show xb_am l D A σ 5 MC MS h = xb_am l D A σ 5 MC MS h0 by rw [hh0]]
  intro p e s m args below meth c hC H locs ls k n hE hl hR hS hk hn
  obtain ⟨hx, hb, hown, hlocks, htab, hml, hr, hB, hA, hnm⟩ := id hC
  have hts := hB.1.1.at args
  refine lv_aload_n hx hb (xb_d D_Machine_callHost 0 rfl) rfl (lv_at hl 0 rfl) ?_
  obtain ⟨hk1, hw⟩ := hw
  refine xb_getP (C := R_Machine) (T := F_Machine) (N := 18) hx hb 7 0 hts fin_Machine hown hR hk1 (by decide) rfl (by decide) rfl (hts _ m_436e7c8c) (fun _ h9 => h9) (xb_d D_Machine_callHost 1 rfl) ?_
  obtain ⟨b2, eb2, hw⟩ := hw
  refine xb_some eb2 ?_
  obtain ⟨hk3, hw⟩ := hw
  refine xb_getP (C := R_World) (T := F_World) (N := 16) hx hb 6 6 hts fin_World hown hR hk3 (by decide) rfl (by decide) rfl (hts _ m_787d92a5) (fun _ h9 => h9) (xb_d D_Machine_callHost 2 rfl) ?_
  obtain ⟨b4, eb4, hw⟩ := hw
  refine xb_some eb4 ?_
  obtain ⟨hk5, hw⟩ := hw
  refine xb_getI (C := R_Row) (T := F_Row) (N := 3) hx hb 1 1 hts fin_Row hown hR hk5 (by decide) rfl (by decide) rfl (hts _ m_7a6a28c3) (fun _ h9 => h9) (xb_d D_Machine_callHost 3 rfl) ?_
  refine lv_sipush (v := 4096) hx hb (xb_d D_Machine_callHost 4 rfl) (by decide) ?_
  refine lv_icmp_lt (tgt := 23) hx hb (xb_d D_Machine_callHost 5 rfl) rfl (fun hc6 => ?_) (fun hc6 => ?_)
  · have hw := hw.1 hc6
    refine lv_aload_n hx hb (xb_d D_Machine_callHost 10 rfl) rfl (lv_at hl 0 rfl) ?_
    refine lv_dup hx hb (xb_d D_Machine_callHost 11 rfl) rfl ?_
    refine xb_getI (C := R_Machine) (T := F_Machine) (N := 18) hx hb 7 10 hts fin_Machine hown hR hk1 (by decide) rfl (by decide) rfl (hts _ m_79cf62f6) (fun _ h9 => h9) (xb_d D_Machine_callHost 12 rfl) ?_
    refine lv_iconst (v := 1) hx hb (xb_d D_Machine_callHost 13 rfl) (by decide) ?_
    refine lv_isub hx hb (xb_d D_Machine_callHost 14 rfl) ?_
    refine xb_putI (C := R_Machine) (T := F_Machine) (N := 18) (ty := .int) (x := ((xb_i h x0 10) - 1)) hx hb 7 10 hts fin_Machine t_Machine t_Machine_ok n_Machine hown hR hS hk1 (by decide) rfl (by decide) rfl (hts _ m_79cf62f6) (fun _ h9 => h9) rfl (by decide +kernel) rfl rfl (xb_d D_Machine_callHost 15 rfl) (fun H locs hR hS => ?_)
    obtain ⟨h7, eh7⟩ : ∃ x : xb_H, x = xb_I h x0 10 ((xb_i h x0 10) - 1) := ⟨_, rfl⟩
    rw [← eh7] at hR
    have hw := hw h7 eh7
    have hE : xb_ext h0 h7 := by rw [eh7]; exact hE
    refine lv_aload_n hx hb (xb_d D_Machine_callHost 16 rfl) rfl (lv_at hl 0 rfl) ?_
    have hk1 : xb_k h7 x0 = 8 := by rw [eh7]; exact hk1
    refine xb_getP (C := R_Machine) (T := F_Machine) (N := 18) hx hb 7 0 hts fin_Machine hown hR hk1 (by decide) rfl (by decide) rfl (hts _ m_436e7c8c) (fun _ h9 => h9) (xb_d D_Machine_callHost 17 rfl) ?_
    obtain ⟨b8, eb8, hw⟩ := hw
    refine xb_some eb8 ?_
    obtain ⟨hk9, hw⟩ := hw
    refine xb_getP (C := R_World) (T := F_World) (N := 16) hx hb 6 6 hts fin_World hown hR hk9 (by decide) rfl (by decide) rfl (hts _ m_787d92a5) (fun _ h9 => h9) (xb_d D_Machine_callHost 18 rfl) ?_
    obtain ⟨b10, eb10, hw⟩ := hw
    refine xb_some eb10 ?_
    refine lv_aload_n hx hb (xb_d D_Machine_callHost 19 rfl) rfl (lv_at hl 0 rfl) ?_
    refine xb_getP (C := R_Machine) (T := F_Machine) (N := 18) hx hb 7 9 hts fin_Machine hown hR hk1 (by decide) rfl (by decide) rfl (hts _ m_6904195b) (fun _ h9 => h9) (xb_d D_Machine_callHost 20 rfl) ?_
    obtain ⟨b11, eb11, hw⟩ := hw
    refine xb_some eb11 ?_
    refine lv_aload_n hx hb (xb_d D_Machine_callHost 21 rfl) rfl (lv_at hl 0 rfl) ?_
    refine xb_getI (C := R_Machine) (T := F_Machine) (N := 18) hx hb 7 10 hts fin_Machine hown hR hk1 (by decide) rfl (by decide) rfl (hts _ m_79cf62f6) (fun _ h9 => h9) (xb_d D_Machine_callHost 22 rfl) ?_
    obtain ⟨hk13, hw⟩ := hw
    obtain ⟨hi12, hw⟩ := hw
    refine xb_lald hx hb hR hk13 hi12 (xb_d D_Machine_callHost 23 rfl) ?_
    obtain ⟨hk14, hw⟩ := hw
    refine xb_call (D := D) (A := A) (σ := σ) (h := h7) (d := 4) (mc := bc) (ms := bs) (maxL := 3) (rest := []) (av := [.ref b10, .long (xb_l h7 b11 (Int32.toNatClampNeg (xb_i h7 x0 10)))]) (fun T hT X => by obtain ⟨cb9, ra9, rb9, rc9⟩ := xb_recv (ci := 1) hR rfl hk14 (by decide); exact xt_invV X hx hown (hts _ m_ff376621) (hts _ m_7e8d081f) (hts _ m_4e47f51a) (xt_sigOf (hts _ m_4f1bdc54)) nm_Row_add (by rw [hT]; exact ra9) rb9 rc9 (g := F0 m 49 ls [.long (xb_l h7 b11 (Int32.toNatClampNeg (xb_i h7 x0 10))), .ref b10]) rfl (argsL := [.long (xb_l h7 b11 (Int32.toNatClampNeg (xb_i h7 x0 10)))]) (rest := []) rfl rfl (by rw [hb]; exact (xb_d D_Machine_callHost 24 rfl))) (ok_Row_add l hfl D A σ b10 (xb_l h7 b11 (Int32.toNatClampNeg (xb_i h7 x0 10))) h7 bc bs _ hw) (hml.trans hl.1.symm) (by rw [hb]; exact (xb_d D_Machine_callHost 24 rfl)) (Nat.le_of_ble_eq_true rfl) (Nat.le_of_ble_eq_true rfl) (Nat.le_of_ble_eq_true rfl) (show k + bc ≤ MC by omega) (show n + bs ≤ MS by omega) (xt_w1 hB.1 m_4f1bdc54) (xt_cdOf hB.1 m_4f1bdc54) (hts _ m_c1bef504) hB hR hS hA (fun vv h15 bc16 bs16 kk16 nn16 H locs hk16 hn16 hq hEh15 hR hS => ?_) (fun XX ax h15 bc16 bs16 kk16 nn16 H locs hk16 hn16 hq hEh15 hex hR hS => ?_)
    · obtain ⟨rfl, hw⟩ := hq
      have hw := hw hEh15
      have hE := hE.tr hEh15
      refine W.eq (g2 := F0 m 52 ls []) rfl ?_
      refine lv_aload_n hx hb (xb_d D_Machine_callHost 25 rfl) rfl (lv_at hl 0 rfl) ?_
      refine lv_iload_n hx hb (xb_d D_Machine_callHost 26 rfl) rfl (lv_at hl 1 rfl) ?_
      have hk1 : xb_k h15 x0 = 8 := hEh15.k hk1
      refine xb_putI (C := R_Machine) (T := F_Machine) (N := 18) (ty := .int) (x := x1) hx hb 7 15 hts fin_Machine t_Machine t_Machine_ok n_Machine hown hR hS hk1 (by decide) rfl (by decide) rfl (hts _ m_6a595805) (fun _ h9 => h9) rfl (by decide +kernel) rfl rfl (xb_d D_Machine_callHost 27 rfl) (fun H locs hR hS => ?_)
      obtain ⟨h17, eh17⟩ : ∃ x : xb_H, x = xb_I h15 x0 15 x1 := ⟨_, rfl⟩
      rw [← eh17] at hR
      have hw := hw h17 eh17
      have hE : xb_ext h0 h17 := by rw [eh17]; exact hE
      refine lv_aload_n hx hb (xb_d D_Machine_callHost 28 rfl) rfl (lv_at hl 0 rfl) ?_
      have hk1 : xb_k h17 x0 = 8 := by rw [eh17]; exact hk1
      refine xb_getI (C := R_Machine) (T := F_Machine) (N := 18) hx hb 7 4 hts fin_Machine hown hR hk1 (by decide) rfl (by decide) rfl (hts _ m_61f414b6) (fun _ h9 => h9) (xb_d D_Machine_callHost 29 rfl) ?_
      refine lv_if_ne (tgt := 69) hx hb (xb_d D_Machine_callHost 30 rfl) rfl (fun hc18 => ?_) (fun hc18 => ?_)
      · have hw := hw.1 hc18
        exact am_Machine_callHost_L69 l hfl D A σ MC MS h0 Qr h17 bc16 bs16 hw p e s m args below meth c hC H locs ls (k + kk16) (n + nn16) hE (lv_sub hl [] rfl) hR hS (by omega) (by omega)
      · have hw := hw.2 hc18
        refine lv_aload_n hx hb (xb_d D_Machine_callHost 31 rfl) rfl (lv_at hl 0 rfl) ?_
        refine lv_lconst (v := 0) hx hb (xb_d D_Machine_callHost 32 rfl) (by decide) ?_
        refine xb_call0 (D := D) (A := A) (σ := σ) (h := h17) (d := 2) (maxL := 3) (rest := []) (av := [.ref x0, .long 0]) (fun T hT X => by obtain ⟨cb9, ra9, rb9, rc9⟩ := xb_recv (ci := 7) hR rfl hk1 (by decide); exact xt_invV X hx hown (hts _ m_982264a8) (hts _ m_f9ad050c) (hts _ m_68070468) (xt_sigOf (hts _ m_3e244fcc)) nm_Machine_finish (by rw [hT]; exact ra9) rb9 rc9 (g := F0 m 66 ls [.long 0, .ref x0]) rfl (argsL := [.long 0]) (rest := []) rfl rfl (by rw [hb]; exact (xb_d D_Machine_callHost 33 rfl))) (ok_Machine_finish l hfl D A σ x0 0 h17 _ hw) (hml.trans hl.1.symm) (by rw [hb]; exact (xb_d D_Machine_callHost 33 rfl)) (Nat.le_of_ble_eq_true rfl) (Nat.le_of_ble_eq_true rfl) (Nat.le_of_ble_eq_true rfl) (show (k + kk16) ≤ MC by omega) (show (n + nn16) ≤ MS by omega) (xt_w1 hB.1 m_3e244fcc) (xt_cdOf hB.1 m_3e244fcc) (hts _ m_73451f9b) hB hR hS hA (fun vv h19 H locs hq hEh19 hR hS => ?_)
        obtain ⟨rfl, hw⟩ := hq
        have hw := hw hEh19
        have hE := hE.tr hEh19
        refine W.eq (g2 := F0 m 69 ls []) rfl ?_
        exact am_Machine_callHost_L69 l hfl D A σ MC MS h0 Qr h19 bc16 bs16 hw p e s m args below meth c hC H locs ls (k + kk16) (n + nn16) hE (lv_sub hl [] rfl) hR hS (by omega) (by omega)
    · exact False.elim hq
  · have hw := hw.2 hc6
    refine lv_aload_n hx hb (xb_d D_Machine_callHost 6 rfl) rfl (lv_at hl 0 rfl) ?_
    refine lv_bipush (v := 10) hx hb (xb_d D_Machine_callHost 7 rfl) (by decide) ?_
    refine xb_call0 (D := D) (A := A) (σ := σ) (h := h) (d := 2) (maxL := 3) (rest := []) (av := [.ref x0, .int 10]) (fun T hT X => by obtain ⟨cb9, ra9, rb9, rc9⟩ := xb_recv (ci := 7) hR rfl hk1 (by decide); exact xt_invV X hx hown (hts _ m_8f5db99d) (hts _ m_0ddc8afe) (hts _ m_f5561462) (xt_sigOf (hts _ m_f0d4fd47)) nm_Machine_fall (by rw [hT]; exact ra9) rb9 rc9 (g := F0 m 19 ls [.int 10, .ref x0]) rfl (argsL := [.int 10]) (rest := []) rfl rfl (by rw [hb]; exact (xb_d D_Machine_callHost 8 rfl))) (ok_Machine_fall l hfl D A σ x0 10 h _ hw) (hml.trans hl.1.symm) (by rw [hb]; exact (xb_d D_Machine_callHost 8 rfl)) (Nat.le_of_ble_eq_true rfl) (Nat.le_of_ble_eq_true rfl) (Nat.le_of_ble_eq_true rfl) (show k ≤ MC by omega) (show n ≤ MS by omega) (xt_w1 hB.1 m_f0d4fd47) (xt_cdOf hB.1 m_f0d4fd47) (hts _ m_73451f9b) hB hR hS hA (fun vv h21 H locs hq hEh21 hR hS => ?_)
    obtain ⟨rfl, hw⟩ := hq
    have hw := hw hEh21
    have hE := hE.tr hEh21
    refine W.eq (g2 := F0 m 22 ls []) rfl ?_
    exact xb_vret bc bs hx hb hr hlocks (show k + bc ≤ MC by omega) (show n + bs ≤ MS by omega) hE hR hS (xb_d D_Machine_callHost 9 rfl) hw

theorem m_cc3e2345 : (.fieldLink "StackHost$Machine" 239 "StackHost$Instance" "table" "LStackHost$Table;" : Cond) ∈ xt_tbl := xt_in (xt_t7 (List.mem_of_getElem? (i := 14) (by decide +kernel))) (by decide +kernel)
theorem m_77b75e41 : (.fieldLink "StackHost$Machine" 243 "StackHost$Table" "size" "I" : Cond) ∈ xt_tbl := xt_in (xt_t7 (List.mem_of_getElem? (i := 56) (by decide +kernel))) (by decide +kernel)
theorem m_ea6ed739 : (.fieldLink "StackHost$Machine" 246 "StackHost$World" "elements" "LStackHost$Row;" : Cond) ∈ xt_tbl := xt_in (xt_t1 (List.mem_of_getElem? (i := 176) (by decide +kernel))) (by decide +kernel)
theorem m_622544a8 : (.fieldLink "StackHost$Machine" 249 "StackHost$Table" "from" "I" : Cond) ∈ xt_tbl := xt_in (xt_t7 (List.mem_of_getElem? (i := 51) (by decide +kernel))) (by decide +kernel)
theorem m_f57edc11 : (.methodLink "StackHost$Machine" 154 y_Row_at : Cond) ∈ xt_tbl := xt_in (xt_t7 (List.mem_of_getElem? (i := 226) (by decide +kernel))) (by decide +kernel)
theorem m_60d23c68 : (.methodLink "StackHost$Machine" 252 y_World_fits : Cond) ∈ xt_tbl := xt_in (xt_t9 (List.mem_of_getElem? (i := 22) (by decide +kernel))) (by decide +kernel)
theorem m_694f954f : (.instanceMethod y_World_fits : Cond) ∈ xt_tbl := xt_in (xt_t6 (List.mem_of_getElem? (i := 133) (by decide +kernel))) (by decide +kernel)
theorem m_d14fe5df : (.selects "StackHost$World" y_World_fits y_World_fits : Cond) ∈ xt_tbl := xt_in (xt_t6 (List.mem_of_getElem? (i := 134) (by decide +kernel))) (by decide +kernel)
theorem m_af77d148 : (.code y_World_fits b_World_fits 5 (some .boolean) : Cond) ∈ xt_tbl := xt_in (xt_t6 (List.mem_of_getElem? (i := 135) (by decide +kernel))) (by decide +kernel)
theorem nm_World_fits : xt_nm y_World_fits 3 := ⟨by decide +kernel, by decide +kernel⟩
set_option maxRecDepth 100000 in
def T_Machine_chosenElement : List (Nat × Instr × Nat) := [(0, .aload_n 0, 1), (1, .dup, 1), (2, .getfield 53, 3), (5, .iconst 1, 1), (6, .isub, 1), (7, .putfield 53, 3), (10, .aload_n 0, 1), (11, .getfield 117, 3), (14, .getfield 239, 3), (17, .astore_n 1, 1), (18, .aload_n 0, 1), (19, .getfield 35, 3), (22, .aload_n 0, 1), (23, .getfield 53, 3), (26, .laload, 1), (27, .aload_n 1, 1), (28, .getfield 243, 3), (31, .i2l, 1), (32, .lcmp, 1), (33, .ifCond .lt 11, 3), (36, .aload_n 0, 1), (37, .bipush 6, 2), (39, .invokevirtual 156, 3), (42, .iconst (-1), 1), (43, .ireturn, 1), (44, .aload_n 0, 1), (45, .getfield 42, 3), (48, .getfield 246, 3), (51, .aload_n 1, 1), (52, .getfield 249, 3), (55, .aload_n 0, 1), (56, .getfield 35, 3), (59, .aload_n 0, 1), (60, .getfield 53, 3), (63, .laload, 1), (64, .l2i, 1), (65, .iadd, 1), (66, .iconst 0, 1), (67, .invokevirtual 154, 3), (70, .istore_n 2, 1), (71, .iload_n 2, 1), (72, .iconst (-1), 1), (73, .if_icmp .ne 12, 3), (76, .aload_n 0, 1), (77, .bipush 7, 2), (79, .invokevirtual 156, 3), (82, .goto 40, 3), (85, .aload_n 0, 1), (86, .getfield 42, 3), (89, .iload_n 2, 1), (90, .aload_n 0, 1), (91, .getfield 117, 3), (94, .getfield 139, 3), (97, .aload_n 0, 1), (98, .getfield 111, 3), (101, .aload_n 0, 1), (102, .getfield 108, 3), (105, .iconst 1, 1), (106, .iadd, 1), (107, .iaload, 1), (108, .invokevirtual 252, 3), (111, .ifCond .ne 11, 3), (114, .aload_n 0, 1), (115, .bipush 8, 2), (117, .invokevirtual 156, 3), (120, .iconst (-1), 1), (121, .ireturn, 1), (122, .iload_n 2, 1), (123, .ireturn, 1)]
theorem D_Machine_chosenElement : ∀ q ∈ T_Machine_chosenElement, decode b_Machine_chosenElement q.1 = .ok (q.2.1, q.2.2) := by decide +kernel

set_option maxHeartbeats 4000000 in
set_option maxRecDepth 100000 in
theorem am_Machine_chosenElement_L122 (l : Launch) (hfl : l.flags = pinnedFlags ++ [noTraceFlag]) (D : va_G) (A : Nat → Prop) (σ MC MS : Nat) (h0 : xb_H) (Qr : Int32 → xb_H → Prop) (x2 : Int32) (h : xb_H) (hw : w_Machine_chosenElement_L122 Qr x2 h) : xb_am l D A σ 5 MC MS h0 (fun v h _ _ => ∃ r, v = some (.int r) ∧ Qr r h) (fun _ _ _ _ => False) y_Machine_chosenElement.cls y_Machine_chosenElement.name b_Machine_chosenElement 3 ([] : List ExceptionTableEntry) (some .int) 122 [(2, .int x2)] [] h 0 0 := by
  unfold w_Machine_chosenElement_L122 at hw
  intro p e s m args below meth c hC H locs ls k n hE hl hR hS hk hn
  obtain ⟨hx, hb, hown, hlocks, htab, hml, hr, hB, hA, hnm⟩ := id hC
  have hts := hB.1.1.at args
  refine lv_iload_n hx hb (xb_d D_Machine_chosenElement 67 rfl) rfl (lv_at hl 0 rfl) ?_
  exact xb_iret 0 0 hx hb hr hlocks (show k + 0 ≤ MC by omega) (show n + 0 ≤ MS by omega) hE hR hS (xb_d D_Machine_chosenElement 68 rfl) hw

set_option maxHeartbeats 4000000 in
set_option maxRecDepth 100000 in
theorem ok_Machine_chosenElement (l : Launch) (hfl : l.flags = pinnedFlags ++ [noTraceFlag]) (D : va_G) (A : Nat → Prop) (σ : Nat) (x0 : Nat) (h : xb_H) (Qr : Int32 → xb_H → Prop) (hw : w_Machine_chosenElement x0 h Qr) : xb_Met l y_Machine_chosenElement [.code y_Machine_chosenElement b_Machine_chosenElement 3 (some .int)] (xb_rm 5 0 0) (xb_Pc D A σ h [.ref x0]) (xb_Qc D A h 0 0 (fun v h _ _ => ∃ r, v = some (.int r) ∧ Qr r h) (fun _ _ _ _ => False)) A := by
  refine xb_ofAm (cc := b_Machine_chosenElement) (by decide) (Nat.le_of_ble_eq_true rfl) ?_
  unfold w_Machine_chosenElement at hw
  show xb_am l D A σ 5 0 0 h (fun v h _ _ => ∃ r, v = some (.int r) ∧ Qr r h) (fun _ _ _ _ => False) y_Machine_chosenElement.cls y_Machine_chosenElement.name b_Machine_chosenElement 3 ([] : List ExceptionTableEntry) (some .int) 0 [(0, .ref x0)] [] h 0 0
  obtain ⟨MC, hMC⟩ : ∃ x, x = 0 := ⟨_, rfl⟩
  obtain ⟨MS, hMS⟩ : ∃ x, x = 0 := ⟨_, rfl⟩
  rw [show xb_am l D A σ 5 0 0 = xb_am l D A σ 5 MC MS by rw [hMC, hMS]]
  obtain ⟨h0, hh0⟩ : ∃ x, x = h := ⟨_, rfl⟩
  rw [show xb_am l D A σ 5 MC MS h = xb_am l D A σ 5 MC MS h0 by rw [hh0]]
  intro p e s m args below meth c hC H locs ls k n hE hl hR hS hk hn
  obtain ⟨hx, hb, hown, hlocks, htab, hml, hr, hB, hA, hnm⟩ := id hC
  have hts := hB.1.1.at args
  refine lv_aload_n hx hb (xb_d D_Machine_chosenElement 0 rfl) rfl (lv_at hl 0 rfl) ?_
  refine lv_dup hx hb (xb_d D_Machine_chosenElement 1 rfl) rfl ?_
  obtain ⟨hk1, hw⟩ := hw
  refine xb_getI (C := R_Machine) (T := F_Machine) (N := 18) hx hb 7 10 hts fin_Machine hown hR hk1 (by decide) rfl (by decide) rfl (hts _ m_79cf62f6) (fun _ h9 => h9) (xb_d D_Machine_chosenElement 2 rfl) ?_
  refine lv_iconst (v := 1) hx hb (xb_d D_Machine_chosenElement 3 rfl) (by decide) ?_
  refine lv_isub hx hb (xb_d D_Machine_chosenElement 4 rfl) ?_
  refine xb_putI (C := R_Machine) (T := F_Machine) (N := 18) (ty := .int) (x := ((xb_i h x0 10) - 1)) hx hb 7 10 hts fin_Machine t_Machine t_Machine_ok n_Machine hown hR hS hk1 (by decide) rfl (by decide) rfl (hts _ m_79cf62f6) (fun _ h9 => h9) rfl (by decide +kernel) rfl rfl (xb_d D_Machine_chosenElement 5 rfl) (fun H locs hR hS => ?_)
  obtain ⟨h2, eh2⟩ : ∃ x : xb_H, x = xb_I h x0 10 ((xb_i h x0 10) - 1) := ⟨_, rfl⟩
  rw [← eh2] at hR
  have hw := hw h2 eh2
  have hE : xb_ext h0 h2 := by rw [eh2]; exact hE
  refine lv_aload_n hx hb (xb_d D_Machine_chosenElement 6 rfl) rfl (lv_at hl 0 rfl) ?_
  have hk1 : xb_k h2 x0 = 8 := by rw [eh2]; exact hk1
  refine xb_getP (C := R_Machine) (T := F_Machine) (N := 18) hx hb 7 12 hts fin_Machine hown hR hk1 (by decide) rfl (by decide) rfl (hts _ m_a347cb26) (fun _ h9 => h9) (xb_d D_Machine_chosenElement 7 rfl) ?_
  obtain ⟨b3, eb3, hw⟩ := hw
  refine xb_some eb3 ?_
  obtain ⟨hk4, hw⟩ := hw
  refine xb_getP (C := R_Instance) (T := F_Instance) (N := 8) hx hb 10 6 hts fin_Instance hown hR hk4 (by decide) rfl (by decide) rfl (hts _ m_cc3e2345) (fun _ h9 => h9) (xb_d D_Machine_chosenElement 8 rfl) ?_
  refine xb_split (fun ho => ?_) (fun b5 ho => ?_)
  · have hw := hw.1 ho
    refine lv_astore_nN hx hb (xb_d D_Machine_chosenElement 9 rfl) rfl hl (by decide) rfl (fun ls hl => ?_)
    have hl : lv_has ls 3 [(1, .null), (0, .ref x0)] := hl
    refine lv_aload_n hx hb (xb_d D_Machine_chosenElement 10 rfl) rfl (lv_at hl 1 rfl) ?_
    refine xb_getP (C := R_Machine) (T := F_Machine) (N := 18) hx hb 7 9 hts fin_Machine hown hR hk1 (by decide) rfl (by decide) rfl (hts _ m_6904195b) (fun _ h9 => h9) (xb_d D_Machine_chosenElement 11 rfl) ?_
    obtain ⟨b6, eb6, hw⟩ := hw
    refine xb_some eb6 ?_
    refine lv_aload_n hx hb (xb_d D_Machine_chosenElement 12 rfl) rfl (lv_at hl 1 rfl) ?_
    refine xb_getI (C := R_Machine) (T := F_Machine) (N := 18) hx hb 7 10 hts fin_Machine hown hR hk1 (by decide) rfl (by decide) rfl (hts _ m_79cf62f6) (fun _ h9 => h9) (xb_d D_Machine_chosenElement 13 rfl) ?_
    obtain ⟨hk8, hw⟩ := hw
    obtain ⟨hi7, hw⟩ := hw
    refine xb_lald hx hb hR hk8 hi7 (xb_d D_Machine_chosenElement 14 rfl) ?_
    refine lv_aload_nN hx hb (xb_d D_Machine_chosenElement 15 rfl) rfl (lv_at hl 0 rfl) ?_
    exact False.elim hw
  · have hw := hw.2 b5 ho
    refine lv_astore_n hx hb (xb_d D_Machine_chosenElement 9 rfl) rfl hl (by decide) rfl (fun ls hl => ?_)
    have hl : lv_has ls 3 [(1, .ref b5), (0, .ref x0)] := hl
    refine lv_aload_n hx hb (xb_d D_Machine_chosenElement 10 rfl) rfl (lv_at hl 1 rfl) ?_
    refine xb_getP (C := R_Machine) (T := F_Machine) (N := 18) hx hb 7 9 hts fin_Machine hown hR hk1 (by decide) rfl (by decide) rfl (hts _ m_6904195b) (fun _ h9 => h9) (xb_d D_Machine_chosenElement 11 rfl) ?_
    obtain ⟨b9, eb9, hw⟩ := hw
    refine xb_some eb9 ?_
    refine lv_aload_n hx hb (xb_d D_Machine_chosenElement 12 rfl) rfl (lv_at hl 1 rfl) ?_
    refine xb_getI (C := R_Machine) (T := F_Machine) (N := 18) hx hb 7 10 hts fin_Machine hown hR hk1 (by decide) rfl (by decide) rfl (hts _ m_79cf62f6) (fun _ h9 => h9) (xb_d D_Machine_chosenElement 13 rfl) ?_
    obtain ⟨hk11, hw⟩ := hw
    obtain ⟨hi10, hw⟩ := hw
    refine xb_lald hx hb hR hk11 hi10 (xb_d D_Machine_chosenElement 14 rfl) ?_
    refine lv_aload_n hx hb (xb_d D_Machine_chosenElement 15 rfl) rfl (lv_at hl 0 rfl) ?_
    obtain ⟨hk12, hw⟩ := hw
    refine xb_getI (C := R_Table) (T := F_Table) (N := 3) hx hb 11 1 hts fin_Table hown hR hk12 (by decide) rfl (by decide) rfl (hts _ m_77b75e41) (fun _ h9 => h9) (xb_d D_Machine_chosenElement 16 rfl) ?_
    refine lv_i2l hx hb (xb_d D_Machine_chosenElement 17 rfl) rfl ?_
    refine xb_lc_lt (tgt := 44) hx hb (xb_d D_Machine_chosenElement 18 rfl) (xb_d D_Machine_chosenElement 19 rfl) rfl (fun hc13 => ?_) (fun hc13 => ?_)
    · have hw := hw.1 hc13
      refine lv_aload_n hx hb (xb_d D_Machine_chosenElement 25 rfl) rfl (lv_at hl 1 rfl) ?_
      refine xb_getP (C := R_Machine) (T := F_Machine) (N := 18) hx hb 7 0 hts fin_Machine hown hR hk1 (by decide) rfl (by decide) rfl (hts _ m_436e7c8c) (fun _ h9 => h9) (xb_d D_Machine_chosenElement 26 rfl) ?_
      obtain ⟨b14, eb14, hw⟩ := hw
      refine xb_some eb14 ?_
      obtain ⟨hk15, hw⟩ := hw
      refine xb_getP (C := R_World) (T := F_World) (N := 16) hx hb 6 4 hts fin_World hown hR hk15 (by decide) rfl (by decide) rfl (hts _ m_ea6ed739) (fun _ h9 => h9) (xb_d D_Machine_chosenElement 27 rfl) ?_
      obtain ⟨b16, eb16, hw⟩ := hw
      refine xb_some eb16 ?_
      refine lv_aload_n hx hb (xb_d D_Machine_chosenElement 28 rfl) rfl (lv_at hl 0 rfl) ?_
      refine xb_getI (C := R_Table) (T := F_Table) (N := 3) hx hb 11 0 hts fin_Table hown hR hk12 (by decide) rfl (by decide) rfl (hts _ m_622544a8) (fun _ h9 => h9) (xb_d D_Machine_chosenElement 29 rfl) ?_
      refine lv_aload_n hx hb (xb_d D_Machine_chosenElement 30 rfl) rfl (lv_at hl 1 rfl) ?_
      refine xb_getP (C := R_Machine) (T := F_Machine) (N := 18) hx hb 7 9 hts fin_Machine hown hR hk1 (by decide) rfl (by decide) rfl (hts _ m_6904195b) (fun _ h9 => h9) (xb_d D_Machine_chosenElement 31 rfl) ?_
      obtain ⟨b17, eb17, hw⟩ := hw
      refine xb_some eb17 ?_
      refine lv_aload_n hx hb (xb_d D_Machine_chosenElement 32 rfl) rfl (lv_at hl 1 rfl) ?_
      refine xb_getI (C := R_Machine) (T := F_Machine) (N := 18) hx hb 7 10 hts fin_Machine hown hR hk1 (by decide) rfl (by decide) rfl (hts _ m_79cf62f6) (fun _ h9 => h9) (xb_d D_Machine_chosenElement 33 rfl) ?_
      obtain ⟨hk19, hw⟩ := hw
      obtain ⟨hi18, hw⟩ := hw
      refine xb_lald hx hb hR hk19 hi18 (xb_d D_Machine_chosenElement 34 rfl) ?_
      refine lv_l2i hx hb (xb_d D_Machine_chosenElement 35 rfl) rfl ?_
      refine lv_iadd hx hb (xb_d D_Machine_chosenElement 36 rfl) ?_
      refine lv_iconst (v := 0) hx hb (xb_d D_Machine_chosenElement 37 rfl) (by decide) ?_
      obtain ⟨hk20, hw⟩ := hw
      refine xb_call0 (D := D) (A := A) (σ := σ) (h := h2) (d := 2) (maxL := 3) (rest := []) (av := [.ref b16, .int ((xb_i h2 b5 0) + (Int64.toInt32 (xb_l h2 b17 (Int32.toNatClampNeg (xb_i h2 x0 10))))), .int 0]) (fun T hT X => by obtain ⟨cb9, ra9, rb9, rc9⟩ := xb_recv (ci := 1) hR rfl hk20 (by decide); exact xt_invV X hx hown (hts _ m_f57edc11) (hts _ m_8e233096) (hts _ m_27eed10c) (xt_sigOf (hts _ m_ff1c70ae)) nm_Row_at (by rw [hT]; exact ra9) rb9 rc9 (g := F0 m 67 ls [.int 0, .int ((xb_i h2 b5 0) + (Int64.toInt32 (xb_l h2 b17 (Int32.toNatClampNeg (xb_i h2 x0 10))))), .ref b16]) rfl (argsL := [.int ((xb_i h2 b5 0) + (Int64.toInt32 (xb_l h2 b17 (Int32.toNatClampNeg (xb_i h2 x0 10))))), .int 0]) (rest := []) rfl rfl (by rw [hb]; exact (xb_d D_Machine_chosenElement 38 rfl))) (ok_Row_at l hfl D A σ b16 ((xb_i h2 b5 0) + (Int64.toInt32 (xb_l h2 b17 (Int32.toNatClampNeg (xb_i h2 x0 10))))) 0 h2 _ hw) (hml.trans hl.1.symm) (by rw [hb]; exact (xb_d D_Machine_chosenElement 38 rfl)) (Nat.le_of_ble_eq_true rfl) (Nat.le_of_ble_eq_true rfl) (Nat.le_of_ble_eq_true rfl) (show k ≤ MC by omega) (show n ≤ MS by omega) (xt_w1 hB.1 m_ff1c70ae) (xt_cdOf hB.1 m_ff1c70ae) (hts _ m_c1bef504) hB hR hS hA (fun vv h21 H locs hq hEh21 hR hS => ?_)
      obtain ⟨r22, rfl, hw⟩ := hq
      have hw := hw hEh21
      have hE := hE.tr hEh21
      refine W.eq (g2 := F0 m 70 ls [.int r22]) rfl ?_
      refine lv_istore_n hx hb (xb_d D_Machine_chosenElement 39 rfl) rfl hl (by decide) rfl (fun ls hl => ?_)
      have hl : lv_has ls 3 [(2, .int r22), (1, .ref b5), (0, .ref x0)] := hl
      refine lv_iload_n hx hb (xb_d D_Machine_chosenElement 40 rfl) rfl (lv_at hl 0 rfl) ?_
      refine lv_iconst (v := (-1)) hx hb (xb_d D_Machine_chosenElement 41 rfl) (by decide) ?_
      refine lv_icmp_ne (tgt := 85) hx hb (xb_d D_Machine_chosenElement 42 rfl) rfl (fun hc23 => ?_) (fun hc23 => ?_)
      · have hw := hw.1 hc23
        refine lv_aload_n hx hb (xb_d D_Machine_chosenElement 47 rfl) rfl (lv_at hl 2 rfl) ?_
        have hk1 : xb_k h21 x0 = 8 := hEh21.k hk1
        refine xb_getP (C := R_Machine) (T := F_Machine) (N := 18) hx hb 7 0 hts fin_Machine hown hR hk1 (by decide) rfl (by decide) rfl (hts _ m_436e7c8c) (fun _ h9 => h9) (xb_d D_Machine_chosenElement 48 rfl) ?_
        obtain ⟨b24, eb24, hw⟩ := hw
        refine xb_some eb24 ?_
        refine lv_iload_n hx hb (xb_d D_Machine_chosenElement 49 rfl) rfl (lv_at hl 0 rfl) ?_
        refine lv_aload_n hx hb (xb_d D_Machine_chosenElement 50 rfl) rfl (lv_at hl 2 rfl) ?_
        refine xb_getP (C := R_Machine) (T := F_Machine) (N := 18) hx hb 7 12 hts fin_Machine hown hR hk1 (by decide) rfl (by decide) rfl (hts _ m_a347cb26) (fun _ h9 => h9) (xb_d D_Machine_chosenElement 51 rfl) ?_
        obtain ⟨b25, eb25, hw⟩ := hw
        refine xb_some eb25 ?_
        obtain ⟨hk26, hw⟩ := hw
        refine xb_getP (C := R_Instance) (T := F_Instance) (N := 8) hx hb 10 1 hts fin_Instance hown hR hk26 (by decide) rfl (by decide) rfl (hts _ m_142b55ed) (fun _ h9 => h9) (xb_d D_Machine_chosenElement 52 rfl) ?_
        obtain ⟨b27, eb27, hw⟩ := hw
        refine xb_some eb27 ?_
        refine lv_aload_n hx hb (xb_d D_Machine_chosenElement 53 rfl) rfl (lv_at hl 2 rfl) ?_
        refine xb_getP (C := R_Machine) (T := F_Machine) (N := 18) hx hb 7 14 hts fin_Machine hown hR hk1 (by decide) rfl (by decide) rfl (hts _ m_8f763f86) (fun _ h9 => h9) (xb_d D_Machine_chosenElement 54 rfl) ?_
        obtain ⟨b28, eb28, hw⟩ := hw
        refine xb_some eb28 ?_
        refine lv_aload_n hx hb (xb_d D_Machine_chosenElement 55 rfl) rfl (lv_at hl 2 rfl) ?_
        refine xb_getI (C := R_Machine) (T := F_Machine) (N := 18) hx hb 7 15 hts fin_Machine hown hR hk1 (by decide) rfl (by decide) rfl (hts _ m_6a595805) (fun _ h9 => h9) (xb_d D_Machine_chosenElement 56 rfl) ?_
        refine lv_iconst (v := 1) hx hb (xb_d D_Machine_chosenElement 57 rfl) (by decide) ?_
        refine lv_iadd hx hb (xb_d D_Machine_chosenElement 58 rfl) ?_
        obtain ⟨hk30, hw⟩ := hw
        obtain ⟨hi29, hw⟩ := hw
        refine xb_iald hx hb hR hk30 hi29 (xb_d D_Machine_chosenElement 59 rfl) ?_
        obtain ⟨hk31, hw⟩ := hw
        refine xb_call0 (D := D) (A := A) (σ := σ) (h := h21) (d := 4) (maxL := 5) (rest := []) (av := [.ref b24, .int r22, .ref b27, .int (xb_i h21 b28 (Int32.toNatClampNeg ((xb_i h21 x0 15) + 1)))]) (fun T hT X => by obtain ⟨cb9, ra9, rb9, rc9⟩ := xb_recv (ci := 6) hR rfl hk31 (by decide); exact xt_invV X hx hown (hts _ m_60d23c68) (hts _ m_694f954f) (hts _ m_d14fe5df) (xt_sigOf (hts _ m_af77d148)) nm_World_fits (by rw [hT]; exact ra9) rb9 rc9 (g := F0 m 108 ls [.int (xb_i h21 b28 (Int32.toNatClampNeg ((xb_i h21 x0 15) + 1))), .ref b27, .int r22, .ref b24]) rfl (argsL := [.int r22, .ref b27, .int (xb_i h21 b28 (Int32.toNatClampNeg ((xb_i h21 x0 15) + 1)))]) (rest := []) rfl rfl (by rw [hb]; exact (xb_d D_Machine_chosenElement 60 rfl))) (ok_World_fits l hfl D A σ b24 r22 b27 (xb_i h21 b28 (Int32.toNatClampNeg ((xb_i h21 x0 15) + 1))) h21 _ hw) (hml.trans hl.1.symm) (by rw [hb]; exact (xb_d D_Machine_chosenElement 60 rfl)) (Nat.le_of_ble_eq_true rfl) (Nat.le_of_ble_eq_true rfl) (Nat.le_of_ble_eq_true rfl) (show k ≤ MC by omega) (show n ≤ MS by omega) (xt_w1 hB.1 m_af77d148) (xt_cdOf hB.1 m_af77d148) (hts _ m_4534b440) hB hR hS hA (fun vv h32 H locs hq hEh32 hR hS => ?_)
        obtain ⟨r33, rfl, hw⟩ := hq
        have hw := hw hEh32
        have hE := hE.tr hEh32
        refine W.eq (g2 := F0 m 111 ls [.int r33]) rfl ?_
        refine lv_if_ne (tgt := 122) hx hb (xb_d D_Machine_chosenElement 61 rfl) rfl (fun hc34 => ?_) (fun hc34 => ?_)
        · have hw := hw.1 hc34
          exact am_Machine_chosenElement_L122 l hfl D A σ MC MS h0 Qr r22 h32 hw p e s m args below meth c hC H locs ls k n hE (lv_sub hl [0] rfl) hR hS (by omega) (by omega)
        · have hw := hw.2 hc34
          refine lv_aload_n hx hb (xb_d D_Machine_chosenElement 62 rfl) rfl (lv_at hl 2 rfl) ?_
          refine lv_bipush (v := 8) hx hb (xb_d D_Machine_chosenElement 63 rfl) (by decide) ?_
          have hk1 : xb_k h32 x0 = 8 := hEh32.k hk1
          refine xb_call0 (D := D) (A := A) (σ := σ) (h := h32) (d := 2) (maxL := 3) (rest := []) (av := [.ref x0, .int 8]) (fun T hT X => by obtain ⟨cb9, ra9, rb9, rc9⟩ := xb_recv (ci := 7) hR rfl hk1 (by decide); exact xt_invV X hx hown (hts _ m_8f5db99d) (hts _ m_0ddc8afe) (hts _ m_f5561462) (xt_sigOf (hts _ m_f0d4fd47)) nm_Machine_fall (by rw [hT]; exact ra9) rb9 rc9 (g := F0 m 117 ls [.int 8, .ref x0]) rfl (argsL := [.int 8]) (rest := []) rfl rfl (by rw [hb]; exact (xb_d D_Machine_chosenElement 64 rfl))) (ok_Machine_fall l hfl D A σ x0 8 h32 _ hw) (hml.trans hl.1.symm) (by rw [hb]; exact (xb_d D_Machine_chosenElement 64 rfl)) (Nat.le_of_ble_eq_true rfl) (Nat.le_of_ble_eq_true rfl) (Nat.le_of_ble_eq_true rfl) (show k ≤ MC by omega) (show n ≤ MS by omega) (xt_w1 hB.1 m_f0d4fd47) (xt_cdOf hB.1 m_f0d4fd47) (hts _ m_73451f9b) hB hR hS hA (fun vv h35 H locs hq hEh35 hR hS => ?_)
          obtain ⟨rfl, hw⟩ := hq
          have hw := hw hEh35
          have hE := hE.tr hEh35
          refine W.eq (g2 := F0 m 120 ls []) rfl ?_
          refine lv_iconst (v := (-1)) hx hb (xb_d D_Machine_chosenElement 65 rfl) (by decide) ?_
          exact xb_iret 0 0 hx hb hr hlocks (show k + 0 ≤ MC by omega) (show n + 0 ≤ MS by omega) hE hR hS (xb_d D_Machine_chosenElement 66 rfl) hw
      · have hw := hw.2 hc23
        refine lv_aload_n hx hb (xb_d D_Machine_chosenElement 43 rfl) rfl (lv_at hl 2 rfl) ?_
        refine lv_bipush (v := 7) hx hb (xb_d D_Machine_chosenElement 44 rfl) (by decide) ?_
        have hk1 : xb_k h21 x0 = 8 := hEh21.k hk1
        refine xb_call0 (D := D) (A := A) (σ := σ) (h := h21) (d := 2) (maxL := 3) (rest := []) (av := [.ref x0, .int 7]) (fun T hT X => by obtain ⟨cb9, ra9, rb9, rc9⟩ := xb_recv (ci := 7) hR rfl hk1 (by decide); exact xt_invV X hx hown (hts _ m_8f5db99d) (hts _ m_0ddc8afe) (hts _ m_f5561462) (xt_sigOf (hts _ m_f0d4fd47)) nm_Machine_fall (by rw [hT]; exact ra9) rb9 rc9 (g := F0 m 79 ls [.int 7, .ref x0]) rfl (argsL := [.int 7]) (rest := []) rfl rfl (by rw [hb]; exact (xb_d D_Machine_chosenElement 45 rfl))) (ok_Machine_fall l hfl D A σ x0 7 h21 _ hw) (hml.trans hl.1.symm) (by rw [hb]; exact (xb_d D_Machine_chosenElement 45 rfl)) (Nat.le_of_ble_eq_true rfl) (Nat.le_of_ble_eq_true rfl) (Nat.le_of_ble_eq_true rfl) (show k ≤ MC by omega) (show n ≤ MS by omega) (xt_w1 hB.1 m_f0d4fd47) (xt_cdOf hB.1 m_f0d4fd47) (hts _ m_73451f9b) hB hR hS hA (fun vv h37 H locs hq hEh37 hR hS => ?_)
        obtain ⟨rfl, hw⟩ := hq
        have hw := hw hEh37
        have hE := hE.tr hEh37
        refine W.eq (g2 := F0 m 82 ls []) rfl ?_
        refine lv_goto (tgt := 122) hx hb (xb_d D_Machine_chosenElement 46 rfl) rfl ?_
        exact am_Machine_chosenElement_L122 l hfl D A σ MC MS h0 Qr r22 h37 hw p e s m args below meth c hC H locs ls k n hE (lv_sub hl [0] rfl) hR hS (by omega) (by omega)
    · have hw := hw.2 hc13
      refine lv_aload_n hx hb (xb_d D_Machine_chosenElement 20 rfl) rfl (lv_at hl 1 rfl) ?_
      refine lv_bipush (v := 6) hx hb (xb_d D_Machine_chosenElement 21 rfl) (by decide) ?_
      refine xb_call0 (D := D) (A := A) (σ := σ) (h := h2) (d := 2) (maxL := 3) (rest := []) (av := [.ref x0, .int 6]) (fun T hT X => by obtain ⟨cb9, ra9, rb9, rc9⟩ := xb_recv (ci := 7) hR rfl hk1 (by decide); exact xt_invV X hx hown (hts _ m_8f5db99d) (hts _ m_0ddc8afe) (hts _ m_f5561462) (xt_sigOf (hts _ m_f0d4fd47)) nm_Machine_fall (by rw [hT]; exact ra9) rb9 rc9 (g := F0 m 39 ls [.int 6, .ref x0]) rfl (argsL := [.int 6]) (rest := []) rfl rfl (by rw [hb]; exact (xb_d D_Machine_chosenElement 22 rfl))) (ok_Machine_fall l hfl D A σ x0 6 h2 _ hw) (hml.trans hl.1.symm) (by rw [hb]; exact (xb_d D_Machine_chosenElement 22 rfl)) (Nat.le_of_ble_eq_true rfl) (Nat.le_of_ble_eq_true rfl) (Nat.le_of_ble_eq_true rfl) (show k ≤ MC by omega) (show n ≤ MS by omega) (xt_w1 hB.1 m_f0d4fd47) (xt_cdOf hB.1 m_f0d4fd47) (hts _ m_73451f9b) hB hR hS hA (fun vv h39 H locs hq hEh39 hR hS => ?_)
      obtain ⟨rfl, hw⟩ := hq
      have hw := hw hEh39
      have hE := hE.tr hEh39
      refine W.eq (g2 := F0 m 42 ls []) rfl ?_
      refine lv_iconst (v := (-1)) hx hb (xb_d D_Machine_chosenElement 23 rfl) (by decide) ?_
      exact xb_iret 0 0 hx hb hr hlocks (show k + 0 ≤ MC by omega) (show n + 0 ≤ MS by omega) hE hR hS (xb_d D_Machine_chosenElement 24 rfl) hw

theorem m_c67283ac : (.methodLink "StackHost$Machine" 314 y_Format_holds : Cond) ∈ xt_tbl := xt_in (xt_t8 (List.mem_of_getElem? (i := 159) (by decide +kernel))) (by decide +kernel)
theorem m_de37b09a : (.instanceMethod y_Format_holds : Cond) ∈ xt_tbl := xt_in (xt_t8 (List.mem_of_getElem? (i := 160) (by decide +kernel))) (by decide +kernel)
theorem m_bb1bafb8 : (.selects "StackHost$Format" y_Format_holds y_Format_holds : Cond) ∈ xt_tbl := xt_in (xt_t8 (List.mem_of_getElem? (i := 161) (by decide +kernel))) (by decide +kernel)
theorem m_3cdb9ca1 : (.code y_Format_holds b_Format_holds 10 (some .boolean) : Cond) ∈ xt_tbl := xt_in (xt_t8 (List.mem_of_getElem? (i := 162) (by decide +kernel))) (by decide +kernel)
theorem m_4fffa478 : (.methodLink "StackHost$Machine" 308 y_Whole_holds : Cond) ∈ xt_tbl := xt_in (xt_t8 (List.mem_of_getElem? (i := 152) (by decide +kernel))) (by decide +kernel)
theorem m_35b7fb63 : (.static y_Whole_holds : Cond) ∈ xt_tbl := xt_in (xt_t8 (List.mem_of_getElem? (i := 153) (by decide +kernel))) (by decide +kernel)
theorem m_1a99436b : (.code y_Whole_holds b_Whole_holds 5 (some .boolean) : Cond) ∈ xt_tbl := xt_in (xt_t8 (List.mem_of_getElem? (i := 154) (by decide +kernel))) (by decide +kernel)
theorem nm_Format_holds : xt_nm y_Format_holds 3 := ⟨by decide +kernel, by decide +kernel⟩
theorem nm_Whole_holds : xt_nm y_Whole_holds 3 := ⟨by decide +kernel, by decide +kernel⟩
set_option maxRecDepth 100000 in
def T_Machine_compare : List (Nat × Instr × Nat) := [(0, .aload_n 0, 1), (1, .getfield 35, 3), (4, .aload_n 0, 1), (5, .getfield 53, 3), (8, .iconst 1, 1), (9, .isub, 1), (10, .laload, 1), (11, .lstore_n 2, 1), (12, .iload_n 1, 1), (13, .bipush 69, 2), (15, .if_icmp .eq 9, 3), (18, .iload_n 1, 1), (19, .bipush 80, 2), (21, .if_icmp .ne 26, 3), (24, .aload_n 0, 1), (25, .getfield 35, 3), (28, .aload_n 0, 1), (29, .getfield 53, 3), (32, .iconst 1, 1), (33, .isub, 1), (34, .lload_n 2, 1), (35, .lconst 0, 1), (36, .lcmp, 1), (37, .ifCond .ne 7, 3), (40, .lconst 1, 1), (41, .goto 4, 3), (44, .lconst 0, 1), (45, .lastore, 1), (46, .return_, 1), (47, .aload_n 0, 1), (48, .dup, 1), (49, .getfield 53, 3), (52, .iconst 1, 1), (53, .isub, 1), (54, .putfield 53, 3), (57, .aload_n 0, 1), (58, .getfield 35, 3), (61, .aload_n 0, 1), (62, .getfield 53, 3), (65, .iconst 1, 1), (66, .isub, 1), (67, .laload, 1), (68, .lstore 4, 2), (70, .iload_n 1, 1), (71, .bipush 79, 2), (73, .if_icmp .gt 22, 3), (76, .iload_n 1, 1), (77, .bipush 70, 2), (79, .isub, 1), (80, .lload 4, 2), (82, .l2i, 1), (83, .i2l, 1), (84, .lload_n 2, 1), (85, .l2i, 1), (86, .i2l, 1), (87, .invokestatic 308, 3), (90, .istore 6, 2), (92, .goto 65, 3), (95, .iload_n 1, 1), (96, .bipush 90, 2), (98, .if_icmp .gt 18, 3), (101, .iload_n 1, 1), (102, .bipush 81, 2), (104, .isub, 1), (105, .lload 4, 2), (107, .lload_n 2, 1), (108, .invokestatic 308, 3), (111, .istore 6, 2), (113, .goto 44, 3), (116, .iload_n 1, 1), (117, .bipush 96, 2), (119, .if_icmp .gt 22, 3), (122, .aload_n 0, 1), (123, .getfield 16, 3), (126, .iload_n 1, 1), (127, .bipush 91, 2), (129, .isub, 1), (130, .lload 4, 2), (132, .lload_n 2, 1), (133, .invokevirtual 314, 3), (136, .istore 6, 2), (138, .goto 19, 3), (141, .aload_n 0, 1), (142, .getfield 24, 3), (145, .iload_n 1, 1), (146, .bipush 97, 2), (148, .isub, 1), (149, .lload 4, 2), (151, .lload_n 2, 1), (152, .invokevirtual 314, 3), (155, .istore 6, 2), (157, .aload_n 0, 1), (158, .getfield 35, 3), (161, .aload_n 0, 1), (162, .getfield 53, 3), (165, .iconst 1, 1), (166, .isub, 1), (167, .iload 6, 2), (169, .ifCond .eq 7, 3), (172, .lconst 1, 1), (173, .goto 4, 3), (176, .lconst 0, 1), (177, .lastore, 1), (178, .return_, 1)]
theorem D_Machine_compare : ∀ q ∈ T_Machine_compare, decode b_Machine_compare q.1 = .ok (q.2.1, q.2.2) := by decide +kernel

set_option maxHeartbeats 4000000 in
set_option maxRecDepth 100000 in
theorem am_Machine_compare_L177 (l : Launch) (hfl : l.flags = pinnedFlags ++ [noTraceFlag]) (D : va_G) (A : Nat → Prop) (σ MC MS : Nat) (h0 : xb_H) (Qr : xb_H → Prop) (y0 : Int64) (y1 : Int32) (y2 : Nat) (h : xb_H) (hw : w_Machine_compare_L177 Qr y0 y1 y2 h) : xb_am l D A σ 5 MC MS h0 (fun v h _ _ => v = none ∧ Qr h) (fun _ _ _ _ => False) y_Machine_compare.cls y_Machine_compare.name b_Machine_compare 7 ([] : List ExceptionTableEntry) none 177 [] [.long y0, .int y1, .ref y2] h 0 0 := by
  unfold w_Machine_compare_L177 at hw
  intro p e s m args below meth c hC H locs ls k n hE hl hR hS hk hn
  obtain ⟨hx, hb, hown, hlocks, htab, hml, hr, hB, hA, hnm⟩ := id hC
  have hts := hB.1.1.at args
  obtain ⟨hk1, hw⟩ := hw
  obtain ⟨hi2, hw⟩ := hw
  refine xb_last hx hb hR hS hk1 hi2 (xb_d D_Machine_compare 102 rfl) (fun H locs hR hS => ?_)
  obtain ⟨h3, eh3⟩ : ∃ x : xb_H, x = xb_L h y2 (Int32.toNatClampNeg y1) y0 := ⟨_, rfl⟩
  rw [← eh3] at hR
  have hw := hw h3 eh3
  have hE : xb_ext h0 h3 := by rw [eh3]; exact hE
  exact xb_vret 0 0 hx hb hr hlocks (show k + 0 ≤ MC by omega) (show n + 0 ≤ MS by omega) hE hR hS (xb_d D_Machine_compare 103 rfl) hw

set_option maxHeartbeats 4000000 in
set_option maxRecDepth 100000 in
theorem am_Machine_compare_L157 (l : Launch) (hfl : l.flags = pinnedFlags ++ [noTraceFlag]) (D : va_G) (A : Nat → Prop) (σ MC MS : Nat) (h0 : xb_H) (Qr : xb_H → Prop) (x0 : Nat) (x6 : Int32) (h : xb_H) (hw : w_Machine_compare_L157 Qr x0 x6 h) : xb_am l D A σ 5 MC MS h0 (fun v h _ _ => v = none ∧ Qr h) (fun _ _ _ _ => False) y_Machine_compare.cls y_Machine_compare.name b_Machine_compare 7 ([] : List ExceptionTableEntry) none 157 [(0, .ref x0), (6, .int x6)] [] h 0 0 := by
  unfold w_Machine_compare_L157 at hw
  intro p e s m args below meth c hC H locs ls k n hE hl hR hS hk hn
  obtain ⟨hx, hb, hown, hlocks, htab, hml, hr, hB, hA, hnm⟩ := id hC
  have hts := hB.1.1.at args
  refine lv_aload_n hx hb (xb_d D_Machine_compare 91 rfl) rfl (lv_at hl 0 rfl) ?_
  obtain ⟨hk1, hw⟩ := hw
  refine xb_getP (C := R_Machine) (T := F_Machine) (N := 18) hx hb 7 9 hts fin_Machine hown hR hk1 (by decide) rfl (by decide) rfl (hts _ m_6904195b) (fun _ h9 => h9) (xb_d D_Machine_compare 92 rfl) ?_
  obtain ⟨b2, eb2, hw⟩ := hw
  refine xb_some eb2 ?_
  refine lv_aload_n hx hb (xb_d D_Machine_compare 93 rfl) rfl (lv_at hl 0 rfl) ?_
  refine xb_getI (C := R_Machine) (T := F_Machine) (N := 18) hx hb 7 10 hts fin_Machine hown hR hk1 (by decide) rfl (by decide) rfl (hts _ m_79cf62f6) (fun _ h9 => h9) (xb_d D_Machine_compare 94 rfl) ?_
  refine lv_iconst (v := 1) hx hb (xb_d D_Machine_compare 95 rfl) (by decide) ?_
  refine lv_isub hx hb (xb_d D_Machine_compare 96 rfl) ?_
  refine lv_iload hx hb (xb_d D_Machine_compare 97 rfl) (lv_at hl 1 rfl) ?_
  refine lv_if_eq (tgt := 176) hx hb (xb_d D_Machine_compare 98 rfl) rfl (fun hc3 => ?_) (fun hc3 => ?_)
  · have hw := hw.1 hc3
    refine lv_lconst (v := 0) hx hb (xb_d D_Machine_compare 101 rfl) (by decide) ?_
    exact am_Machine_compare_L177 l hfl D A σ MC MS h0 Qr 0 ((xb_i h x0 10) - 1) b2 h hw p e s m args below meth c hC H locs ls k n hE (lv_sub hl [] rfl) hR hS (by omega) (by omega)
  · have hw := hw.2 hc3
    refine lv_lconst (v := 1) hx hb (xb_d D_Machine_compare 99 rfl) (by decide) ?_
    refine lv_goto (tgt := 177) hx hb (xb_d D_Machine_compare 100 rfl) rfl ?_
    exact am_Machine_compare_L177 l hfl D A σ MC MS h0 Qr 1 ((xb_i h x0 10) - 1) b2 h hw p e s m args below meth c hC H locs ls k n hE (lv_sub hl [] rfl) hR hS (by omega) (by omega)

set_option maxHeartbeats 4000000 in
set_option maxRecDepth 100000 in
theorem am_Machine_compare_L45 (l : Launch) (hfl : l.flags = pinnedFlags ++ [noTraceFlag]) (D : va_G) (A : Nat → Prop) (σ MC MS : Nat) (h0 : xb_H) (Qr : xb_H → Prop) (y0 : Int64) (y1 : Int32) (y2 : Nat) (h : xb_H) (hw : w_Machine_compare_L45 Qr y0 y1 y2 h) : xb_am l D A σ 5 MC MS h0 (fun v h _ _ => v = none ∧ Qr h) (fun _ _ _ _ => False) y_Machine_compare.cls y_Machine_compare.name b_Machine_compare 7 ([] : List ExceptionTableEntry) none 45 [] [.long y0, .int y1, .ref y2] h 0 0 := by
  unfold w_Machine_compare_L45 at hw
  intro p e s m args below meth c hC H locs ls k n hE hl hR hS hk hn
  obtain ⟨hx, hb, hown, hlocks, htab, hml, hr, hB, hA, hnm⟩ := id hC
  have hts := hB.1.1.at args
  obtain ⟨hk1, hw⟩ := hw
  obtain ⟨hi2, hw⟩ := hw
  refine xb_last hx hb hR hS hk1 hi2 (xb_d D_Machine_compare 27 rfl) (fun H locs hR hS => ?_)
  obtain ⟨h3, eh3⟩ : ∃ x : xb_H, x = xb_L h y2 (Int32.toNatClampNeg y1) y0 := ⟨_, rfl⟩
  rw [← eh3] at hR
  have hw := hw h3 eh3
  have hE : xb_ext h0 h3 := by rw [eh3]; exact hE
  exact xb_vret 0 0 hx hb hr hlocks (show k + 0 ≤ MC by omega) (show n + 0 ≤ MS by omega) hE hR hS (xb_d D_Machine_compare 28 rfl) hw

set_option maxHeartbeats 4000000 in
set_option maxRecDepth 100000 in
theorem am_Machine_compare_L24 (l : Launch) (hfl : l.flags = pinnedFlags ++ [noTraceFlag]) (D : va_G) (A : Nat → Prop) (σ MC MS : Nat) (h0 : xb_H) (Qr : xb_H → Prop) (x0 : Nat) (x2 : Int64) (h : xb_H) (hw : w_Machine_compare_L24 Qr x0 x2 h) : xb_am l D A σ 5 MC MS h0 (fun v h _ _ => v = none ∧ Qr h) (fun _ _ _ _ => False) y_Machine_compare.cls y_Machine_compare.name b_Machine_compare 7 ([] : List ExceptionTableEntry) none 24 [(0, .ref x0), (2, .long x2)] [] h 0 0 := by
  unfold w_Machine_compare_L24 at hw
  intro p e s m args below meth c hC H locs ls k n hE hl hR hS hk hn
  obtain ⟨hx, hb, hown, hlocks, htab, hml, hr, hB, hA, hnm⟩ := id hC
  have hts := hB.1.1.at args
  refine lv_aload_n hx hb (xb_d D_Machine_compare 14 rfl) rfl (lv_at hl 0 rfl) ?_
  obtain ⟨hk1, hw⟩ := hw
  refine xb_getP (C := R_Machine) (T := F_Machine) (N := 18) hx hb 7 9 hts fin_Machine hown hR hk1 (by decide) rfl (by decide) rfl (hts _ m_6904195b) (fun _ h9 => h9) (xb_d D_Machine_compare 15 rfl) ?_
  obtain ⟨b2, eb2, hw⟩ := hw
  refine xb_some eb2 ?_
  refine lv_aload_n hx hb (xb_d D_Machine_compare 16 rfl) rfl (lv_at hl 0 rfl) ?_
  refine xb_getI (C := R_Machine) (T := F_Machine) (N := 18) hx hb 7 10 hts fin_Machine hown hR hk1 (by decide) rfl (by decide) rfl (hts _ m_79cf62f6) (fun _ h9 => h9) (xb_d D_Machine_compare 17 rfl) ?_
  refine lv_iconst (v := 1) hx hb (xb_d D_Machine_compare 18 rfl) (by decide) ?_
  refine lv_isub hx hb (xb_d D_Machine_compare 19 rfl) ?_
  refine lv_lload_n hx hb (xb_d D_Machine_compare 20 rfl) rfl (lv_at hl 1 rfl) ?_
  refine lv_lconst (v := 0) hx hb (xb_d D_Machine_compare 21 rfl) (by decide) ?_
  refine xb_lc_ne (tgt := 44) hx hb (xb_d D_Machine_compare 22 rfl) (xb_d D_Machine_compare 23 rfl) rfl (fun hc3 => ?_) (fun hc3 => ?_)
  · have hw := hw.1 hc3
    refine lv_lconst (v := 0) hx hb (xb_d D_Machine_compare 26 rfl) (by decide) ?_
    exact am_Machine_compare_L45 l hfl D A σ MC MS h0 Qr 0 ((xb_i h x0 10) - 1) b2 h hw p e s m args below meth c hC H locs ls k n hE (lv_sub hl [] rfl) hR hS (by omega) (by omega)
  · have hw := hw.2 hc3
    refine lv_lconst (v := 1) hx hb (xb_d D_Machine_compare 24 rfl) (by decide) ?_
    refine lv_goto (tgt := 45) hx hb (xb_d D_Machine_compare 25 rfl) rfl ?_
    exact am_Machine_compare_L45 l hfl D A σ MC MS h0 Qr 1 ((xb_i h x0 10) - 1) b2 h hw p e s m args below meth c hC H locs ls k n hE (lv_sub hl [] rfl) hR hS (by omega) (by omega)

set_option maxHeartbeats 4000000 in
set_option maxRecDepth 100000 in
theorem ok_Machine_compare (l : Launch) (hfl : l.flags = pinnedFlags ++ [noTraceFlag]) (D : va_G) (A : Nat → Prop) (σ : Nat) (x0 : Nat) (x1 : Int32) (h : xb_H) (Qr : xb_H → Prop) (hw : w_Machine_compare x0 x1 h Qr) : xb_Met l y_Machine_compare [.code y_Machine_compare b_Machine_compare 7 none] (xb_rm 5 0 0) (xb_Pc D A σ h [.ref x0, .int x1]) (xb_Qc D A h 0 0 (fun v h _ _ => v = none ∧ Qr h) (fun _ _ _ _ => False)) A := by
  refine xb_ofAm (cc := b_Machine_compare) (by decide) (Nat.le_of_ble_eq_true rfl) ?_
  unfold w_Machine_compare at hw
  show xb_am l D A σ 5 0 0 h (fun v h _ _ => v = none ∧ Qr h) (fun _ _ _ _ => False) y_Machine_compare.cls y_Machine_compare.name b_Machine_compare 7 ([] : List ExceptionTableEntry) none 0 [(0, .ref x0), (1, .int x1)] [] h 0 0
  obtain ⟨MC, hMC⟩ : ∃ x, x = 0 := ⟨_, rfl⟩
  obtain ⟨MS, hMS⟩ : ∃ x, x = 0 := ⟨_, rfl⟩
  rw [show xb_am l D A σ 5 0 0 = xb_am l D A σ 5 MC MS by rw [hMC, hMS]]
  obtain ⟨h0, hh0⟩ : ∃ x, x = h := ⟨_, rfl⟩
  rw [show xb_am l D A σ 5 MC MS h = xb_am l D A σ 5 MC MS h0 by rw [hh0]]
  intro p e s m args below meth c hC H locs ls k n hE hl hR hS hk hn
  obtain ⟨hx, hb, hown, hlocks, htab, hml, hr, hB, hA, hnm⟩ := id hC
  have hts := hB.1.1.at args
  refine lv_aload_n hx hb (xb_d D_Machine_compare 0 rfl) rfl (lv_at hl 0 rfl) ?_
  obtain ⟨hk1, hw⟩ := hw
  refine xb_getP (C := R_Machine) (T := F_Machine) (N := 18) hx hb 7 9 hts fin_Machine hown hR hk1 (by decide) rfl (by decide) rfl (hts _ m_6904195b) (fun _ h9 => h9) (xb_d D_Machine_compare 1 rfl) ?_
  obtain ⟨b2, eb2, hw⟩ := hw
  refine xb_some eb2 ?_
  refine lv_aload_n hx hb (xb_d D_Machine_compare 2 rfl) rfl (lv_at hl 0 rfl) ?_
  refine xb_getI (C := R_Machine) (T := F_Machine) (N := 18) hx hb 7 10 hts fin_Machine hown hR hk1 (by decide) rfl (by decide) rfl (hts _ m_79cf62f6) (fun _ h9 => h9) (xb_d D_Machine_compare 3 rfl) ?_
  refine lv_iconst (v := 1) hx hb (xb_d D_Machine_compare 4 rfl) (by decide) ?_
  refine lv_isub hx hb (xb_d D_Machine_compare 5 rfl) ?_
  obtain ⟨hk4, hw⟩ := hw
  obtain ⟨hi3, hw⟩ := hw
  refine xb_lald hx hb hR hk4 hi3 (xb_d D_Machine_compare 6 rfl) ?_
  obtain ⟨v5, ev5⟩ : ∃ x : Int64, x = (xb_l h b2 (Int32.toNatClampNeg ((xb_i h x0 10) - 1))) := ⟨_, rfl⟩
  have hw := hw v5 ev5
  refine xt_numl (y := v5) ev5.symm ?_
  refine lv_lstore_n hx hb (xb_d D_Machine_compare 7 rfl) rfl hl (by decide) rfl (fun ls hl => ?_)
  have hl : lv_has ls 7 [(2, .long v5), (0, .ref x0), (1, .int x1)] := hl
  refine lv_iload_n hx hb (xb_d D_Machine_compare 8 rfl) rfl (lv_at hl 2 rfl) ?_
  refine lv_bipush (v := 69) hx hb (xb_d D_Machine_compare 9 rfl) (by decide) ?_
  refine lv_icmp_eq (tgt := 24) hx hb (xb_d D_Machine_compare 10 rfl) rfl (fun hc6 => ?_) (fun hc6 => ?_)
  · have hw := hw.1 hc6
    exact am_Machine_compare_L24 l hfl D A σ MC MS h0 Qr x0 v5 h hw p e s m args below meth c hC H locs ls k n hE (lv_sub hl [1, 0] rfl) hR hS (by omega) (by omega)
  · have hw := hw.2 hc6
    refine lv_iload_n hx hb (xb_d D_Machine_compare 11 rfl) rfl (lv_at hl 2 rfl) ?_
    refine lv_bipush (v := 80) hx hb (xb_d D_Machine_compare 12 rfl) (by decide) ?_
    refine lv_icmp_ne (tgt := 47) hx hb (xb_d D_Machine_compare 13 rfl) rfl (fun hc7 => ?_) (fun hc7 => ?_)
    · have hw := hw.1 hc7
      refine lv_aload_n hx hb (xb_d D_Machine_compare 29 rfl) rfl (lv_at hl 1 rfl) ?_
      refine lv_dup hx hb (xb_d D_Machine_compare 30 rfl) rfl ?_
      refine xb_getI (C := R_Machine) (T := F_Machine) (N := 18) hx hb 7 10 hts fin_Machine hown hR hk1 (by decide) rfl (by decide) rfl (hts _ m_79cf62f6) (fun _ h9 => h9) (xb_d D_Machine_compare 31 rfl) ?_
      refine lv_iconst (v := 1) hx hb (xb_d D_Machine_compare 32 rfl) (by decide) ?_
      refine lv_isub hx hb (xb_d D_Machine_compare 33 rfl) ?_
      refine xb_putI (C := R_Machine) (T := F_Machine) (N := 18) (ty := .int) (x := ((xb_i h x0 10) - 1)) hx hb 7 10 hts fin_Machine t_Machine t_Machine_ok n_Machine hown hR hS hk1 (by decide) rfl (by decide) rfl (hts _ m_79cf62f6) (fun _ h9 => h9) rfl (by decide +kernel) rfl rfl (xb_d D_Machine_compare 34 rfl) (fun H locs hR hS => ?_)
      obtain ⟨h8, eh8⟩ : ∃ x : xb_H, x = xb_I h x0 10 ((xb_i h x0 10) - 1) := ⟨_, rfl⟩
      rw [← eh8] at hR
      have hw := hw h8 eh8
      have hE : xb_ext h0 h8 := by rw [eh8]; exact hE
      refine lv_aload_n hx hb (xb_d D_Machine_compare 35 rfl) rfl (lv_at hl 1 rfl) ?_
      have hk1 : xb_k h8 x0 = 8 := by rw [eh8]; exact hk1
      refine xb_getP (C := R_Machine) (T := F_Machine) (N := 18) hx hb 7 9 hts fin_Machine hown hR hk1 (by decide) rfl (by decide) rfl (hts _ m_6904195b) (fun _ h9 => h9) (xb_d D_Machine_compare 36 rfl) ?_
      obtain ⟨b9, eb9, hw⟩ := hw
      refine xb_some eb9 ?_
      refine lv_aload_n hx hb (xb_d D_Machine_compare 37 rfl) rfl (lv_at hl 1 rfl) ?_
      refine xb_getI (C := R_Machine) (T := F_Machine) (N := 18) hx hb 7 10 hts fin_Machine hown hR hk1 (by decide) rfl (by decide) rfl (hts _ m_79cf62f6) (fun _ h9 => h9) (xb_d D_Machine_compare 38 rfl) ?_
      refine lv_iconst (v := 1) hx hb (xb_d D_Machine_compare 39 rfl) (by decide) ?_
      refine lv_isub hx hb (xb_d D_Machine_compare 40 rfl) ?_
      obtain ⟨hk11, hw⟩ := hw
      obtain ⟨hi10, hw⟩ := hw
      refine xb_lald hx hb hR hk11 hi10 (xb_d D_Machine_compare 41 rfl) ?_
      obtain ⟨v12, ev12⟩ : ∃ x : Int64, x = (xb_l h8 b9 (Int32.toNatClampNeg ((xb_i h8 x0 10) - 1))) := ⟨_, rfl⟩
      have hw := hw v12 ev12
      refine xt_numl (y := v12) ev12.symm ?_
      refine lv_lstore hx hb (xb_d D_Machine_compare 42 rfl) hl (by decide) rfl (fun ls hl => ?_)
      have hl : lv_has ls 7 [(4, .long v12), (2, .long v5), (0, .ref x0), (1, .int x1)] := hl
      refine lv_iload_n hx hb (xb_d D_Machine_compare 43 rfl) rfl (lv_at hl 3 rfl) ?_
      refine lv_bipush (v := 79) hx hb (xb_d D_Machine_compare 44 rfl) (by decide) ?_
      refine lv_icmp_gt (tgt := 95) hx hb (xb_d D_Machine_compare 45 rfl) rfl (fun hc13 => ?_) (fun hc13 => ?_)
      · have hw := hw.1 hc13
        refine lv_iload_n hx hb (xb_d D_Machine_compare 58 rfl) rfl (lv_at hl 3 rfl) ?_
        refine lv_bipush (v := 90) hx hb (xb_d D_Machine_compare 59 rfl) (by decide) ?_
        refine lv_icmp_gt (tgt := 116) hx hb (xb_d D_Machine_compare 60 rfl) rfl (fun hc14 => ?_) (fun hc14 => ?_)
        · have hw := hw.1 hc14
          refine lv_iload_n hx hb (xb_d D_Machine_compare 69 rfl) rfl (lv_at hl 3 rfl) ?_
          refine lv_bipush (v := 96) hx hb (xb_d D_Machine_compare 70 rfl) (by decide) ?_
          refine lv_icmp_gt (tgt := 141) hx hb (xb_d D_Machine_compare 71 rfl) rfl (fun hc15 => ?_) (fun hc15 => ?_)
          · have hw := hw.1 hc15
            refine lv_aload_n hx hb (xb_d D_Machine_compare 82 rfl) rfl (lv_at hl 2 rfl) ?_
            refine xb_getP (C := R_Machine) (T := F_Machine) (N := 18) hx hb 7 2 hts fin_Machine hown hR hk1 (by decide) rfl (by decide) rfl (hts _ m_ba1eb42f) (fun _ h9 => h9) (xb_d D_Machine_compare 83 rfl) ?_
            obtain ⟨b16, eb16, hw⟩ := hw
            refine xb_some eb16 ?_
            refine lv_iload_n hx hb (xb_d D_Machine_compare 84 rfl) rfl (lv_at hl 3 rfl) ?_
            refine lv_bipush (v := 97) hx hb (xb_d D_Machine_compare 85 rfl) (by decide) ?_
            refine lv_isub hx hb (xb_d D_Machine_compare 86 rfl) ?_
            refine lv_lload hx hb (xb_d D_Machine_compare 87 rfl) (lv_at hl 0 rfl) ?_
            refine lv_lload_n hx hb (xb_d D_Machine_compare 88 rfl) rfl (lv_at hl 1 rfl) ?_
            obtain ⟨hk17, hw⟩ := hw
            refine xb_call0 (D := D) (A := A) (σ := σ) (h := h8) (d := 4) (maxL := 10) (rest := []) (av := [.ref b16, .int (x1 - 97), .long v12, .long v5]) (fun T hT X => by obtain ⟨cb9, ra9, rb9, rc9⟩ := xb_recv (ci := 5) hR rfl hk17 (by decide); exact xt_invV X hx hown (hts _ m_c67283ac) (hts _ m_de37b09a) (hts _ m_bb1bafb8) (xt_sigOf (hts _ m_3cdb9ca1)) nm_Format_holds (by rw [hT]; exact ra9) rb9 rc9 (g := F0 m 152 ls [.long v5, .long v12, .int (x1 - 97), .ref b16]) rfl (argsL := [.int (x1 - 97), .long v12, .long v5]) (rest := []) rfl rfl (by rw [hb]; exact (xb_d D_Machine_compare 89 rfl))) (ok_Format_holds l hfl D A σ b16 (x1 - 97) v12 v5 h8 _ hw) (hml.trans hl.1.symm) (by rw [hb]; exact (xb_d D_Machine_compare 89 rfl)) (Nat.le_of_ble_eq_true rfl) (Nat.le_of_ble_eq_true rfl) (Nat.le_of_ble_eq_true rfl) (show k ≤ MC by omega) (show n ≤ MS by omega) (xt_w1 hB.1 m_3cdb9ca1) (xt_cdOf hB.1 m_3cdb9ca1) (hts _ m_64857de5) hB hR hS hA (fun vv h18 H locs hq hEh18 hR hS => ?_)
            obtain ⟨r19, rfl, hw⟩ := hq
            have hw := hw hEh18
            have hE := hE.tr hEh18
            refine W.eq (g2 := F0 m 155 ls [.int r19]) rfl ?_
            refine lv_istore hx hb (xb_d D_Machine_compare 90 rfl) hl (by decide) rfl (fun ls hl => ?_)
            have hl : lv_has ls 7 [(6, .int r19), (4, .long v12), (2, .long v5), (0, .ref x0), (1, .int x1)] := hl
            exact am_Machine_compare_L157 l hfl D A σ MC MS h0 Qr x0 r19 h18 hw p e s m args below meth c hC H locs ls k n hE (lv_sub hl [3, 0] rfl) hR hS (by omega) (by omega)
          · have hw := hw.2 hc15
            refine lv_aload_n hx hb (xb_d D_Machine_compare 72 rfl) rfl (lv_at hl 2 rfl) ?_
            refine xb_getP (C := R_Machine) (T := F_Machine) (N := 18) hx hb 7 1 hts fin_Machine hown hR hk1 (by decide) rfl (by decide) rfl (hts _ m_ae64f9ca) (fun _ h9 => h9) (xb_d D_Machine_compare 73 rfl) ?_
            obtain ⟨b20, eb20, hw⟩ := hw
            refine xb_some eb20 ?_
            refine lv_iload_n hx hb (xb_d D_Machine_compare 74 rfl) rfl (lv_at hl 3 rfl) ?_
            refine lv_bipush (v := 91) hx hb (xb_d D_Machine_compare 75 rfl) (by decide) ?_
            refine lv_isub hx hb (xb_d D_Machine_compare 76 rfl) ?_
            refine lv_lload hx hb (xb_d D_Machine_compare 77 rfl) (lv_at hl 0 rfl) ?_
            refine lv_lload_n hx hb (xb_d D_Machine_compare 78 rfl) rfl (lv_at hl 1 rfl) ?_
            obtain ⟨hk21, hw⟩ := hw
            refine xb_call0 (D := D) (A := A) (σ := σ) (h := h8) (d := 4) (maxL := 10) (rest := []) (av := [.ref b20, .int (x1 - 91), .long v12, .long v5]) (fun T hT X => by obtain ⟨cb9, ra9, rb9, rc9⟩ := xb_recv (ci := 5) hR rfl hk21 (by decide); exact xt_invV X hx hown (hts _ m_c67283ac) (hts _ m_de37b09a) (hts _ m_bb1bafb8) (xt_sigOf (hts _ m_3cdb9ca1)) nm_Format_holds (by rw [hT]; exact ra9) rb9 rc9 (g := F0 m 133 ls [.long v5, .long v12, .int (x1 - 91), .ref b20]) rfl (argsL := [.int (x1 - 91), .long v12, .long v5]) (rest := []) rfl rfl (by rw [hb]; exact (xb_d D_Machine_compare 79 rfl))) (ok_Format_holds l hfl D A σ b20 (x1 - 91) v12 v5 h8 _ hw) (hml.trans hl.1.symm) (by rw [hb]; exact (xb_d D_Machine_compare 79 rfl)) (Nat.le_of_ble_eq_true rfl) (Nat.le_of_ble_eq_true rfl) (Nat.le_of_ble_eq_true rfl) (show k ≤ MC by omega) (show n ≤ MS by omega) (xt_w1 hB.1 m_3cdb9ca1) (xt_cdOf hB.1 m_3cdb9ca1) (hts _ m_64857de5) hB hR hS hA (fun vv h22 H locs hq hEh22 hR hS => ?_)
            obtain ⟨r23, rfl, hw⟩ := hq
            have hw := hw hEh22
            have hE := hE.tr hEh22
            refine W.eq (g2 := F0 m 136 ls [.int r23]) rfl ?_
            refine lv_istore hx hb (xb_d D_Machine_compare 80 rfl) hl (by decide) rfl (fun ls hl => ?_)
            have hl : lv_has ls 7 [(6, .int r23), (4, .long v12), (2, .long v5), (0, .ref x0), (1, .int x1)] := hl
            refine lv_goto (tgt := 157) hx hb (xb_d D_Machine_compare 81 rfl) rfl ?_
            exact am_Machine_compare_L157 l hfl D A σ MC MS h0 Qr x0 r23 h22 hw p e s m args below meth c hC H locs ls k n hE (lv_sub hl [3, 0] rfl) hR hS (by omega) (by omega)
        · have hw := hw.2 hc14
          refine lv_iload_n hx hb (xb_d D_Machine_compare 61 rfl) rfl (lv_at hl 3 rfl) ?_
          refine lv_bipush (v := 81) hx hb (xb_d D_Machine_compare 62 rfl) (by decide) ?_
          refine lv_isub hx hb (xb_d D_Machine_compare 63 rfl) ?_
          refine lv_lload hx hb (xb_d D_Machine_compare 64 rfl) (lv_at hl 0 rfl) ?_
          refine lv_lload_n hx hb (xb_d D_Machine_compare 65 rfl) rfl (lv_at hl 1 rfl) ?_
          refine xb_call0 (D := D) (A := A) (σ := σ) (h := h8) (d := 3) (maxL := 5) (rest := []) (av := [.int (x1 - 81), .long v12, .long v5]) (fun T hT X => xt_invS X hx hown (hts _ m_4fffa478) (hts _ m_35b7fb63) (hts _ m_912e4ef6) (xt_sgS (hts _ m_1a99436b)).1 (xt_sgS (hts _ m_1a99436b)).2 nm_Whole_holds (g := F0 m 108 ls [.long v5, .long v12, .int (x1 - 81)]) rfl (argsL := [.int (x1 - 81), .long v12, .long v5]) (rest := []) rfl rfl (by rw [hb]; exact (xb_d D_Machine_compare 66 rfl))) (ok_Whole_holds l hfl D A σ (x1 - 81) v12 v5 h8 _ hw) (hml.trans hl.1.symm) (by rw [hb]; exact (xb_d D_Machine_compare 66 rfl)) (Nat.le_of_ble_eq_true rfl) (Nat.le_of_ble_eq_true rfl) (Nat.le_of_ble_eq_true rfl) (show k ≤ MC by omega) (show n ≤ MS by omega) (xt_w1 hB.1 m_1a99436b) (xt_cdOf hB.1 m_1a99436b) (hts _ m_912e4ef6) hB hR hS hA (fun vv h24 H locs hq hEh24 hR hS => ?_)
          obtain ⟨r25, rfl, hw⟩ := hq
          have hw := hw hEh24
          have hE := hE.tr hEh24
          refine W.eq (g2 := F0 m 111 ls [.int r25]) rfl ?_
          refine lv_istore hx hb (xb_d D_Machine_compare 67 rfl) hl (by decide) rfl (fun ls hl => ?_)
          have hl : lv_has ls 7 [(6, .int r25), (4, .long v12), (2, .long v5), (0, .ref x0), (1, .int x1)] := hl
          refine lv_goto (tgt := 157) hx hb (xb_d D_Machine_compare 68 rfl) rfl ?_
          exact am_Machine_compare_L157 l hfl D A σ MC MS h0 Qr x0 r25 h24 hw p e s m args below meth c hC H locs ls k n hE (lv_sub hl [3, 0] rfl) hR hS (by omega) (by omega)
      · have hw := hw.2 hc13
        refine lv_iload_n hx hb (xb_d D_Machine_compare 46 rfl) rfl (lv_at hl 3 rfl) ?_
        refine lv_bipush (v := 70) hx hb (xb_d D_Machine_compare 47 rfl) (by decide) ?_
        refine lv_isub hx hb (xb_d D_Machine_compare 48 rfl) ?_
        refine lv_lload hx hb (xb_d D_Machine_compare 49 rfl) (lv_at hl 0 rfl) ?_
        refine lv_l2i hx hb (xb_d D_Machine_compare 50 rfl) rfl ?_
        refine lv_i2l hx hb (xb_d D_Machine_compare 51 rfl) rfl ?_
        refine lv_lload_n hx hb (xb_d D_Machine_compare 52 rfl) rfl (lv_at hl 1 rfl) ?_
        refine lv_l2i hx hb (xb_d D_Machine_compare 53 rfl) rfl ?_
        refine lv_i2l hx hb (xb_d D_Machine_compare 54 rfl) rfl ?_
        refine xb_call0 (D := D) (A := A) (σ := σ) (h := h8) (d := 3) (maxL := 5) (rest := []) (av := [.int (x1 - 70), .long (Int32.toInt64 (Int64.toInt32 v12)), .long (Int32.toInt64 (Int64.toInt32 v5))]) (fun T hT X => xt_invS X hx hown (hts _ m_4fffa478) (hts _ m_35b7fb63) (hts _ m_912e4ef6) (xt_sgS (hts _ m_1a99436b)).1 (xt_sgS (hts _ m_1a99436b)).2 nm_Whole_holds (g := F0 m 87 ls [.long (Int32.toInt64 (Int64.toInt32 v5)), .long (Int32.toInt64 (Int64.toInt32 v12)), .int (x1 - 70)]) rfl (argsL := [.int (x1 - 70), .long (Int32.toInt64 (Int64.toInt32 v12)), .long (Int32.toInt64 (Int64.toInt32 v5))]) (rest := []) rfl rfl (by rw [hb]; exact (xb_d D_Machine_compare 55 rfl))) (ok_Whole_holds l hfl D A σ (x1 - 70) (Int32.toInt64 (Int64.toInt32 v12)) (Int32.toInt64 (Int64.toInt32 v5)) h8 _ hw) (hml.trans hl.1.symm) (by rw [hb]; exact (xb_d D_Machine_compare 55 rfl)) (Nat.le_of_ble_eq_true rfl) (Nat.le_of_ble_eq_true rfl) (Nat.le_of_ble_eq_true rfl) (show k ≤ MC by omega) (show n ≤ MS by omega) (xt_w1 hB.1 m_1a99436b) (xt_cdOf hB.1 m_1a99436b) (hts _ m_912e4ef6) hB hR hS hA (fun vv h26 H locs hq hEh26 hR hS => ?_)
        obtain ⟨r27, rfl, hw⟩ := hq
        have hw := hw hEh26
        have hE := hE.tr hEh26
        refine W.eq (g2 := F0 m 90 ls [.int r27]) rfl ?_
        refine lv_istore hx hb (xb_d D_Machine_compare 56 rfl) hl (by decide) rfl (fun ls hl => ?_)
        have hl : lv_has ls 7 [(6, .int r27), (4, .long v12), (2, .long v5), (0, .ref x0), (1, .int x1)] := hl
        refine lv_goto (tgt := 157) hx hb (xb_d D_Machine_compare 57 rfl) rfl ?_
        exact am_Machine_compare_L157 l hfl D A σ MC MS h0 Qr x0 r27 h26 hw p e s m args below meth c hC H locs ls k n hE (lv_sub hl [3, 0] rfl) hR hS (by omega) (by omega)
    · have hw := hw.2 hc7
      exact am_Machine_compare_L24 l hfl D A σ MC MS h0 Qr x0 v5 h hw p e s m args below meth c hC H locs ls k n hE (lv_sub hl [1, 0] rfl) hR hS (by omega) (by omega)

theorem m_823c8e4a : (.methodLink "StackHost$Machine" 353 y_Format_ofWhole : Cond) ∈ xt_tbl := xt_in (xt_t8 (List.mem_of_getElem? (i := 46) (by decide +kernel))) (by decide +kernel)
theorem m_3b32aa18 : (.instanceMethod y_Format_ofWhole : Cond) ∈ xt_tbl := xt_in (xt_t8 (List.mem_of_getElem? (i := 47) (by decide +kernel))) (by decide +kernel)
theorem m_dc35161d : (.selects "StackHost$Format" y_Format_ofWhole y_Format_ofWhole : Cond) ∈ xt_tbl := xt_in (xt_t8 (List.mem_of_getElem? (i := 48) (by decide +kernel))) (by decide +kernel)
theorem m_0e750959 : (.code y_Format_ofWhole b_Format_ofWhole 7 (some .long) : Cond) ∈ xt_tbl := xt_in (xt_t8 (List.mem_of_getElem? (i := 49) (by decide +kernel))) (by decide +kernel)
theorem m_4c45bc79 : (.methodLink "StackHost$Machine" 357 y_Format_ofOther : Cond) ∈ xt_tbl := xt_in (xt_t8 (List.mem_of_getElem? (i := 57) (by decide +kernel))) (by decide +kernel)
theorem m_df7caa06 : (.instanceMethod y_Format_ofOther : Cond) ∈ xt_tbl := xt_in (xt_t8 (List.mem_of_getElem? (i := 58) (by decide +kernel))) (by decide +kernel)
theorem m_7d394ae2 : (.selects "StackHost$Format" y_Format_ofOther y_Format_ofOther : Cond) ∈ xt_tbl := xt_in (xt_t8 (List.mem_of_getElem? (i := 59) (by decide +kernel))) (by decide +kernel)
theorem m_57489b92 : (.code y_Format_ofOther b_Format_ofOther 5 (some .long) : Cond) ∈ xt_tbl := xt_in (xt_t8 (List.mem_of_getElem? (i := 60) (by decide +kernel))) (by decide +kernel)
theorem nm_Format_ofWhole : xt_nm y_Format_ofWhole 2 := ⟨by decide +kernel, by decide +kernel⟩
theorem nm_Format_ofOther : xt_nm y_Format_ofOther 2 := ⟨by decide +kernel, by decide +kernel⟩
set_option maxRecDepth 100000 in
def T_Machine_converted : List (Nat × Instr × Nat) := [(0, .iload_n 1, 1), (1, .tableswitch 199 167 187 #[99, 199, 199, 199, 199, 105, 199, 199, 199, 199, 199, 109, 121, 131, 121, 141, 154, 166, 176, 166, 186], 99), (100, .lload_n 2, 1), (101, .ldc2_w 74, 3), (104, .land, 1), (105, .lreturn, 1), (106, .lload_n 2, 1), (107, .l2i, 1), (108, .i2l, 1), (109, .lreturn, 1), (110, .aload_n 0, 1), (111, .getfield 16, 3), (114, .lload_n 2, 1), (115, .l2i, 1), (116, .i2l, 1), (117, .iconst 1, 1), (118, .invokevirtual 353, 3), (121, .lreturn, 1), (122, .aload_n 0, 1), (123, .getfield 16, 3), (126, .lload_n 2, 1), (127, .iconst 0, 1), (128, .invokevirtual 353, 3), (131, .lreturn, 1), (132, .aload_n 0, 1), (133, .getfield 16, 3), (136, .lload_n 2, 1), (137, .iconst 1, 1), (138, .invokevirtual 353, 3), (141, .lreturn, 1), (142, .aload_n 0, 1), (143, .getfield 16, 3), (146, .aload_n 0, 1), (147, .getfield 24, 3), (150, .lload_n 2, 1), (151, .invokevirtual 357, 3), (154, .lreturn, 1), (155, .aload_n 0, 1), (156, .getfield 24, 3), (159, .lload_n 2, 1), (160, .l2i, 1), (161, .i2l, 1), (162, .iconst 1, 1), (163, .invokevirtual 353, 3), (166, .lreturn, 1), (167, .aload_n 0, 1), (168, .getfield 24, 3), (171, .lload_n 2, 1), (172, .iconst 0, 1), (173, .invokevirtual 353, 3), (176, .lreturn, 1), (177, .aload_n 0, 1), (178, .getfield 24, 3), (181, .lload_n 2, 1), (182, .iconst 1, 1), (183, .invokevirtual 353, 3), (186, .lreturn, 1), (187, .aload_n 0, 1), (188, .getfield 24, 3), (191, .aload_n 0, 1), (192, .getfield 16, 3), (195, .lload_n 2, 1), (196, .invokevirtual 357, 3), (199, .lreturn, 1), (200, .lload_n 2, 1), (201, .lreturn, 1)]
theorem D_Machine_converted : ∀ q ∈ T_Machine_converted, decode b_Machine_converted q.1 = .ok (q.2.1, q.2.2) := by decide +kernel

set_option maxHeartbeats 4000000 in
set_option maxRecDepth 100000 in
theorem am_Machine_converted_L200 (l : Launch) (hfl : l.flags = pinnedFlags ++ [noTraceFlag]) (D : va_G) (A : Nat → Prop) (σ MC MS : Nat) (h0 : xb_H) (Qr : Int64 → xb_H → Prop) (x2 : Int64) (h : xb_H) (hw : w_Machine_converted_L200 Qr x2 h) : xb_am l D A σ 5 MC MS h0 (fun v h _ _ => ∃ r, v = some (.long r) ∧ Qr r h) (fun _ _ _ _ => False) y_Machine_converted.cls y_Machine_converted.name b_Machine_converted 4 ([] : List ExceptionTableEntry) (some .long) 200 [(2, .long x2)] [] h 0 0 := by
  unfold w_Machine_converted_L200 at hw
  intro p e s m args below meth c hC H locs ls k n hE hl hR hS hk hn
  obtain ⟨hx, hb, hown, hlocks, htab, hml, hr, hB, hA, hnm⟩ := id hC
  have hts := hB.1.1.at args
  refine lv_lload_n hx hb (xb_d D_Machine_converted 64 rfl) rfl (lv_at hl 0 rfl) ?_
  exact xb_lret 0 0 hx hb hr hlocks (show k + 0 ≤ MC by omega) (show n + 0 ≤ MS by omega) hE hR hS (xb_d D_Machine_converted 65 rfl) hw

set_option maxHeartbeats 4000000 in
set_option maxRecDepth 100000 in
theorem am_Machine_converted_L167 (l : Launch) (hfl : l.flags = pinnedFlags ++ [noTraceFlag]) (D : va_G) (A : Nat → Prop) (σ MC MS : Nat) (h0 : xb_H) (Qr : Int64 → xb_H → Prop) (x0 : Nat) (x2 : Int64) (h : xb_H) (hw : w_Machine_converted_L167 Qr x0 x2 h) : xb_am l D A σ 5 MC MS h0 (fun v h _ _ => ∃ r, v = some (.long r) ∧ Qr r h) (fun _ _ _ _ => False) y_Machine_converted.cls y_Machine_converted.name b_Machine_converted 4 ([] : List ExceptionTableEntry) (some .long) 167 [(0, .ref x0), (2, .long x2)] [] h 0 0 := by
  unfold w_Machine_converted_L167 at hw
  intro p e s m args below meth c hC H locs ls k n hE hl hR hS hk hn
  obtain ⟨hx, hb, hown, hlocks, htab, hml, hr, hB, hA, hnm⟩ := id hC
  have hts := hB.1.1.at args
  refine lv_aload_n hx hb (xb_d D_Machine_converted 45 rfl) rfl (lv_at hl 0 rfl) ?_
  obtain ⟨hk1, hw⟩ := hw
  refine xb_getP (C := R_Machine) (T := F_Machine) (N := 18) hx hb 7 2 hts fin_Machine hown hR hk1 (by decide) rfl (by decide) rfl (hts _ m_ba1eb42f) (fun _ h9 => h9) (xb_d D_Machine_converted 46 rfl) ?_
  obtain ⟨b2, eb2, hw⟩ := hw
  refine xb_some eb2 ?_
  refine lv_lload_n hx hb (xb_d D_Machine_converted 47 rfl) rfl (lv_at hl 1 rfl) ?_
  refine lv_iconst (v := 0) hx hb (xb_d D_Machine_converted 48 rfl) (by decide) ?_
  obtain ⟨hk3, hw⟩ := hw
  refine xb_call0 (D := D) (A := A) (σ := σ) (h := h) (d := 4) (maxL := 7) (rest := []) (av := [.ref b2, .long x2, .int 0]) (fun T hT X => by obtain ⟨cb9, ra9, rb9, rc9⟩ := xb_recv (ci := 5) hR rfl hk3 (by decide); exact xt_invV X hx hown (hts _ m_823c8e4a) (hts _ m_3b32aa18) (hts _ m_dc35161d) (xt_sigOf (hts _ m_0e750959)) nm_Format_ofWhole (by rw [hT]; exact ra9) rb9 rc9 (g := F0 m 173 ls [.int 0, .long x2, .ref b2]) rfl (argsL := [.long x2, .int 0]) (rest := []) rfl rfl (by rw [hb]; exact (xb_d D_Machine_converted 49 rfl))) (ok_Format_ofWhole l hfl D A σ b2 x2 0 h _ hw) (hml.trans hl.1.symm) (by rw [hb]; exact (xb_d D_Machine_converted 49 rfl)) (Nat.le_of_ble_eq_true rfl) (Nat.le_of_ble_eq_true rfl) (Nat.le_of_ble_eq_true rfl) (show k ≤ MC by omega) (show n ≤ MS by omega) (xt_w1 hB.1 m_0e750959) (xt_cdOf hB.1 m_0e750959) (hts _ m_64857de5) hB hR hS hA (fun vv h4 H locs hq hEh4 hR hS => ?_)
  obtain ⟨r5, rfl, hw⟩ := hq
  have hw := hw hEh4
  have hE := hE.tr hEh4
  refine W.eq (g2 := F0 m 176 ls [.long r5]) rfl ?_
  exact xb_lret 0 0 hx hb hr hlocks (show k + 0 ≤ MC by omega) (show n + 0 ≤ MS by omega) hE hR hS (xb_d D_Machine_converted 50 rfl) hw

set_option maxHeartbeats 4000000 in
set_option maxRecDepth 100000 in
theorem am_Machine_converted_L122 (l : Launch) (hfl : l.flags = pinnedFlags ++ [noTraceFlag]) (D : va_G) (A : Nat → Prop) (σ MC MS : Nat) (h0 : xb_H) (Qr : Int64 → xb_H → Prop) (x0 : Nat) (x2 : Int64) (h : xb_H) (hw : w_Machine_converted_L122 Qr x0 x2 h) : xb_am l D A σ 5 MC MS h0 (fun v h _ _ => ∃ r, v = some (.long r) ∧ Qr r h) (fun _ _ _ _ => False) y_Machine_converted.cls y_Machine_converted.name b_Machine_converted 4 ([] : List ExceptionTableEntry) (some .long) 122 [(0, .ref x0), (2, .long x2)] [] h 0 0 := by
  unfold w_Machine_converted_L122 at hw
  intro p e s m args below meth c hC H locs ls k n hE hl hR hS hk hn
  obtain ⟨hx, hb, hown, hlocks, htab, hml, hr, hB, hA, hnm⟩ := id hC
  have hts := hB.1.1.at args
  refine lv_aload_n hx hb (xb_d D_Machine_converted 18 rfl) rfl (lv_at hl 0 rfl) ?_
  obtain ⟨hk1, hw⟩ := hw
  refine xb_getP (C := R_Machine) (T := F_Machine) (N := 18) hx hb 7 1 hts fin_Machine hown hR hk1 (by decide) rfl (by decide) rfl (hts _ m_ae64f9ca) (fun _ h9 => h9) (xb_d D_Machine_converted 19 rfl) ?_
  obtain ⟨b2, eb2, hw⟩ := hw
  refine xb_some eb2 ?_
  refine lv_lload_n hx hb (xb_d D_Machine_converted 20 rfl) rfl (lv_at hl 1 rfl) ?_
  refine lv_iconst (v := 0) hx hb (xb_d D_Machine_converted 21 rfl) (by decide) ?_
  obtain ⟨hk3, hw⟩ := hw
  refine xb_call0 (D := D) (A := A) (σ := σ) (h := h) (d := 4) (maxL := 7) (rest := []) (av := [.ref b2, .long x2, .int 0]) (fun T hT X => by obtain ⟨cb9, ra9, rb9, rc9⟩ := xb_recv (ci := 5) hR rfl hk3 (by decide); exact xt_invV X hx hown (hts _ m_823c8e4a) (hts _ m_3b32aa18) (hts _ m_dc35161d) (xt_sigOf (hts _ m_0e750959)) nm_Format_ofWhole (by rw [hT]; exact ra9) rb9 rc9 (g := F0 m 128 ls [.int 0, .long x2, .ref b2]) rfl (argsL := [.long x2, .int 0]) (rest := []) rfl rfl (by rw [hb]; exact (xb_d D_Machine_converted 22 rfl))) (ok_Format_ofWhole l hfl D A σ b2 x2 0 h _ hw) (hml.trans hl.1.symm) (by rw [hb]; exact (xb_d D_Machine_converted 22 rfl)) (Nat.le_of_ble_eq_true rfl) (Nat.le_of_ble_eq_true rfl) (Nat.le_of_ble_eq_true rfl) (show k ≤ MC by omega) (show n ≤ MS by omega) (xt_w1 hB.1 m_0e750959) (xt_cdOf hB.1 m_0e750959) (hts _ m_64857de5) hB hR hS hA (fun vv h4 H locs hq hEh4 hR hS => ?_)
  obtain ⟨r5, rfl, hw⟩ := hq
  have hw := hw hEh4
  have hE := hE.tr hEh4
  refine W.eq (g2 := F0 m 131 ls [.long r5]) rfl ?_
  exact xb_lret 0 0 hx hb hr hlocks (show k + 0 ≤ MC by omega) (show n + 0 ≤ MS by omega) hE hR hS (xb_d D_Machine_converted 23 rfl) hw

set_option maxHeartbeats 4000000 in
set_option maxRecDepth 100000 in
theorem ok_Machine_converted (l : Launch) (hfl : l.flags = pinnedFlags ++ [noTraceFlag]) (D : va_G) (A : Nat → Prop) (σ : Nat) (x0 : Nat) (x1 : Int32) (x2 : Int64) (h : xb_H) (Qr : Int64 → xb_H → Prop) (hw : w_Machine_converted x0 x1 x2 h Qr) : xb_Met l y_Machine_converted [.code y_Machine_converted b_Machine_converted 4 (some .long)] (xb_rm 5 0 0) (xb_Pc D A σ h [.ref x0, .int x1, .long x2]) (xb_Qc D A h 0 0 (fun v h _ _ => ∃ r, v = some (.long r) ∧ Qr r h) (fun _ _ _ _ => False)) A := by
  refine xb_ofAm (cc := b_Machine_converted) (by decide) (Nat.le_of_ble_eq_true rfl) ?_
  unfold w_Machine_converted at hw
  show xb_am l D A σ 5 0 0 h (fun v h _ _ => ∃ r, v = some (.long r) ∧ Qr r h) (fun _ _ _ _ => False) y_Machine_converted.cls y_Machine_converted.name b_Machine_converted 4 ([] : List ExceptionTableEntry) (some .long) 0 [(0, .ref x0), (1, .int x1), (2, .long x2)] [] h 0 0
  obtain ⟨MC, hMC⟩ : ∃ x, x = 0 := ⟨_, rfl⟩
  obtain ⟨MS, hMS⟩ : ∃ x, x = 0 := ⟨_, rfl⟩
  rw [show xb_am l D A σ 5 0 0 = xb_am l D A σ 5 MC MS by rw [hMC, hMS]]
  obtain ⟨h0, hh0⟩ : ∃ x, x = h := ⟨_, rfl⟩
  rw [show xb_am l D A σ 5 MC MS h = xb_am l D A σ 5 MC MS h0 by rw [hh0]]
  intro p e s m args below meth c hC H locs ls k n hE hl hR hS hk hn
  obtain ⟨hx, hb, hown, hlocks, htab, hml, hr, hB, hA, hnm⟩ := id hC
  have hts := hB.1.1.at args
  refine lv_iload_n hx hb (xb_d D_Machine_converted 0 rfl) rfl (lv_at hl 1 rfl) ?_
  by_cases hc1 : x1 = 167
  · have hw := hw.1 hc1
    refine xt_numi hc1 ?_
    refine lv_tableIn (off := 99) (tgt := 100) hx hb (xb_d D_Machine_converted 1 rfl) (by decide +kernel) (by decide +kernel) (by decide +kernel) (by decide) ?_
    refine lv_lload_n hx hb (xb_d D_Machine_converted 2 rfl) rfl (lv_at hl 2 rfl) ?_
    refine lv_ldc2 (v := 4294967295) hx hb hown (hts _ m_2b0551dd) (xb_d D_Machine_converted 3 rfl) ?_
    refine lv_land hx hb (xb_d D_Machine_converted 4 rfl) ?_
    exact xb_lret 0 0 hx hb hr hlocks (show k + 0 ≤ MC by omega) (show n + 0 ≤ MS by omega) hE hR hS (xb_d D_Machine_converted 5 rfl) hw
  have hw := hw.2
  by_cases hc2 : x1 = 168
  · have hw := hw.1 hc2
    refine xt_numi hc2 ?_
    refine lv_tableIn (off := 199) (tgt := 200) hx hb (xb_d D_Machine_converted 1 rfl) (by decide +kernel) (by decide +kernel) (by decide +kernel) (by decide) ?_
    exact am_Machine_converted_L200 l hfl D A σ MC MS h0 Qr x2 h hw p e s m args below meth c hC H locs ls k n hE (lv_sub hl [2] rfl) hR hS (by omega) (by omega)
  have hw := hw.2
  by_cases hc3 : x1 = 169
  · have hw := hw.1 hc3
    refine xt_numi hc3 ?_
    refine lv_tableIn (off := 199) (tgt := 200) hx hb (xb_d D_Machine_converted 1 rfl) (by decide +kernel) (by decide +kernel) (by decide +kernel) (by decide) ?_
    exact am_Machine_converted_L200 l hfl D A σ MC MS h0 Qr x2 h hw p e s m args below meth c hC H locs ls k n hE (lv_sub hl [2] rfl) hR hS (by omega) (by omega)
  have hw := hw.2
  by_cases hc4 : x1 = 170
  · have hw := hw.1 hc4
    refine xt_numi hc4 ?_
    refine lv_tableIn (off := 199) (tgt := 200) hx hb (xb_d D_Machine_converted 1 rfl) (by decide +kernel) (by decide +kernel) (by decide +kernel) (by decide) ?_
    exact am_Machine_converted_L200 l hfl D A σ MC MS h0 Qr x2 h hw p e s m args below meth c hC H locs ls k n hE (lv_sub hl [2] rfl) hR hS (by omega) (by omega)
  have hw := hw.2
  by_cases hc5 : x1 = 171
  · have hw := hw.1 hc5
    refine xt_numi hc5 ?_
    refine lv_tableIn (off := 199) (tgt := 200) hx hb (xb_d D_Machine_converted 1 rfl) (by decide +kernel) (by decide +kernel) (by decide +kernel) (by decide) ?_
    exact am_Machine_converted_L200 l hfl D A σ MC MS h0 Qr x2 h hw p e s m args below meth c hC H locs ls k n hE (lv_sub hl [2] rfl) hR hS (by omega) (by omega)
  have hw := hw.2
  by_cases hc6 : x1 = 172
  · have hw := hw.1 hc6
    refine xt_numi hc6 ?_
    refine lv_tableIn (off := 105) (tgt := 106) hx hb (xb_d D_Machine_converted 1 rfl) (by decide +kernel) (by decide +kernel) (by decide +kernel) (by decide) ?_
    refine lv_lload_n hx hb (xb_d D_Machine_converted 6 rfl) rfl (lv_at hl 2 rfl) ?_
    refine lv_l2i hx hb (xb_d D_Machine_converted 7 rfl) rfl ?_
    refine lv_i2l hx hb (xb_d D_Machine_converted 8 rfl) rfl ?_
    exact xb_lret 0 0 hx hb hr hlocks (show k + 0 ≤ MC by omega) (show n + 0 ≤ MS by omega) hE hR hS (xb_d D_Machine_converted 9 rfl) hw
  have hw := hw.2
  by_cases hc7 : x1 = 173
  · have hw := hw.1 hc7
    refine xt_numi hc7 ?_
    refine lv_tableIn (off := 199) (tgt := 200) hx hb (xb_d D_Machine_converted 1 rfl) (by decide +kernel) (by decide +kernel) (by decide +kernel) (by decide) ?_
    exact am_Machine_converted_L200 l hfl D A σ MC MS h0 Qr x2 h hw p e s m args below meth c hC H locs ls k n hE (lv_sub hl [2] rfl) hR hS (by omega) (by omega)
  have hw := hw.2
  by_cases hc8 : x1 = 174
  · have hw := hw.1 hc8
    refine xt_numi hc8 ?_
    refine lv_tableIn (off := 199) (tgt := 200) hx hb (xb_d D_Machine_converted 1 rfl) (by decide +kernel) (by decide +kernel) (by decide +kernel) (by decide) ?_
    exact am_Machine_converted_L200 l hfl D A σ MC MS h0 Qr x2 h hw p e s m args below meth c hC H locs ls k n hE (lv_sub hl [2] rfl) hR hS (by omega) (by omega)
  have hw := hw.2
  by_cases hc9 : x1 = 175
  · have hw := hw.1 hc9
    refine xt_numi hc9 ?_
    refine lv_tableIn (off := 199) (tgt := 200) hx hb (xb_d D_Machine_converted 1 rfl) (by decide +kernel) (by decide +kernel) (by decide +kernel) (by decide) ?_
    exact am_Machine_converted_L200 l hfl D A σ MC MS h0 Qr x2 h hw p e s m args below meth c hC H locs ls k n hE (lv_sub hl [2] rfl) hR hS (by omega) (by omega)
  have hw := hw.2
  by_cases hc10 : x1 = 176
  · have hw := hw.1 hc10
    refine xt_numi hc10 ?_
    refine lv_tableIn (off := 199) (tgt := 200) hx hb (xb_d D_Machine_converted 1 rfl) (by decide +kernel) (by decide +kernel) (by decide +kernel) (by decide) ?_
    exact am_Machine_converted_L200 l hfl D A σ MC MS h0 Qr x2 h hw p e s m args below meth c hC H locs ls k n hE (lv_sub hl [2] rfl) hR hS (by omega) (by omega)
  have hw := hw.2
  by_cases hc11 : x1 = 177
  · have hw := hw.1 hc11
    refine xt_numi hc11 ?_
    refine lv_tableIn (off := 199) (tgt := 200) hx hb (xb_d D_Machine_converted 1 rfl) (by decide +kernel) (by decide +kernel) (by decide +kernel) (by decide) ?_
    exact am_Machine_converted_L200 l hfl D A σ MC MS h0 Qr x2 h hw p e s m args below meth c hC H locs ls k n hE (lv_sub hl [2] rfl) hR hS (by omega) (by omega)
  have hw := hw.2
  by_cases hc12 : x1 = 178
  · have hw := hw.1 hc12
    refine xt_numi hc12 ?_
    refine lv_tableIn (off := 109) (tgt := 110) hx hb (xb_d D_Machine_converted 1 rfl) (by decide +kernel) (by decide +kernel) (by decide +kernel) (by decide) ?_
    refine lv_aload_n hx hb (xb_d D_Machine_converted 10 rfl) rfl (lv_at hl 0 rfl) ?_
    obtain ⟨hk13, hw⟩ := hw
    refine xb_getP (C := R_Machine) (T := F_Machine) (N := 18) hx hb 7 1 hts fin_Machine hown hR hk13 (by decide) rfl (by decide) rfl (hts _ m_ae64f9ca) (fun _ h9 => h9) (xb_d D_Machine_converted 11 rfl) ?_
    obtain ⟨b14, eb14, hw⟩ := hw
    refine xb_some eb14 ?_
    refine lv_lload_n hx hb (xb_d D_Machine_converted 12 rfl) rfl (lv_at hl 2 rfl) ?_
    refine lv_l2i hx hb (xb_d D_Machine_converted 13 rfl) rfl ?_
    refine lv_i2l hx hb (xb_d D_Machine_converted 14 rfl) rfl ?_
    refine lv_iconst (v := 1) hx hb (xb_d D_Machine_converted 15 rfl) (by decide) ?_
    obtain ⟨hk15, hw⟩ := hw
    refine xb_call0 (D := D) (A := A) (σ := σ) (h := h) (d := 4) (maxL := 7) (rest := []) (av := [.ref b14, .long (Int32.toInt64 (Int64.toInt32 x2)), .int 1]) (fun T hT X => by obtain ⟨cb9, ra9, rb9, rc9⟩ := xb_recv (ci := 5) hR rfl hk15 (by decide); exact xt_invV X hx hown (hts _ m_823c8e4a) (hts _ m_3b32aa18) (hts _ m_dc35161d) (xt_sigOf (hts _ m_0e750959)) nm_Format_ofWhole (by rw [hT]; exact ra9) rb9 rc9 (g := F0 m 118 ls [.int 1, .long (Int32.toInt64 (Int64.toInt32 x2)), .ref b14]) rfl (argsL := [.long (Int32.toInt64 (Int64.toInt32 x2)), .int 1]) (rest := []) rfl rfl (by rw [hb]; exact (xb_d D_Machine_converted 16 rfl))) (ok_Format_ofWhole l hfl D A σ b14 (Int32.toInt64 (Int64.toInt32 x2)) 1 h _ hw) (hml.trans hl.1.symm) (by rw [hb]; exact (xb_d D_Machine_converted 16 rfl)) (Nat.le_of_ble_eq_true rfl) (Nat.le_of_ble_eq_true rfl) (Nat.le_of_ble_eq_true rfl) (show k ≤ MC by omega) (show n ≤ MS by omega) (xt_w1 hB.1 m_0e750959) (xt_cdOf hB.1 m_0e750959) (hts _ m_64857de5) hB hR hS hA (fun vv h16 H locs hq hEh16 hR hS => ?_)
    obtain ⟨r17, rfl, hw⟩ := hq
    have hw := hw hEh16
    have hE := hE.tr hEh16
    refine W.eq (g2 := F0 m 121 ls [.long r17]) rfl ?_
    exact xb_lret 0 0 hx hb hr hlocks (show k + 0 ≤ MC by omega) (show n + 0 ≤ MS by omega) hE hR hS (xb_d D_Machine_converted 17 rfl) hw
  have hw := hw.2
  by_cases hc18 : x1 = 179
  · have hw := hw.1 hc18
    refine xt_numi hc18 ?_
    refine lv_tableIn (off := 121) (tgt := 122) hx hb (xb_d D_Machine_converted 1 rfl) (by decide +kernel) (by decide +kernel) (by decide +kernel) (by decide) ?_
    exact am_Machine_converted_L122 l hfl D A σ MC MS h0 Qr x0 x2 h hw p e s m args below meth c hC H locs ls k n hE (lv_sub hl [0, 2] rfl) hR hS (by omega) (by omega)
  have hw := hw.2
  by_cases hc19 : x1 = 180
  · have hw := hw.1 hc19
    refine xt_numi hc19 ?_
    refine lv_tableIn (off := 131) (tgt := 132) hx hb (xb_d D_Machine_converted 1 rfl) (by decide +kernel) (by decide +kernel) (by decide +kernel) (by decide) ?_
    refine lv_aload_n hx hb (xb_d D_Machine_converted 24 rfl) rfl (lv_at hl 0 rfl) ?_
    obtain ⟨hk20, hw⟩ := hw
    refine xb_getP (C := R_Machine) (T := F_Machine) (N := 18) hx hb 7 1 hts fin_Machine hown hR hk20 (by decide) rfl (by decide) rfl (hts _ m_ae64f9ca) (fun _ h9 => h9) (xb_d D_Machine_converted 25 rfl) ?_
    obtain ⟨b21, eb21, hw⟩ := hw
    refine xb_some eb21 ?_
    refine lv_lload_n hx hb (xb_d D_Machine_converted 26 rfl) rfl (lv_at hl 2 rfl) ?_
    refine lv_iconst (v := 1) hx hb (xb_d D_Machine_converted 27 rfl) (by decide) ?_
    obtain ⟨hk22, hw⟩ := hw
    refine xb_call0 (D := D) (A := A) (σ := σ) (h := h) (d := 4) (maxL := 7) (rest := []) (av := [.ref b21, .long x2, .int 1]) (fun T hT X => by obtain ⟨cb9, ra9, rb9, rc9⟩ := xb_recv (ci := 5) hR rfl hk22 (by decide); exact xt_invV X hx hown (hts _ m_823c8e4a) (hts _ m_3b32aa18) (hts _ m_dc35161d) (xt_sigOf (hts _ m_0e750959)) nm_Format_ofWhole (by rw [hT]; exact ra9) rb9 rc9 (g := F0 m 138 ls [.int 1, .long x2, .ref b21]) rfl (argsL := [.long x2, .int 1]) (rest := []) rfl rfl (by rw [hb]; exact (xb_d D_Machine_converted 28 rfl))) (ok_Format_ofWhole l hfl D A σ b21 x2 1 h _ hw) (hml.trans hl.1.symm) (by rw [hb]; exact (xb_d D_Machine_converted 28 rfl)) (Nat.le_of_ble_eq_true rfl) (Nat.le_of_ble_eq_true rfl) (Nat.le_of_ble_eq_true rfl) (show k ≤ MC by omega) (show n ≤ MS by omega) (xt_w1 hB.1 m_0e750959) (xt_cdOf hB.1 m_0e750959) (hts _ m_64857de5) hB hR hS hA (fun vv h23 H locs hq hEh23 hR hS => ?_)
    obtain ⟨r24, rfl, hw⟩ := hq
    have hw := hw hEh23
    have hE := hE.tr hEh23
    refine W.eq (g2 := F0 m 141 ls [.long r24]) rfl ?_
    exact xb_lret 0 0 hx hb hr hlocks (show k + 0 ≤ MC by omega) (show n + 0 ≤ MS by omega) hE hR hS (xb_d D_Machine_converted 29 rfl) hw
  have hw := hw.2
  by_cases hc25 : x1 = 181
  · have hw := hw.1 hc25
    refine xt_numi hc25 ?_
    refine lv_tableIn (off := 121) (tgt := 122) hx hb (xb_d D_Machine_converted 1 rfl) (by decide +kernel) (by decide +kernel) (by decide +kernel) (by decide) ?_
    exact am_Machine_converted_L122 l hfl D A σ MC MS h0 Qr x0 x2 h hw p e s m args below meth c hC H locs ls k n hE (lv_sub hl [0, 2] rfl) hR hS (by omega) (by omega)
  have hw := hw.2
  by_cases hc26 : x1 = 182
  · have hw := hw.1 hc26
    refine xt_numi hc26 ?_
    refine lv_tableIn (off := 141) (tgt := 142) hx hb (xb_d D_Machine_converted 1 rfl) (by decide +kernel) (by decide +kernel) (by decide +kernel) (by decide) ?_
    refine lv_aload_n hx hb (xb_d D_Machine_converted 30 rfl) rfl (lv_at hl 0 rfl) ?_
    obtain ⟨hk27, hw⟩ := hw
    refine xb_getP (C := R_Machine) (T := F_Machine) (N := 18) hx hb 7 1 hts fin_Machine hown hR hk27 (by decide) rfl (by decide) rfl (hts _ m_ae64f9ca) (fun _ h9 => h9) (xb_d D_Machine_converted 31 rfl) ?_
    obtain ⟨b28, eb28, hw⟩ := hw
    refine xb_some eb28 ?_
    refine lv_aload_n hx hb (xb_d D_Machine_converted 32 rfl) rfl (lv_at hl 0 rfl) ?_
    refine xb_getP (C := R_Machine) (T := F_Machine) (N := 18) hx hb 7 2 hts fin_Machine hown hR hk27 (by decide) rfl (by decide) rfl (hts _ m_ba1eb42f) (fun _ h9 => h9) (xb_d D_Machine_converted 33 rfl) ?_
    obtain ⟨b29, eb29, hw⟩ := hw
    refine xb_some eb29 ?_
    refine lv_lload_n hx hb (xb_d D_Machine_converted 34 rfl) rfl (lv_at hl 2 rfl) ?_
    obtain ⟨hk30, hw⟩ := hw
    refine xb_call0 (D := D) (A := A) (σ := σ) (h := h) (d := 4) (maxL := 5) (rest := []) (av := [.ref b28, .ref b29, .long x2]) (fun T hT X => by obtain ⟨cb9, ra9, rb9, rc9⟩ := xb_recv (ci := 5) hR rfl hk30 (by decide); exact xt_invV X hx hown (hts _ m_4c45bc79) (hts _ m_df7caa06) (hts _ m_7d394ae2) (xt_sigOf (hts _ m_57489b92)) nm_Format_ofOther (by rw [hT]; exact ra9) rb9 rc9 (g := F0 m 151 ls [.long x2, .ref b29, .ref b28]) rfl (argsL := [.ref b29, .long x2]) (rest := []) rfl rfl (by rw [hb]; exact (xb_d D_Machine_converted 35 rfl))) (ok_Format_ofOther l hfl D A σ b28 b29 x2 h _ hw) (hml.trans hl.1.symm) (by rw [hb]; exact (xb_d D_Machine_converted 35 rfl)) (Nat.le_of_ble_eq_true rfl) (Nat.le_of_ble_eq_true rfl) (Nat.le_of_ble_eq_true rfl) (show k ≤ MC by omega) (show n ≤ MS by omega) (xt_w1 hB.1 m_57489b92) (xt_cdOf hB.1 m_57489b92) (hts _ m_64857de5) hB hR hS hA (fun vv h31 H locs hq hEh31 hR hS => ?_)
    obtain ⟨r32, rfl, hw⟩ := hq
    have hw := hw hEh31
    have hE := hE.tr hEh31
    refine W.eq (g2 := F0 m 154 ls [.long r32]) rfl ?_
    exact xb_lret 0 0 hx hb hr hlocks (show k + 0 ≤ MC by omega) (show n + 0 ≤ MS by omega) hE hR hS (xb_d D_Machine_converted 36 rfl) hw
  have hw := hw.2
  by_cases hc33 : x1 = 183
  · have hw := hw.1 hc33
    refine xt_numi hc33 ?_
    refine lv_tableIn (off := 154) (tgt := 155) hx hb (xb_d D_Machine_converted 1 rfl) (by decide +kernel) (by decide +kernel) (by decide +kernel) (by decide) ?_
    refine lv_aload_n hx hb (xb_d D_Machine_converted 37 rfl) rfl (lv_at hl 0 rfl) ?_
    obtain ⟨hk34, hw⟩ := hw
    refine xb_getP (C := R_Machine) (T := F_Machine) (N := 18) hx hb 7 2 hts fin_Machine hown hR hk34 (by decide) rfl (by decide) rfl (hts _ m_ba1eb42f) (fun _ h9 => h9) (xb_d D_Machine_converted 38 rfl) ?_
    obtain ⟨b35, eb35, hw⟩ := hw
    refine xb_some eb35 ?_
    refine lv_lload_n hx hb (xb_d D_Machine_converted 39 rfl) rfl (lv_at hl 2 rfl) ?_
    refine lv_l2i hx hb (xb_d D_Machine_converted 40 rfl) rfl ?_
    refine lv_i2l hx hb (xb_d D_Machine_converted 41 rfl) rfl ?_
    refine lv_iconst (v := 1) hx hb (xb_d D_Machine_converted 42 rfl) (by decide) ?_
    obtain ⟨hk36, hw⟩ := hw
    refine xb_call0 (D := D) (A := A) (σ := σ) (h := h) (d := 4) (maxL := 7) (rest := []) (av := [.ref b35, .long (Int32.toInt64 (Int64.toInt32 x2)), .int 1]) (fun T hT X => by obtain ⟨cb9, ra9, rb9, rc9⟩ := xb_recv (ci := 5) hR rfl hk36 (by decide); exact xt_invV X hx hown (hts _ m_823c8e4a) (hts _ m_3b32aa18) (hts _ m_dc35161d) (xt_sigOf (hts _ m_0e750959)) nm_Format_ofWhole (by rw [hT]; exact ra9) rb9 rc9 (g := F0 m 163 ls [.int 1, .long (Int32.toInt64 (Int64.toInt32 x2)), .ref b35]) rfl (argsL := [.long (Int32.toInt64 (Int64.toInt32 x2)), .int 1]) (rest := []) rfl rfl (by rw [hb]; exact (xb_d D_Machine_converted 43 rfl))) (ok_Format_ofWhole l hfl D A σ b35 (Int32.toInt64 (Int64.toInt32 x2)) 1 h _ hw) (hml.trans hl.1.symm) (by rw [hb]; exact (xb_d D_Machine_converted 43 rfl)) (Nat.le_of_ble_eq_true rfl) (Nat.le_of_ble_eq_true rfl) (Nat.le_of_ble_eq_true rfl) (show k ≤ MC by omega) (show n ≤ MS by omega) (xt_w1 hB.1 m_0e750959) (xt_cdOf hB.1 m_0e750959) (hts _ m_64857de5) hB hR hS hA (fun vv h37 H locs hq hEh37 hR hS => ?_)
    obtain ⟨r38, rfl, hw⟩ := hq
    have hw := hw hEh37
    have hE := hE.tr hEh37
    refine W.eq (g2 := F0 m 166 ls [.long r38]) rfl ?_
    exact xb_lret 0 0 hx hb hr hlocks (show k + 0 ≤ MC by omega) (show n + 0 ≤ MS by omega) hE hR hS (xb_d D_Machine_converted 44 rfl) hw
  have hw := hw.2
  by_cases hc39 : x1 = 184
  · have hw := hw.1 hc39
    refine xt_numi hc39 ?_
    refine lv_tableIn (off := 166) (tgt := 167) hx hb (xb_d D_Machine_converted 1 rfl) (by decide +kernel) (by decide +kernel) (by decide +kernel) (by decide) ?_
    exact am_Machine_converted_L167 l hfl D A σ MC MS h0 Qr x0 x2 h hw p e s m args below meth c hC H locs ls k n hE (lv_sub hl [0, 2] rfl) hR hS (by omega) (by omega)
  have hw := hw.2
  by_cases hc40 : x1 = 185
  · have hw := hw.1 hc40
    refine xt_numi hc40 ?_
    refine lv_tableIn (off := 176) (tgt := 177) hx hb (xb_d D_Machine_converted 1 rfl) (by decide +kernel) (by decide +kernel) (by decide +kernel) (by decide) ?_
    refine lv_aload_n hx hb (xb_d D_Machine_converted 51 rfl) rfl (lv_at hl 0 rfl) ?_
    obtain ⟨hk41, hw⟩ := hw
    refine xb_getP (C := R_Machine) (T := F_Machine) (N := 18) hx hb 7 2 hts fin_Machine hown hR hk41 (by decide) rfl (by decide) rfl (hts _ m_ba1eb42f) (fun _ h9 => h9) (xb_d D_Machine_converted 52 rfl) ?_
    obtain ⟨b42, eb42, hw⟩ := hw
    refine xb_some eb42 ?_
    refine lv_lload_n hx hb (xb_d D_Machine_converted 53 rfl) rfl (lv_at hl 2 rfl) ?_
    refine lv_iconst (v := 1) hx hb (xb_d D_Machine_converted 54 rfl) (by decide) ?_
    obtain ⟨hk43, hw⟩ := hw
    refine xb_call0 (D := D) (A := A) (σ := σ) (h := h) (d := 4) (maxL := 7) (rest := []) (av := [.ref b42, .long x2, .int 1]) (fun T hT X => by obtain ⟨cb9, ra9, rb9, rc9⟩ := xb_recv (ci := 5) hR rfl hk43 (by decide); exact xt_invV X hx hown (hts _ m_823c8e4a) (hts _ m_3b32aa18) (hts _ m_dc35161d) (xt_sigOf (hts _ m_0e750959)) nm_Format_ofWhole (by rw [hT]; exact ra9) rb9 rc9 (g := F0 m 183 ls [.int 1, .long x2, .ref b42]) rfl (argsL := [.long x2, .int 1]) (rest := []) rfl rfl (by rw [hb]; exact (xb_d D_Machine_converted 55 rfl))) (ok_Format_ofWhole l hfl D A σ b42 x2 1 h _ hw) (hml.trans hl.1.symm) (by rw [hb]; exact (xb_d D_Machine_converted 55 rfl)) (Nat.le_of_ble_eq_true rfl) (Nat.le_of_ble_eq_true rfl) (Nat.le_of_ble_eq_true rfl) (show k ≤ MC by omega) (show n ≤ MS by omega) (xt_w1 hB.1 m_0e750959) (xt_cdOf hB.1 m_0e750959) (hts _ m_64857de5) hB hR hS hA (fun vv h44 H locs hq hEh44 hR hS => ?_)
    obtain ⟨r45, rfl, hw⟩ := hq
    have hw := hw hEh44
    have hE := hE.tr hEh44
    refine W.eq (g2 := F0 m 186 ls [.long r45]) rfl ?_
    exact xb_lret 0 0 hx hb hr hlocks (show k + 0 ≤ MC by omega) (show n + 0 ≤ MS by omega) hE hR hS (xb_d D_Machine_converted 56 rfl) hw
  have hw := hw.2
  by_cases hc46 : x1 = 186
  · have hw := hw.1 hc46
    refine xt_numi hc46 ?_
    refine lv_tableIn (off := 166) (tgt := 167) hx hb (xb_d D_Machine_converted 1 rfl) (by decide +kernel) (by decide +kernel) (by decide +kernel) (by decide) ?_
    exact am_Machine_converted_L167 l hfl D A σ MC MS h0 Qr x0 x2 h hw p e s m args below meth c hC H locs ls k n hE (lv_sub hl [0, 2] rfl) hR hS (by omega) (by omega)
  have hw := hw.2
  by_cases hc47 : x1 = 187
  · have hw := hw.1 hc47
    refine xt_numi hc47 ?_
    refine lv_tableIn (off := 186) (tgt := 187) hx hb (xb_d D_Machine_converted 1 rfl) (by decide +kernel) (by decide +kernel) (by decide +kernel) (by decide) ?_
    refine lv_aload_n hx hb (xb_d D_Machine_converted 57 rfl) rfl (lv_at hl 0 rfl) ?_
    obtain ⟨hk48, hw⟩ := hw
    refine xb_getP (C := R_Machine) (T := F_Machine) (N := 18) hx hb 7 2 hts fin_Machine hown hR hk48 (by decide) rfl (by decide) rfl (hts _ m_ba1eb42f) (fun _ h9 => h9) (xb_d D_Machine_converted 58 rfl) ?_
    obtain ⟨b49, eb49, hw⟩ := hw
    refine xb_some eb49 ?_
    refine lv_aload_n hx hb (xb_d D_Machine_converted 59 rfl) rfl (lv_at hl 0 rfl) ?_
    refine xb_getP (C := R_Machine) (T := F_Machine) (N := 18) hx hb 7 1 hts fin_Machine hown hR hk48 (by decide) rfl (by decide) rfl (hts _ m_ae64f9ca) (fun _ h9 => h9) (xb_d D_Machine_converted 60 rfl) ?_
    obtain ⟨b50, eb50, hw⟩ := hw
    refine xb_some eb50 ?_
    refine lv_lload_n hx hb (xb_d D_Machine_converted 61 rfl) rfl (lv_at hl 2 rfl) ?_
    obtain ⟨hk51, hw⟩ := hw
    refine xb_call0 (D := D) (A := A) (σ := σ) (h := h) (d := 4) (maxL := 5) (rest := []) (av := [.ref b49, .ref b50, .long x2]) (fun T hT X => by obtain ⟨cb9, ra9, rb9, rc9⟩ := xb_recv (ci := 5) hR rfl hk51 (by decide); exact xt_invV X hx hown (hts _ m_4c45bc79) (hts _ m_df7caa06) (hts _ m_7d394ae2) (xt_sigOf (hts _ m_57489b92)) nm_Format_ofOther (by rw [hT]; exact ra9) rb9 rc9 (g := F0 m 196 ls [.long x2, .ref b50, .ref b49]) rfl (argsL := [.ref b50, .long x2]) (rest := []) rfl rfl (by rw [hb]; exact (xb_d D_Machine_converted 62 rfl))) (ok_Format_ofOther l hfl D A σ b49 b50 x2 h _ hw) (hml.trans hl.1.symm) (by rw [hb]; exact (xb_d D_Machine_converted 62 rfl)) (Nat.le_of_ble_eq_true rfl) (Nat.le_of_ble_eq_true rfl) (Nat.le_of_ble_eq_true rfl) (show k ≤ MC by omega) (show n ≤ MS by omega) (xt_w1 hB.1 m_57489b92) (xt_cdOf hB.1 m_57489b92) (hts _ m_64857de5) hB hR hS hA (fun vv h52 H locs hq hEh52 hR hS => ?_)
    obtain ⟨r53, rfl, hw⟩ := hq
    have hw := hw hEh52
    have hE := hE.tr hEh52
    refine W.eq (g2 := F0 m 199 ls [.long r53]) rfl ?_
    exact xb_lret 0 0 hx hb hr hlocks (show k + 0 ≤ MC by omega) (show n + 0 ≤ MS by omega) hE hR hS (xb_d D_Machine_converted 63 rfl) hw
  have hw := hw.2
  have hw := hw hc1 hc2 hc3 hc4 hc5 hc6 hc7 hc8 hc9 hc10 hc11 hc12 hc18 hc19 hc25 hc26 hc33 hc39 hc40 hc46 hc47
  refine lv_tableOut (tgt := 200) hx hb (xb_d D_Machine_converted 1 rfl) (by have a0 := xb_nl (167) 167 (by decide) hc1; have a1 := xb_nl (168) 168 (by decide) hc2; have a2 := xb_nl (169) 169 (by decide) hc3; have a3 := xb_nl (170) 170 (by decide) hc4; have a4 := xb_nl (171) 171 (by decide) hc5; have a5 := xb_nl (172) 172 (by decide) hc6; have a6 := xb_nl (173) 173 (by decide) hc7; have a7 := xb_nl (174) 174 (by decide) hc8; have a8 := xb_nl (175) 175 (by decide) hc9; have a9 := xb_nl (176) 176 (by decide) hc10; have a10 := xb_nl (177) 177 (by decide) hc11; have a11 := xb_nl (178) 178 (by decide) hc12; have a12 := xb_nl (179) 179 (by decide) hc18; have a13 := xb_nl (180) 180 (by decide) hc19; have a14 := xb_nl (181) 181 (by decide) hc25; have a15 := xb_nl (182) 182 (by decide) hc26; have a16 := xb_nl (183) 183 (by decide) hc33; have a17 := xb_nl (184) 184 (by decide) hc39; have a18 := xb_nl (185) 185 (by decide) hc40; have a19 := xb_nl (186) 186 (by decide) hc46; have a20 := xb_nl (187) 187 (by decide) hc47; omega) (by decide) ?_
  exact am_Machine_converted_L200 l hfl D A σ MC MS h0 Qr x2 h hw p e s m args below meth c hC H locs ls k n hE (lv_sub hl [2] rfl) hR hS (by omega) (by omega)

theorem m_cf38f219 : (.constant "StackHost$Machine" 103 20000000 : Cond) ∈ xt_tbl := xt_in (xt_t7 (List.mem_of_getElem? (i := 238) (by decide +kernel))) (by decide +kernel)
set_option maxRecDepth 100000 in
def T_Machine_passFree : List (Nat × Instr × Nat) := [(0, .iconst 0, 1), (1, .istore_n 1, 1), (2, .iload_n 1, 1), (3, .ldc 103, 2), (5, .if_icmp .ge 161, 3), (8, .aload_n 0, 1), (9, .getfield 46, 3), (12, .ifCond .eq 154, 3), (15, .aload_n 0, 1), (16, .getfield 104, 3), (19, .aload_n 0, 1), (20, .getfield 108, 3), (23, .baload, 1), (24, .tableswitch 135 1 11 #[60, 73, 73, 135, 86, 135, 135, 135, 135, 135, 102], 60), (84, .aload_n 0, 1), (85, .dup, 1), (86, .getfield 108, 3), (89, .iconst 1, 1), (90, .iadd, 1), (91, .putfield 108, 3), (94, .goto 66, 3), (97, .aload_n 0, 1), (98, .dup, 1), (99, .getfield 108, 3), (102, .iconst 2, 1), (103, .iadd, 1), (104, .putfield 108, 3), (107, .goto 53, 3), (110, .aload_n 0, 1), (111, .aload_n 0, 1), (112, .getfield 111, 3), (115, .aload_n 0, 1), (116, .getfield 108, 3), (119, .iaload, 1), (120, .putfield 108, 3), (123, .goto 37, 3), (126, .aload_n 0, 1), (127, .getfield 111, 3), (130, .aload_n 0, 1), (131, .getfield 108, 3), (134, .iaload, 1), (135, .iconst 1, 1), (136, .if_icmp .ne 10, 3), (139, .aload_n 0, 1), (140, .invokevirtual 114, 3), (143, .goto 17, 3), (146, .aload_n 0, 1), (147, .dup, 1), (148, .getfield 108, 3), (151, .iconst 1, 1), (152, .iadd, 1), (153, .putfield 108, 3), (156, .goto 4, 3), (159, .return_, 1), (160, .iinc 1 1, 3), (163, .goto (-161), 3), (166, .return_, 1)]
theorem D_Machine_passFree : ∀ q ∈ T_Machine_passFree, decode b_Machine_passFree q.1 = .ok (q.2.1, q.2.2) := by decide +kernel

set_option maxHeartbeats 4000000 in
set_option maxRecDepth 100000 in
theorem am_Machine_passFree_L166 (l : Launch) (hfl : l.flags = pinnedFlags ++ [noTraceFlag]) (D : va_G) (A : Nat → Prop) (σ MC MS : Nat) (h0 : xb_H) (Qr : xb_H → Prop) (h : xb_H) (hw : w_Machine_passFree_L166 Qr h) : xb_am l D A σ 5 MC MS h0 (fun v h _ _ => v = none ∧ Qr h) (fun _ _ _ _ => False) y_Machine_passFree.cls y_Machine_passFree.name b_Machine_passFree 2 ([] : List ExceptionTableEntry) none 166 [] [] h 0 0 := by
  unfold w_Machine_passFree_L166 at hw
  intro p e s m args below meth c hC H locs ls k n hE hl hR hS hk hn
  obtain ⟨hx, hb, hown, hlocks, htab, hml, hr, hB, hA, hnm⟩ := id hC
  have hts := hB.1.1.at args
  exact xb_vret 0 0 hx hb hr hlocks (show k + 0 ≤ MC by omega) (show n + 0 ≤ MS by omega) hE hR hS (xb_d D_Machine_passFree 56 rfl) hw

set_option maxHeartbeats 4000000 in
set_option maxRecDepth 100000 in
theorem am_Machine_passFree_L160 (l : Launch) (hfl : l.flags = pinnedFlags ++ [noTraceFlag]) (D : va_G) (A : Nat → Prop) (σ MC MS : Nat) (h0 : xb_H) (Qr : xb_H → Prop) (K2 : Nat → Int32 → xb_H → Prop) (hK2 : ∀ (x0 : Nat) (x1 : Int32) (h : xb_H), K2 x0 x1 h → xb_am l D A σ 5 MC MS h0 (fun v h _ _ => v = none ∧ Qr h) (fun _ _ _ _ => False) y_Machine_passFree.cls y_Machine_passFree.name b_Machine_passFree 2 ([] : List ExceptionTableEntry) none 2 [(0, .ref x0), (1, .int x1)] [] h 0 0) (x0 : Nat) (x1 : Int32) (h : xb_H) (hw : w_Machine_passFree_L160 K2 Qr x0 x1 h) : xb_am l D A σ 5 MC MS h0 (fun v h _ _ => v = none ∧ Qr h) (fun _ _ _ _ => False) y_Machine_passFree.cls y_Machine_passFree.name b_Machine_passFree 2 ([] : List ExceptionTableEntry) none 160 [(0, .ref x0), (1, .int x1)] [] h 0 0 := by
  unfold w_Machine_passFree_L160 at hw
  intro p e s m args below meth c hC H locs ls k n hE hl hR hS hk hn
  obtain ⟨hx, hb, hown, hlocks, htab, hml, hr, hB, hA, hnm⟩ := id hC
  have hts := hB.1.1.at args
  refine lv_iinc (v := (x1 + 1)) (k := 1) hx hb (xb_d D_Machine_passFree 54 rfl) hl rfl (by first | rfl | decide) (by decide) rfl (fun ls hl => ?_)
  have hl : lv_has ls 2 [(1, .int (x1 + 1)), (0, .ref x0)] := hl
  refine lv_goto (tgt := 2) hx hb (xb_d D_Machine_passFree 55 rfl) rfl ?_
  exact hK2 x0 (x1 + 1) h hw p e s m args below meth c hC H locs ls k n hE (lv_sub hl [1, 0] rfl) hR hS (by omega) (by omega)

set_option maxHeartbeats 4000000 in
set_option maxRecDepth 100000 in
theorem am_Machine_passFree_L159 (l : Launch) (hfl : l.flags = pinnedFlags ++ [noTraceFlag]) (D : va_G) (A : Nat → Prop) (σ MC MS : Nat) (h0 : xb_H) (Qr : xb_H → Prop) (K2 : Nat → Int32 → xb_H → Prop) (hK2 : ∀ (x0 : Nat) (x1 : Int32) (h : xb_H), K2 x0 x1 h → xb_am l D A σ 5 MC MS h0 (fun v h _ _ => v = none ∧ Qr h) (fun _ _ _ _ => False) y_Machine_passFree.cls y_Machine_passFree.name b_Machine_passFree 2 ([] : List ExceptionTableEntry) none 2 [(0, .ref x0), (1, .int x1)] [] h 0 0) (h : xb_H) (hw : w_Machine_passFree_L159 K2 Qr h) : xb_am l D A σ 5 MC MS h0 (fun v h _ _ => v = none ∧ Qr h) (fun _ _ _ _ => False) y_Machine_passFree.cls y_Machine_passFree.name b_Machine_passFree 2 ([] : List ExceptionTableEntry) none 159 [] [] h 0 0 := by
  unfold w_Machine_passFree_L159 at hw
  intro p e s m args below meth c hC H locs ls k n hE hl hR hS hk hn
  obtain ⟨hx, hb, hown, hlocks, htab, hml, hr, hB, hA, hnm⟩ := id hC
  have hts := hB.1.1.at args
  exact xb_vret 0 0 hx hb hr hlocks (show k + 0 ≤ MC by omega) (show n + 0 ≤ MS by omega) hE hR hS (xb_d D_Machine_passFree 53 rfl) hw

set_option maxHeartbeats 4000000 in
set_option maxRecDepth 100000 in
theorem am_Machine_passFree_L97 (l : Launch) (hfl : l.flags = pinnedFlags ++ [noTraceFlag]) (D : va_G) (A : Nat → Prop) (σ MC MS : Nat) (h0 : xb_H) (Qr : xb_H → Prop) (K2 : Nat → Int32 → xb_H → Prop) (hK2 : ∀ (x0 : Nat) (x1 : Int32) (h : xb_H), K2 x0 x1 h → xb_am l D A σ 5 MC MS h0 (fun v h _ _ => v = none ∧ Qr h) (fun _ _ _ _ => False) y_Machine_passFree.cls y_Machine_passFree.name b_Machine_passFree 2 ([] : List ExceptionTableEntry) none 2 [(0, .ref x0), (1, .int x1)] [] h 0 0) (x0 : Nat) (x1 : Int32) (h : xb_H) (hw : w_Machine_passFree_L97 K2 Qr x0 x1 h) : xb_am l D A σ 5 MC MS h0 (fun v h _ _ => v = none ∧ Qr h) (fun _ _ _ _ => False) y_Machine_passFree.cls y_Machine_passFree.name b_Machine_passFree 2 ([] : List ExceptionTableEntry) none 97 [(0, .ref x0), (1, .int x1)] [] h 0 0 := by
  unfold w_Machine_passFree_L97 at hw
  intro p e s m args below meth c hC H locs ls k n hE hl hR hS hk hn
  obtain ⟨hx, hb, hown, hlocks, htab, hml, hr, hB, hA, hnm⟩ := id hC
  have hts := hB.1.1.at args
  refine lv_aload_n hx hb (xb_d D_Machine_passFree 21 rfl) rfl (lv_at hl 0 rfl) ?_
  refine lv_dup hx hb (xb_d D_Machine_passFree 22 rfl) rfl ?_
  obtain ⟨hk1, hw⟩ := hw
  refine xb_getI (C := R_Machine) (T := F_Machine) (N := 18) hx hb 7 15 hts fin_Machine hown hR hk1 (by decide) rfl (by decide) rfl (hts _ m_6a595805) (fun _ h9 => h9) (xb_d D_Machine_passFree 23 rfl) ?_
  refine lv_iconst (v := 2) hx hb (xb_d D_Machine_passFree 24 rfl) (by decide) ?_
  refine lv_iadd hx hb (xb_d D_Machine_passFree 25 rfl) ?_
  refine xb_putI (C := R_Machine) (T := F_Machine) (N := 18) (ty := .int) (x := ((xb_i h x0 15) + 2)) hx hb 7 15 hts fin_Machine t_Machine t_Machine_ok n_Machine hown hR hS hk1 (by decide) rfl (by decide) rfl (hts _ m_6a595805) (fun _ h9 => h9) rfl (by decide +kernel) rfl rfl (xb_d D_Machine_passFree 26 rfl) (fun H locs hR hS => ?_)
  obtain ⟨h2, eh2⟩ : ∃ x : xb_H, x = xb_I h x0 15 ((xb_i h x0 15) + 2) := ⟨_, rfl⟩
  rw [← eh2] at hR
  have hw := hw h2 eh2
  have hE : xb_ext h0 h2 := by rw [eh2]; exact hE
  refine lv_goto (tgt := 160) hx hb (xb_d D_Machine_passFree 27 rfl) rfl ?_
  exact am_Machine_passFree_L160 l hfl D A σ MC MS h0 Qr K2 hK2 x0 x1 h2 hw p e s m args below meth c hC H locs ls k n hE (lv_sub hl [0, 1] rfl) hR hS (by omega) (by omega)

set_option maxHeartbeats 4000000 in
set_option maxRecDepth 100000 in
theorem am_Machine_passFree_L2 (l : Launch) (hfl : l.flags = pinnedFlags ++ [noTraceFlag]) (D : va_G) (A : Nat → Prop) (σ MC MS : Nat) (h0 : xb_H) (Qr : xb_H → Prop) (n9 : Nat) : ∀ (x0 : Nat) (x1 : Int32) (h : xb_H), w_Machine_passFree_L2 Qr n9 x0 x1 h → xb_am l D A σ 5 MC MS h0 (fun v h _ _ => v = none ∧ Qr h) (fun _ _ _ _ => False) y_Machine_passFree.cls y_Machine_passFree.name b_Machine_passFree 2 ([] : List ExceptionTableEntry) none 2 [(0, .ref x0), (1, .int x1)] [] h 0 0 := by
  induction n9 with
  | zero => intro x0 x1 h hw; exact False.elim hw
  | succ n9 ih =>
    intro x0 x1 h hw
    unfold w_Machine_passFree_L2 at hw
    intro p e s m args below meth c hC H locs ls k n hE hl hR hS hk hn
    obtain ⟨hx, hb, hown, hlocks, htab, hml, hr, hB, hA, hnm⟩ := id hC
    have hts := hB.1.1.at args
    refine lv_iload_n hx hb (xb_d D_Machine_passFree 2 rfl) rfl (lv_at hl 1 rfl) ?_
    refine lv_ldc (v := 20000000) hx hb hown (hts _ m_cf38f219) (xb_d D_Machine_passFree 3 rfl) ?_
    refine lv_icmp_ge (tgt := 166) hx hb (xb_d D_Machine_passFree 4 rfl) rfl (fun hc1 => ?_) (fun hc1 => ?_)
    · have hw := hw.1 hc1
      exact am_Machine_passFree_L166 l hfl D A σ MC MS h0 Qr h hw p e s m args below meth c hC H locs ls k n hE (lv_sub hl [] rfl) hR hS (by omega) (by omega)
    · have hw := hw.2 hc1
      refine lv_aload_n hx hb (xb_d D_Machine_passFree 5 rfl) rfl (lv_at hl 0 rfl) ?_
      obtain ⟨hk2, hw⟩ := hw
      refine xb_getI (C := R_Machine) (T := F_Machine) (N := 18) hx hb 7 3 hts fin_Machine hown hR hk2 (by decide) rfl (by decide) rfl (hts _ m_87cf9501) (fun _ h9 => h9) (xb_d D_Machine_passFree 6 rfl) ?_
      refine lv_if_eq (tgt := 166) hx hb (xb_d D_Machine_passFree 7 rfl) rfl (fun hc3 => ?_) (fun hc3 => ?_)
      · have hw := hw.1 hc3
        exact am_Machine_passFree_L166 l hfl D A σ MC MS h0 Qr h hw p e s m args below meth c hC H locs ls k n hE (lv_sub hl [] rfl) hR hS (by omega) (by omega)
      · have hw := hw.2 hc3
        refine lv_aload_n hx hb (xb_d D_Machine_passFree 8 rfl) rfl (lv_at hl 0 rfl) ?_
        refine xb_getP (C := R_Machine) (T := F_Machine) (N := 18) hx hb 7 13 hts fin_Machine hown hR hk2 (by decide) rfl (by decide) rfl (hts _ m_a6a0f666) (fun _ h9 => h9) (xb_d D_Machine_passFree 9 rfl) ?_
        obtain ⟨b4, eb4, hw⟩ := hw
        refine xb_some eb4 ?_
        refine lv_aload_n hx hb (xb_d D_Machine_passFree 10 rfl) rfl (lv_at hl 0 rfl) ?_
        refine xb_getI (C := R_Machine) (T := F_Machine) (N := 18) hx hb 7 15 hts fin_Machine hown hR hk2 (by decide) rfl (by decide) rfl (hts _ m_6a595805) (fun _ h9 => h9) (xb_d D_Machine_passFree 11 rfl) ?_
        obtain ⟨hk6, hw⟩ := hw
        obtain ⟨hi5, hw⟩ := hw
        refine xb_bald hx hb hR hk6 hi5 (xb_d D_Machine_passFree 12 rfl) ?_
        by_cases hc7 : (xb_i h b4 (Int32.toNatClampNeg (xb_i h x0 15))) = 1
        · have hw := hw.1 hc7
          refine xt_numi hc7 ?_
          refine lv_tableIn (off := 60) (tgt := 84) hx hb (xb_d D_Machine_passFree 13 rfl) (by decide +kernel) (by decide +kernel) (by decide +kernel) (by decide) ?_
          refine lv_aload_n hx hb (xb_d D_Machine_passFree 14 rfl) rfl (lv_at hl 0 rfl) ?_
          refine lv_dup hx hb (xb_d D_Machine_passFree 15 rfl) rfl ?_
          refine xb_getI (C := R_Machine) (T := F_Machine) (N := 18) hx hb 7 15 hts fin_Machine hown hR hk2 (by decide) rfl (by decide) rfl (hts _ m_6a595805) (fun _ h9 => h9) (xb_d D_Machine_passFree 16 rfl) ?_
          refine lv_iconst (v := 1) hx hb (xb_d D_Machine_passFree 17 rfl) (by decide) ?_
          refine lv_iadd hx hb (xb_d D_Machine_passFree 18 rfl) ?_
          refine xb_putI (C := R_Machine) (T := F_Machine) (N := 18) (ty := .int) (x := ((xb_i h x0 15) + 1)) hx hb 7 15 hts fin_Machine t_Machine t_Machine_ok n_Machine hown hR hS hk2 (by decide) rfl (by decide) rfl (hts _ m_6a595805) (fun _ h9 => h9) rfl (by decide +kernel) rfl rfl (xb_d D_Machine_passFree 19 rfl) (fun H locs hR hS => ?_)
          obtain ⟨h8, eh8⟩ : ∃ x : xb_H, x = xb_I h x0 15 ((xb_i h x0 15) + 1) := ⟨_, rfl⟩
          rw [← eh8] at hR
          have hw := hw h8 eh8
          have hE : xb_ext h0 h8 := by rw [eh8]; exact hE
          refine lv_goto (tgt := 160) hx hb (xb_d D_Machine_passFree 20 rfl) rfl ?_
          exact am_Machine_passFree_L160 l hfl D A σ MC MS h0 Qr (w_Machine_passFree_L2 Qr n9) ih x0 x1 h8 hw p e s m args below meth c hC H locs ls k n hE (lv_sub hl [0, 1] rfl) hR hS (by omega) (by omega)
        have hw := hw.2
        by_cases hc9 : (xb_i h b4 (Int32.toNatClampNeg (xb_i h x0 15))) = 2
        · have hw := hw.1 hc9
          refine xt_numi hc9 ?_
          refine lv_tableIn (off := 73) (tgt := 97) hx hb (xb_d D_Machine_passFree 13 rfl) (by decide +kernel) (by decide +kernel) (by decide +kernel) (by decide) ?_
          exact am_Machine_passFree_L97 l hfl D A σ MC MS h0 Qr (w_Machine_passFree_L2 Qr n9) ih x0 x1 h hw p e s m args below meth c hC H locs ls k n hE (lv_sub hl [0, 1] rfl) hR hS (by omega) (by omega)
        have hw := hw.2
        by_cases hc10 : (xb_i h b4 (Int32.toNatClampNeg (xb_i h x0 15))) = 3
        · have hw := hw.1 hc10
          refine xt_numi hc10 ?_
          refine lv_tableIn (off := 73) (tgt := 97) hx hb (xb_d D_Machine_passFree 13 rfl) (by decide +kernel) (by decide +kernel) (by decide +kernel) (by decide) ?_
          exact am_Machine_passFree_L97 l hfl D A σ MC MS h0 Qr (w_Machine_passFree_L2 Qr n9) ih x0 x1 h hw p e s m args below meth c hC H locs ls k n hE (lv_sub hl [0, 1] rfl) hR hS (by omega) (by omega)
        have hw := hw.2
        by_cases hc11 : (xb_i h b4 (Int32.toNatClampNeg (xb_i h x0 15))) = 4
        · have hw := hw.1 hc11
          refine xt_numi hc11 ?_
          refine lv_tableIn (off := 135) (tgt := 159) hx hb (xb_d D_Machine_passFree 13 rfl) (by decide +kernel) (by decide +kernel) (by decide +kernel) (by decide) ?_
          exact am_Machine_passFree_L159 l hfl D A σ MC MS h0 Qr (w_Machine_passFree_L2 Qr n9) ih h hw p e s m args below meth c hC H locs ls k n hE (lv_sub hl [] rfl) hR hS (by omega) (by omega)
        have hw := hw.2
        by_cases hc12 : (xb_i h b4 (Int32.toNatClampNeg (xb_i h x0 15))) = 5
        · have hw := hw.1 hc12
          refine xt_numi hc12 ?_
          refine lv_tableIn (off := 86) (tgt := 110) hx hb (xb_d D_Machine_passFree 13 rfl) (by decide +kernel) (by decide +kernel) (by decide +kernel) (by decide) ?_
          refine lv_aload_n hx hb (xb_d D_Machine_passFree 28 rfl) rfl (lv_at hl 0 rfl) ?_
          refine lv_aload_n hx hb (xb_d D_Machine_passFree 29 rfl) rfl (lv_at hl 0 rfl) ?_
          refine xb_getP (C := R_Machine) (T := F_Machine) (N := 18) hx hb 7 14 hts fin_Machine hown hR hk2 (by decide) rfl (by decide) rfl (hts _ m_8f763f86) (fun _ h9 => h9) (xb_d D_Machine_passFree 30 rfl) ?_
          obtain ⟨b13, eb13, hw⟩ := hw
          refine xb_some eb13 ?_
          refine lv_aload_n hx hb (xb_d D_Machine_passFree 31 rfl) rfl (lv_at hl 0 rfl) ?_
          refine xb_getI (C := R_Machine) (T := F_Machine) (N := 18) hx hb 7 15 hts fin_Machine hown hR hk2 (by decide) rfl (by decide) rfl (hts _ m_6a595805) (fun _ h9 => h9) (xb_d D_Machine_passFree 32 rfl) ?_
          obtain ⟨hk15, hw⟩ := hw
          obtain ⟨hi14, hw⟩ := hw
          refine xb_iald hx hb hR hk15 hi14 (xb_d D_Machine_passFree 33 rfl) ?_
          refine xb_putI (C := R_Machine) (T := F_Machine) (N := 18) (ty := .int) (x := (xb_i h b13 (Int32.toNatClampNeg (xb_i h x0 15)))) hx hb 7 15 hts fin_Machine t_Machine t_Machine_ok n_Machine hown hR hS hk2 (by decide) rfl (by decide) rfl (hts _ m_6a595805) (fun _ h9 => h9) rfl (by decide +kernel) rfl rfl (xb_d D_Machine_passFree 34 rfl) (fun H locs hR hS => ?_)
          obtain ⟨h16, eh16⟩ : ∃ x : xb_H, x = xb_I h x0 15 (xb_i h b13 (Int32.toNatClampNeg (xb_i h x0 15))) := ⟨_, rfl⟩
          rw [← eh16] at hR
          have hw := hw h16 eh16
          have hE : xb_ext h0 h16 := by rw [eh16]; exact hE
          refine lv_goto (tgt := 160) hx hb (xb_d D_Machine_passFree 35 rfl) rfl ?_
          exact am_Machine_passFree_L160 l hfl D A σ MC MS h0 Qr (w_Machine_passFree_L2 Qr n9) ih x0 x1 h16 hw p e s m args below meth c hC H locs ls k n hE (lv_sub hl [0, 1] rfl) hR hS (by omega) (by omega)
        have hw := hw.2
        by_cases hc17 : (xb_i h b4 (Int32.toNatClampNeg (xb_i h x0 15))) = 6
        · have hw := hw.1 hc17
          refine xt_numi hc17 ?_
          refine lv_tableIn (off := 135) (tgt := 159) hx hb (xb_d D_Machine_passFree 13 rfl) (by decide +kernel) (by decide +kernel) (by decide +kernel) (by decide) ?_
          exact am_Machine_passFree_L159 l hfl D A σ MC MS h0 Qr (w_Machine_passFree_L2 Qr n9) ih h hw p e s m args below meth c hC H locs ls k n hE (lv_sub hl [] rfl) hR hS (by omega) (by omega)
        have hw := hw.2
        by_cases hc18 : (xb_i h b4 (Int32.toNatClampNeg (xb_i h x0 15))) = 7
        · have hw := hw.1 hc18
          refine xt_numi hc18 ?_
          refine lv_tableIn (off := 135) (tgt := 159) hx hb (xb_d D_Machine_passFree 13 rfl) (by decide +kernel) (by decide +kernel) (by decide +kernel) (by decide) ?_
          exact am_Machine_passFree_L159 l hfl D A σ MC MS h0 Qr (w_Machine_passFree_L2 Qr n9) ih h hw p e s m args below meth c hC H locs ls k n hE (lv_sub hl [] rfl) hR hS (by omega) (by omega)
        have hw := hw.2
        by_cases hc19 : (xb_i h b4 (Int32.toNatClampNeg (xb_i h x0 15))) = 8
        · have hw := hw.1 hc19
          refine xt_numi hc19 ?_
          refine lv_tableIn (off := 135) (tgt := 159) hx hb (xb_d D_Machine_passFree 13 rfl) (by decide +kernel) (by decide +kernel) (by decide +kernel) (by decide) ?_
          exact am_Machine_passFree_L159 l hfl D A σ MC MS h0 Qr (w_Machine_passFree_L2 Qr n9) ih h hw p e s m args below meth c hC H locs ls k n hE (lv_sub hl [] rfl) hR hS (by omega) (by omega)
        have hw := hw.2
        by_cases hc20 : (xb_i h b4 (Int32.toNatClampNeg (xb_i h x0 15))) = 9
        · have hw := hw.1 hc20
          refine xt_numi hc20 ?_
          refine lv_tableIn (off := 135) (tgt := 159) hx hb (xb_d D_Machine_passFree 13 rfl) (by decide +kernel) (by decide +kernel) (by decide +kernel) (by decide) ?_
          exact am_Machine_passFree_L159 l hfl D A σ MC MS h0 Qr (w_Machine_passFree_L2 Qr n9) ih h hw p e s m args below meth c hC H locs ls k n hE (lv_sub hl [] rfl) hR hS (by omega) (by omega)
        have hw := hw.2
        by_cases hc21 : (xb_i h b4 (Int32.toNatClampNeg (xb_i h x0 15))) = 10
        · have hw := hw.1 hc21
          refine xt_numi hc21 ?_
          refine lv_tableIn (off := 135) (tgt := 159) hx hb (xb_d D_Machine_passFree 13 rfl) (by decide +kernel) (by decide +kernel) (by decide +kernel) (by decide) ?_
          exact am_Machine_passFree_L159 l hfl D A σ MC MS h0 Qr (w_Machine_passFree_L2 Qr n9) ih h hw p e s m args below meth c hC H locs ls k n hE (lv_sub hl [] rfl) hR hS (by omega) (by omega)
        have hw := hw.2
        by_cases hc22 : (xb_i h b4 (Int32.toNatClampNeg (xb_i h x0 15))) = 11
        · have hw := hw.1 hc22
          refine xt_numi hc22 ?_
          refine lv_tableIn (off := 102) (tgt := 126) hx hb (xb_d D_Machine_passFree 13 rfl) (by decide +kernel) (by decide +kernel) (by decide +kernel) (by decide) ?_
          refine lv_aload_n hx hb (xb_d D_Machine_passFree 36 rfl) rfl (lv_at hl 0 rfl) ?_
          refine xb_getP (C := R_Machine) (T := F_Machine) (N := 18) hx hb 7 14 hts fin_Machine hown hR hk2 (by decide) rfl (by decide) rfl (hts _ m_8f763f86) (fun _ h9 => h9) (xb_d D_Machine_passFree 37 rfl) ?_
          obtain ⟨b23, eb23, hw⟩ := hw
          refine xb_some eb23 ?_
          refine lv_aload_n hx hb (xb_d D_Machine_passFree 38 rfl) rfl (lv_at hl 0 rfl) ?_
          refine xb_getI (C := R_Machine) (T := F_Machine) (N := 18) hx hb 7 15 hts fin_Machine hown hR hk2 (by decide) rfl (by decide) rfl (hts _ m_6a595805) (fun _ h9 => h9) (xb_d D_Machine_passFree 39 rfl) ?_
          obtain ⟨hk25, hw⟩ := hw
          obtain ⟨hi24, hw⟩ := hw
          refine xb_iald hx hb hR hk25 hi24 (xb_d D_Machine_passFree 40 rfl) ?_
          refine lv_iconst (v := 1) hx hb (xb_d D_Machine_passFree 41 rfl) (by decide) ?_
          refine lv_icmp_ne (tgt := 146) hx hb (xb_d D_Machine_passFree 42 rfl) rfl (fun hc26 => ?_) (fun hc26 => ?_)
          · have hw := hw.1 hc26
            refine lv_aload_n hx hb (xb_d D_Machine_passFree 46 rfl) rfl (lv_at hl 0 rfl) ?_
            refine lv_dup hx hb (xb_d D_Machine_passFree 47 rfl) rfl ?_
            refine xb_getI (C := R_Machine) (T := F_Machine) (N := 18) hx hb 7 15 hts fin_Machine hown hR hk2 (by decide) rfl (by decide) rfl (hts _ m_6a595805) (fun _ h9 => h9) (xb_d D_Machine_passFree 48 rfl) ?_
            refine lv_iconst (v := 1) hx hb (xb_d D_Machine_passFree 49 rfl) (by decide) ?_
            refine lv_iadd hx hb (xb_d D_Machine_passFree 50 rfl) ?_
            refine xb_putI (C := R_Machine) (T := F_Machine) (N := 18) (ty := .int) (x := ((xb_i h x0 15) + 1)) hx hb 7 15 hts fin_Machine t_Machine t_Machine_ok n_Machine hown hR hS hk2 (by decide) rfl (by decide) rfl (hts _ m_6a595805) (fun _ h9 => h9) rfl (by decide +kernel) rfl rfl (xb_d D_Machine_passFree 51 rfl) (fun H locs hR hS => ?_)
            obtain ⟨h27, eh27⟩ : ∃ x : xb_H, x = xb_I h x0 15 ((xb_i h x0 15) + 1) := ⟨_, rfl⟩
            rw [← eh27] at hR
            have hw := hw h27 eh27
            have hE : xb_ext h0 h27 := by rw [eh27]; exact hE
            refine lv_goto (tgt := 160) hx hb (xb_d D_Machine_passFree 52 rfl) rfl ?_
            exact am_Machine_passFree_L160 l hfl D A σ MC MS h0 Qr (w_Machine_passFree_L2 Qr n9) ih x0 x1 h27 hw p e s m args below meth c hC H locs ls k n hE (lv_sub hl [0, 1] rfl) hR hS (by omega) (by omega)
          · have hw := hw.2 hc26
            refine lv_aload_n hx hb (xb_d D_Machine_passFree 43 rfl) rfl (lv_at hl 0 rfl) ?_
            refine xb_call0 (D := D) (A := A) (σ := σ) (h := h) (d := 4) (maxL := 7) (rest := []) (av := [.ref x0]) (fun T hT X => by obtain ⟨cb9, ra9, rb9, rc9⟩ := xb_recv (ci := 7) hR rfl hk2 (by decide); exact xt_invV X hx hown (hts _ m_decb3334) (hts _ m_d830cba0) (hts _ m_0077867b) (xt_sigOf (hts _ m_d7f63aa1)) nm_Machine_endCall (by rw [hT]; exact ra9) rb9 rc9 (g := F0 m 140 ls [.ref x0]) rfl (argsL := []) (rest := []) rfl rfl (by rw [hb]; exact (xb_d D_Machine_passFree 44 rfl))) (ok_Machine_endCall l hfl D A σ x0 h _ hw) (hml.trans hl.1.symm) (by rw [hb]; exact (xb_d D_Machine_passFree 44 rfl)) (Nat.le_of_ble_eq_true rfl) (Nat.le_of_ble_eq_true rfl) (Nat.le_of_ble_eq_true rfl) (show k ≤ MC by omega) (show n ≤ MS by omega) (xt_w1 hB.1 m_d7f63aa1) (xt_cdOf hB.1 m_d7f63aa1) (hts _ m_73451f9b) hB hR hS hA (fun vv h28 H locs hq hEh28 hR hS => ?_)
            obtain ⟨rfl, hw⟩ := hq
            have hw := hw hEh28
            have hE := hE.tr hEh28
            refine W.eq (g2 := F0 m 143 ls []) rfl ?_
            refine lv_goto (tgt := 160) hx hb (xb_d D_Machine_passFree 45 rfl) rfl ?_
            exact am_Machine_passFree_L160 l hfl D A σ MC MS h0 Qr (w_Machine_passFree_L2 Qr n9) ih x0 x1 h28 hw p e s m args below meth c hC H locs ls k n hE (lv_sub hl [0, 1] rfl) hR hS (by omega) (by omega)
        have hw := hw.2
        have hw := hw hc7 hc9 hc10 hc11 hc12 hc17 hc18 hc19 hc20 hc21 hc22
        refine lv_tableOut (tgt := 159) hx hb (xb_d D_Machine_passFree 13 rfl) (by have a0 := xb_nl (1) 1 (by decide) hc7; have a1 := xb_nl (2) 2 (by decide) hc9; have a2 := xb_nl (3) 3 (by decide) hc10; have a3 := xb_nl (4) 4 (by decide) hc11; have a4 := xb_nl (5) 5 (by decide) hc12; have a5 := xb_nl (6) 6 (by decide) hc17; have a6 := xb_nl (7) 7 (by decide) hc18; have a7 := xb_nl (8) 8 (by decide) hc19; have a8 := xb_nl (9) 9 (by decide) hc20; have a9 := xb_nl (10) 10 (by decide) hc21; have a10 := xb_nl (11) 11 (by decide) hc22; omega) (by decide) ?_
        exact am_Machine_passFree_L159 l hfl D A σ MC MS h0 Qr (w_Machine_passFree_L2 Qr n9) ih h hw p e s m args below meth c hC H locs ls k n hE (lv_sub hl [] rfl) hR hS (by omega) (by omega)

set_option maxHeartbeats 4000000 in
set_option maxRecDepth 100000 in
theorem ok_Machine_passFree (l : Launch) (hfl : l.flags = pinnedFlags ++ [noTraceFlag]) (D : va_G) (A : Nat → Prop) (σ : Nat) (x0 : Nat) (h : xb_H) (Qr : xb_H → Prop) (hw : w_Machine_passFree x0 h Qr) : xb_Met l y_Machine_passFree [.code y_Machine_passFree b_Machine_passFree 2 none] (xb_rm 5 0 0) (xb_Pc D A σ h [.ref x0]) (xb_Qc D A h 0 0 (fun v h _ _ => v = none ∧ Qr h) (fun _ _ _ _ => False)) A := by
  refine xb_ofAm (cc := b_Machine_passFree) (by decide) (Nat.le_of_ble_eq_true rfl) ?_
  unfold w_Machine_passFree at hw
  show xb_am l D A σ 5 0 0 h (fun v h _ _ => v = none ∧ Qr h) (fun _ _ _ _ => False) y_Machine_passFree.cls y_Machine_passFree.name b_Machine_passFree 2 ([] : List ExceptionTableEntry) none 0 [(0, .ref x0)] [] h 0 0
  obtain ⟨MC, hMC⟩ : ∃ x, x = 0 := ⟨_, rfl⟩
  obtain ⟨MS, hMS⟩ : ∃ x, x = 0 := ⟨_, rfl⟩
  rw [show xb_am l D A σ 5 0 0 = xb_am l D A σ 5 MC MS by rw [hMC, hMS]]
  obtain ⟨h0, hh0⟩ : ∃ x, x = h := ⟨_, rfl⟩
  rw [show xb_am l D A σ 5 MC MS h = xb_am l D A σ 5 MC MS h0 by rw [hh0]]
  intro p e s m args below meth c hC H locs ls k n hE hl hR hS hk hn
  obtain ⟨hx, hb, hown, hlocks, htab, hml, hr, hB, hA, hnm⟩ := id hC
  have hts := hB.1.1.at args
  refine lv_iconst (v := 0) hx hb (xb_d D_Machine_passFree 0 rfl) (by decide) ?_
  refine lv_istore_n hx hb (xb_d D_Machine_passFree 1 rfl) rfl hl (by decide) rfl (fun ls hl => ?_)
  have hl : lv_has ls 2 [(1, .int 0), (0, .ref x0)] := hl
  obtain ⟨n8, hw⟩ := hw
  exact am_Machine_passFree_L2 l hfl D A σ MC MS h0 Qr n8 x0 0 h hw p e s m args below meth c hC H locs ls k n hE (lv_sub hl [1, 0] rfl) hR hS (by omega) (by omega)

