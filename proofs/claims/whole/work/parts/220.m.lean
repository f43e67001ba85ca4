theorem m_7a6a28c3 : (.fieldLink "StackHost$Machine" 56 "StackHost$Row" "size" "I" : Cond) ∈ xt_tbl := xt_in (xt_t1 (List.mem_of_getElem? (i := 152) (by decide +kernel))) (by decide +kernel)
theorem m_977202bc : (.methodLink "StackHost$Machine" 65 y_StackModule_parameterType : Cond) ∈ xt_tbl := xt_in (xt_t7 (List.mem_of_getElem? (i := 191) (by decide +kernel))) (by decide +kernel)
theorem m_2051d47a : (.methodLink "StackHost$Machine" 61 y_Machine_makeRoom : Cond) ∈ xt_tbl := xt_in (xt_t7 (List.mem_of_getElem? (i := 184) (by decide +kernel))) (by decide +kernel)
theorem m_6ef13cc2 : (.instanceMethod y_Machine_makeRoom : Cond) ∈ xt_tbl := xt_in (xt_t7 (List.mem_of_getElem? (i := 186) (by decide +kernel))) (by decide +kernel)
theorem m_5d2c6006 : (.selects "StackHost$Machine" y_Machine_makeRoom y_Machine_makeRoom : Cond) ∈ xt_tbl := xt_in (xt_v6 (q := (⟨"StackHost$Machine", "makeRoom", "(I)V"⟩, 18)) (List.mem_of_getElem? (i := 4) (by decide +kernel))) (by decide +kernel)
theorem m_bdd998e7 : (.code y_Machine_makeRoom b_Machine_makeRoom 2 none : Cond) ∈ xt_tbl := xt_in (xt_t7 (List.mem_of_getElem? (i := 187) (by decide +kernel))) (by decide +kernel)
theorem nm_Machine_makeRoom : xt_nm y_Machine_makeRoom 1 := ⟨by decide +kernel, by decide +kernel⟩
set_option maxRecDepth 100000 in
def T_Machine_takeArguments : List (Nat × Instr × Nat) := [(0, .aload_n 0, 1), (1, .aload_n 1, 1), (2, .getfield 56, 3), (5, .invokevirtual 61, 3), (8, .iconst 0, 1), (9, .istore 4, 2), (11, .iload 4, 2), (13, .aload_n 1, 1), (14, .getfield 56, 3), (17, .if_icmp .ge 60, 3), (20, .aload_n 2, 1), (21, .iload_n 3, 1), (22, .iload 4, 2), (24, .invokevirtual 65, 3), (27, .istore 5, 2), (29, .aload_n 0, 1), (30, .getfield 35, 3), (33, .iload 4, 2), (35, .iload 5, 2), (37, .bipush 127, 2), (39, .if_icmp .eq 10, 3), (42, .iload 5, 2), (44, .bipush 125, 2), (46, .if_icmp .ne 17, 3), (49, .aload_n 1, 1), (50, .getfield 71, 3), (53, .iload 4, 2), (55, .laload, 1), (56, .ldc2_w 74, 3), (59, .land, 1), (60, .goto 10, 3), (63, .aload_n 1, 1), (64, .getfield 71, 3), (67, .iload 4, 2), (69, .laload, 1), (70, .lastore, 1), (71, .iinc 4 1, 3), (74, .goto (-63), 3), (77, .aload_n 0, 1), (78, .aload_n 1, 1), (79, .getfield 56, 3), (82, .putfield 53, 3), (85, .return_, 1)]
theorem D_Machine_takeArguments : ∀ q ∈ T_Machine_takeArguments, decode b_Machine_takeArguments q.1 = .ok (q.2.1, q.2.2) := by decide +kernel

set_option maxHeartbeats 4000000 in
set_option maxRecDepth 100000 in
theorem am_Machine_takeArguments_L70 (l : Launch) (hfl : l.flags = pinnedFlags ++ [noTraceFlag]) (D : va_G) (A : Nat → Prop) (σ MC MS : Nat) (h0 : xb_H) (Qr : xb_H → Nat → Nat → Prop) (K11 : Nat → Nat → Nat → Int32 → Int32 → xb_H → Nat → Nat → Prop) (hK11 : ∀ (x0 : Nat) (x1 : Nat) (x2 : Nat) (x3 : Int32) (x4 : Int32) (h : xb_H) (bc : Nat) (bs : Nat), K11 x0 x1 x2 x3 x4 h bc bs → xb_am l D A σ 4 MC MS h0 (fun v h bc bs => v = none ∧ Qr h bc bs) (fun _ _ _ _ => False) y_Machine_takeArguments.cls y_Machine_takeArguments.name b_Machine_takeArguments 6 ([] : List ExceptionTableEntry) none 11 [(0, .ref x0), (1, .ref x1), (2, .ref x2), (3, .int x3), (4, .int x4)] [] h bc bs) (x0 : Nat) (x1 : Nat) (x2 : Nat) (x3 : Int32) (x4 : Int32) (y0 : Int64) (y1 : Int32) (y2 : Nat) (h : xb_H) (bc : Nat) (bs : Nat) (hw : w_Machine_takeArguments_L70 K11 Qr x0 x1 x2 x3 x4 y0 y1 y2 h bc bs) : xb_am l D A σ 4 MC MS h0 (fun v h bc bs => v = none ∧ Qr h bc bs) (fun _ _ _ _ => False) y_Machine_takeArguments.cls y_Machine_takeArguments.name b_Machine_takeArguments 6 ([] : List ExceptionTableEntry) none 70 [(0, .ref x0), (1, .ref x1), (2, .ref x2), (3, .int x3), (4, .int x4)] [.long y0, .int y1, .ref y2] h bc bs := by
  unfold w_Machine_takeArguments_L70 at hw
  intro p e s m args below meth c hC H locs ls k n hE hl hR hS hk hn
  obtain ⟨hx, hb, hown, hlocks, htab, hml, hr, hB, hA, hnm⟩ := id hC
  have hts := hB.1.1.at args
  obtain ⟨hk1, hw⟩ := hw
  obtain ⟨hi2, hw⟩ := hw
  refine xb_last hx hb hR hS hk1 hi2 (xb_d D_Machine_takeArguments 35 rfl) (fun H locs hR hS => ?_)
  obtain ⟨h3, eh3⟩ : ∃ x : xb_H, x = xb_L h y2 (Int32.toNatClampNeg y1) y0 := ⟨_, rfl⟩
  rw [← eh3] at hR
  have hw := hw h3 eh3
  have hE : xb_ext h0 h3 := by rw [eh3]; exact hE
  refine lv_iinc (v := (x4 + 1)) (k := 4) hx hb (xb_d D_Machine_takeArguments 36 rfl) hl rfl (by first | rfl | decide) (by decide) rfl (fun ls hl => ?_)
  have hl : lv_has ls 6 [(4, .int (x4 + 1)), (0, .ref x0), (1, .ref x1), (2, .ref x2), (3, .int x3)] := hl
  refine lv_goto (tgt := 11) hx hb (xb_d D_Machine_takeArguments 37 rfl) rfl ?_
  exact hK11 x0 x1 x2 x3 (x4 + 1) h3 bc bs hw p e s m args below meth c hC H locs ls k n hE (lv_sub hl [1, 2, 3, 4, 0] rfl) hR hS (by omega) (by omega)

set_option maxHeartbeats 4000000 in
set_option maxRecDepth 100000 in
theorem am_Machine_takeArguments_L49 (l : Launch) (hfl : l.flags = pinnedFlags ++ [noTraceFlag]) (D : va_G) (A : Nat → Prop) (σ MC MS : Nat) (h0 : xb_H) (Qr : xb_H → Nat → Nat → Prop) (K11 : Nat → Nat → Nat → Int32 → Int32 → xb_H → Nat → Nat → Prop) (hK11 : ∀ (x0 : Nat) (x1 : Nat) (x2 : Nat) (x3 : Int32) (x4 : Int32) (h : xb_H) (bc : Nat) (bs : Nat), K11 x0 x1 x2 x3 x4 h bc bs → xb_am l D A σ 4 MC MS h0 (fun v h bc bs => v = none ∧ Qr h bc bs) (fun _ _ _ _ => False) y_Machine_takeArguments.cls y_Machine_takeArguments.name b_Machine_takeArguments 6 ([] : List ExceptionTableEntry) none 11 [(0, .ref x0), (1, .ref x1), (2, .ref x2), (3, .int x3), (4, .int x4)] [] h bc bs) (x0 : Nat) (x1 : Nat) (x2 : Nat) (x3 : Int32) (x4 : Int32) (y0 : Int32) (y1 : Nat) (h : xb_H) (bc : Nat) (bs : Nat) (hw : w_Machine_takeArguments_L49 K11 Qr x0 x1 x2 x3 x4 y0 y1 h bc bs) : xb_am l D A σ 4 MC MS h0 (fun v h bc bs => v = none ∧ Qr h bc bs) (fun _ _ _ _ => False) y_Machine_takeArguments.cls y_Machine_takeArguments.name b_Machine_takeArguments 6 ([] : List ExceptionTableEntry) none 49 [(0, .ref x0), (1, .ref x1), (2, .ref x2), (3, .int x3), (4, .int x4)] [.int y0, .ref y1] h bc bs := by
  unfold w_Machine_takeArguments_L49 at hw
  intro p e s m args below meth c hC H locs ls k n hE hl hR hS hk hn
  obtain ⟨hx, hb, hown, hlocks, htab, hml, hr, hB, hA, hnm⟩ := id hC
  have hts := hB.1.1.at args
  refine lv_aload_n hx hb (xb_d D_Machine_takeArguments 24 rfl) rfl (lv_at hl 1 rfl) ?_
  obtain ⟨hk1, hw⟩ := hw
  refine xb_getP (C := R_Row) (T := F_Row) (N := 3) hx hb 1 0 hts fin_Row hown hR hk1 (by decide) rfl (by decide) rfl (hts _ m_04d8c73d) (fun _ h9 => h9) (xb_d D_Machine_takeArguments 25 rfl) ?_
  obtain ⟨b2, eb2, hw⟩ := hw
  refine xb_some eb2 ?_
  refine lv_iload hx hb (xb_d D_Machine_takeArguments 26 rfl) (lv_at hl 4 rfl) ?_
  obtain ⟨hk4, hw⟩ := hw
  obtain ⟨hi3, hw⟩ := hw
  refine xb_lald hx hb hR hk4 hi3 (xb_d D_Machine_takeArguments 27 rfl) ?_
  refine lv_ldc2 (v := 4294967295) hx hb hown (hts _ m_2b0551dd) (xb_d D_Machine_takeArguments 28 rfl) ?_
  refine lv_land hx hb (xb_d D_Machine_takeArguments 29 rfl) ?_
  refine lv_goto (tgt := 70) hx hb (xb_d D_Machine_takeArguments 30 rfl) rfl ?_
  exact am_Machine_takeArguments_L70 l hfl D A σ MC MS h0 Qr K11 hK11 x0 x1 x2 x3 x4 ((xb_l h b2 (Int32.toNatClampNeg x4)) &&& 4294967295) y0 y1 h bc bs hw p e s m args below meth c hC H locs ls k n hE (lv_sub hl [0, 1, 2, 3, 4] rfl) hR hS (by omega) (by omega)

set_option maxHeartbeats 4000000 in
set_option maxRecDepth 100000 in
theorem am_Machine_takeArguments_L11 (l : Launch) (hfl : l.flags = pinnedFlags ++ [noTraceFlag]) (D : va_G) (A : Nat → Prop) (σ MC MS : Nat) (h0 : xb_H) (Qr : xb_H → Nat → Nat → Prop) (n9 : Nat) : ∀ (x0 : Nat) (x1 : Nat) (x2 : Nat) (x3 : Int32) (x4 : Int32) (h : xb_H) (bc : Nat) (bs : Nat), w_Machine_takeArguments_L11 Qr n9 x0 x1 x2 x3 x4 h bc bs → xb_am l D A σ 4 MC MS h0 (fun v h bc bs => v = none ∧ Qr h bc bs) (fun _ _ _ _ => False) y_Machine_takeArguments.cls y_Machine_takeArguments.name b_Machine_takeArguments 6 ([] : List ExceptionTableEntry) none 11 [(0, .ref x0), (1, .ref x1), (2, .ref x2), (3, .int x3), (4, .int x4)] [] h bc bs := by
  induction n9 with
  | zero => intro x0 x1 x2 x3 x4 h bc bs hw; exact False.elim hw
  | succ n9 ih =>
    intro x0 x1 x2 x3 x4 h bc bs hw
    unfold w_Machine_takeArguments_L11 at hw
    intro p e s m args below meth c hC H locs ls k n hE hl hR hS hk hn
    obtain ⟨hx, hb, hown, hlocks, htab, hml, hr, hB, hA, hnm⟩ := id hC
    have hts := hB.1.1.at args
    refine lv_iload hx hb (xb_d D_Machine_takeArguments 6 rfl) (lv_at hl 4 rfl) ?_
    refine lv_aload_n hx hb (xb_d D_Machine_takeArguments 7 rfl) rfl (lv_at hl 1 rfl) ?_
    obtain ⟨hk1, hw⟩ := hw
    refine xb_getI (C := R_Row) (T := F_Row) (N := 3) hx hb 1 1 hts fin_Row hown hR hk1 (by decide) rfl (by decide) rfl (hts _ m_7a6a28c3) (fun _ h9 => h9) (xb_d D_Machine_takeArguments 8 rfl) ?_
    refine lv_icmp_ge (tgt := 77) hx hb (xb_d D_Machine_takeArguments 9 rfl) rfl (fun hc2 => ?_) (fun hc2 => ?_)
    · have hw := hw.1 hc2
      refine lv_aload_n hx hb (xb_d D_Machine_takeArguments 38 rfl) rfl (lv_at hl 0 rfl) ?_
      refine lv_aload_n hx hb (xb_d D_Machine_takeArguments 39 rfl) rfl (lv_at hl 1 rfl) ?_
      refine xb_getI (C := R_Row) (T := F_Row) (N := 3) hx hb 1 1 hts fin_Row hown hR hk1 (by decide) rfl (by decide) rfl (hts _ m_7a6a28c3) (fun _ h9 => h9) (xb_d D_Machine_takeArguments 40 rfl) ?_
      obtain ⟨hk3, hw⟩ := hw
      refine xb_putI (C := R_Machine) (T := F_Machine) (N := 18) (ty := .int) (x := (xb_i h x1 1)) hx hb 7 10 hts fin_Machine t_Machine t_Machine_ok n_Machine hown hR hS hk3 (by decide) rfl (by decide) rfl (hts _ m_79cf62f6) (fun _ h9 => h9) rfl (by decide +kernel) rfl rfl (xb_d D_Machine_takeArguments 41 rfl) (fun H locs hR hS => ?_)
      obtain ⟨h4, eh4⟩ : ∃ x : xb_H, x = xb_I h x0 10 (xb_i h x1 1) := ⟨_, rfl⟩
      rw [← eh4] at hR
      have hw := hw h4 eh4
      have hE : xb_ext h0 h4 := by rw [eh4]; exact hE
      exact xb_vret bc bs hx hb hr hlocks (show k + bc ≤ MC by omega) (show n + bs ≤ MS by omega) hE hR hS (xb_d D_Machine_takeArguments 42 rfl) hw
    · have hw := hw.2 hc2
      refine lv_aload_n hx hb (xb_d D_Machine_takeArguments 10 rfl) rfl (lv_at hl 2 rfl) ?_
      refine lv_iload_n hx hb (xb_d D_Machine_takeArguments 11 rfl) rfl (lv_at hl 3 rfl) ?_
      refine lv_iload hx hb (xb_d D_Machine_takeArguments 12 rfl) (lv_at hl 4 rfl) ?_
      obtain ⟨hk5, hw⟩ := hw
      refine xb_call0 (D := D) (A := A) (σ := σ) (h := h) (d := 3) (maxL := 3) (rest := []) (av := [.ref x2, .int x3, .int x4]) (fun T hT X => by obtain ⟨cb9, ra9, rb9, rc9⟩ := xb_recv (ci := 2) hR rfl hk5 (by decide); exact xt_invV X hx hown (hts _ m_977202bc) (hts _ m_8ffa2b15) (hts _ m_4526d57b) (xt_sigOf (hts _ m_4049389a)) nm_StackModule_parameterType (by rw [hT]; exact ra9) rb9 rc9 (g := F0 m 24 ls [.int x4, .int x3, .ref x2]) rfl (argsL := [.int x3, .int x4]) (rest := []) rfl rfl (by rw [hb]; exact (xb_d D_Machine_takeArguments 13 rfl))) (ok_StackModule_parameterType l hfl D A σ x2 x3 x4 h _ hw) (hml.trans hl.1.symm) (by rw [hb]; exact (xb_d D_Machine_takeArguments 13 rfl)) (Nat.le_of_ble_eq_true rfl) (Nat.le_of_ble_eq_true rfl) (Nat.le_of_ble_eq_true rfl) (show k ≤ MC by omega) (show n ≤ MS by omega) (xt_w1 hB.1 m_4049389a) (xt_cdOf hB.1 m_4049389a) (hts _ m_9c375545) hB hR hS hA (fun vv h6 H locs hq hEh6 hR hS => ?_)
      obtain ⟨r7, rfl, hw⟩ := hq
      have hw := hw hEh6
      have hE := hE.tr hEh6
      refine W.eq (g2 := F0 m 27 ls [.int r7]) rfl ?_
      refine lv_istore hx hb (xb_d D_Machine_takeArguments 14 rfl) hl (by decide) rfl (fun ls hl => ?_)
      have hl : lv_has ls 6 [(5, .int r7), (0, .ref x0), (1, .ref x1), (2, .ref x2), (3, .int x3), (4, .int x4)] := hl
      refine lv_aload_n hx hb (xb_d D_Machine_takeArguments 15 rfl) rfl (lv_at hl 1 rfl) ?_
      obtain ⟨hk8, hw⟩ := hw
      refine xb_getP (C := R_Machine) (T := F_Machine) (N := 18) hx hb 7 9 hts fin_Machine hown hR hk8 (by decide) rfl (by decide) rfl (hts _ m_6904195b) (fun _ h9 => h9) (xb_d D_Machine_takeArguments 16 rfl) ?_
      obtain ⟨b9, eb9, hw⟩ := hw
      refine xb_some eb9 ?_
      refine lv_iload hx hb (xb_d D_Machine_takeArguments 17 rfl) (lv_at hl 5 rfl) ?_
      refine lv_iload hx hb (xb_d D_Machine_takeArguments 18 rfl) (lv_at hl 0 rfl) ?_
      refine lv_bipush (v := 127) hx hb (xb_d D_Machine_takeArguments 19 rfl) (by decide) ?_
      refine lv_icmp_eq (tgt := 49) hx hb (xb_d D_Machine_takeArguments 20 rfl) rfl (fun hc10 => ?_) (fun hc10 => ?_)
      · have hw := hw.1 hc10
        exact am_Machine_takeArguments_L49 l hfl D A σ MC MS h0 Qr (w_Machine_takeArguments_L11 Qr n9) ih x0 x1 x2 x3 x4 x4 b9 h6 bc bs hw p e s m args below meth c hC H locs ls k n hE (lv_sub hl [1, 2, 3, 4, 5] rfl) hR hS (by omega) (by omega)
      · have hw := hw.2 hc10
        refine lv_iload hx hb (xb_d D_Machine_takeArguments 21 rfl) (lv_at hl 0 rfl) ?_
        refine lv_bipush (v := 125) hx hb (xb_d D_Machine_takeArguments 22 rfl) (by decide) ?_
        refine lv_icmp_ne (tgt := 63) hx hb (xb_d D_Machine_takeArguments 23 rfl) rfl (fun hc11 => ?_) (fun hc11 => ?_)
        · have hw := hw.1 hc11
          refine lv_aload_n hx hb (xb_d D_Machine_takeArguments 31 rfl) rfl (lv_at hl 2 rfl) ?_
          have hk1 : xb_k h6 x1 = 2 := hEh6.k hk1
          refine xb_getP (C := R_Row) (T := F_Row) (N := 3) hx hb 1 0 hts fin_Row hown hR hk1 (by decide) rfl (by decide) rfl (hts _ m_04d8c73d) (fun _ h9 => h9) (xb_d D_Machine_takeArguments 32 rfl) ?_
          obtain ⟨b12, eb12, hw⟩ := hw
          refine xb_some eb12 ?_
          refine lv_iload hx hb (xb_d D_Machine_takeArguments 33 rfl) (lv_at hl 5 rfl) ?_
          obtain ⟨hk14, hw⟩ := hw
          obtain ⟨hi13, hw⟩ := hw
          refine xb_lald hx hb hR hk14 hi13 (xb_d D_Machine_takeArguments 34 rfl) ?_
          exact am_Machine_takeArguments_L70 l hfl D A σ MC MS h0 Qr (w_Machine_takeArguments_L11 Qr n9) ih x0 x1 x2 x3 x4 (xb_l h6 b12 (Int32.toNatClampNeg x4)) x4 b9 h6 bc bs hw p e s m args below meth c hC H locs ls k n hE (lv_sub hl [1, 2, 3, 4, 5] rfl) hR hS (by omega) (by omega)
        · have hw := hw.2 hc11
          exact am_Machine_takeArguments_L49 l hfl D A σ MC MS h0 Qr (w_Machine_takeArguments_L11 Qr n9) ih x0 x1 x2 x3 x4 x4 b9 h6 bc bs hw p e s m args below meth c hC H locs ls k n hE (lv_sub hl [1, 2, 3, 4, 5] rfl) hR hS (by omega) (by omega)

set_option maxHeartbeats 4000000 in
set_option maxRecDepth 100000 in
theorem ok_Machine_takeArguments (l : Launch) (hfl : l.flags = pinnedFlags ++ [noTraceFlag]) (D : va_G) (A : Nat → Prop) (σ : Nat) (x0 : Nat) (x1 : Nat) (x2 : Nat) (x3 : Int32) (h : xb_H) (bc : Nat) (bs : Nat) (Qr : xb_H → Nat → Nat → Prop) (hw : w_Machine_takeArguments x0 x1 x2 x3 h bc bs Qr) : xb_Met l y_Machine_takeArguments [.code y_Machine_takeArguments b_Machine_takeArguments 6 none] (xb_rm 4 bc bs) (xb_Pc D A σ h [.ref x0, .ref x1, .ref x2, .int x3]) (xb_Qc D A h bc bs (fun v h bc bs => v = none ∧ Qr h bc bs) (fun _ _ _ _ => False)) A := by
  refine xb_ofAm (cc := b_Machine_takeArguments) (by decide) (Nat.le_of_ble_eq_true rfl) ?_
  unfold w_Machine_takeArguments at hw
  show xb_am l D A σ 4 bc bs h (fun v h bc bs => v = none ∧ Qr h bc bs) (fun _ _ _ _ => False) y_Machine_takeArguments.cls y_Machine_takeArguments.name b_Machine_takeArguments 6 ([] : List ExceptionTableEntry) none 0 [(0, .ref x0), (1, .ref x1), (2, .ref x2), (3, .int x3)] [] h bc bs
  obtain ⟨MC, hMC⟩ : ∃ x, x = bc := ⟨_, rfl⟩
  obtain ⟨MS, hMS⟩ : ∃ x, x = bs := ⟨_, rfl⟩
  rw [show xb_am l D A σ 4 bc bs = xb_am l D A σ 4 MC MS by rw [hMC, hMS]]
  obtain ⟨h0, hh0⟩ : ∃ x, x = h := ⟨_, rfl⟩
  rw [show xb_am l D A σ 4 MC MS h = xb_am l D A σ 4 MC MS h0 by rw [hh0]]
  intro p e s m args below meth c hC H locs ls k n hE hl hR hS hk hn
  obtain ⟨hx, hb, hown, hlocks, htab, hml, hr, hB, hA, hnm⟩ := id hC
  have hts := hB.1.1.at args
  refine lv_aload_n hx hb (xb_d D_Machine_takeArguments 0 rfl) rfl (lv_at hl 0 rfl) ?_
  refine lv_aload_n hx hb (xb_d D_Machine_takeArguments 1 rfl) rfl (lv_at hl 1 rfl) ?_
  obtain ⟨hk1, hw⟩ := hw
  refine xb_getI (C := R_Row) (T := F_Row) (N := 3) hx hb 1 1 hts fin_Row hown hR hk1 (by decide) rfl (by decide) rfl (hts _ m_7a6a28c3) (fun _ h9 => h9) (xb_d D_Machine_takeArguments 2 rfl) ?_
  obtain ⟨hk2, hw⟩ := hw
  refine xb_call (D := D) (A := A) (σ := σ) (h := h) (d := 3) (mc := bc) (ms := bs) (maxL := 2) (rest := []) (av := [.ref x0, .int (xb_i h x1 1)]) (fun T hT X => by obtain ⟨cb9, ra9, rb9, rc9⟩ := xb_recv (ci := 7) hR rfl hk2 (by decide); exact xt_invV X hx hown (hts _ m_2051d47a) (hts _ m_6ef13cc2) (hts _ m_5d2c6006) (xt_sigOf (hts _ m_bdd998e7)) nm_Machine_makeRoom (by rw [hT]; exact ra9) rb9 rc9 (g := F0 m 5 ls [.int (xb_i h x1 1), .ref x0]) rfl (argsL := [.int (xb_i h x1 1)]) (rest := []) rfl rfl (by rw [hb]; exact (xb_d D_Machine_takeArguments 3 rfl))) (ok_Machine_makeRoom l hfl D A σ x0 (xb_i h x1 1) h bc bs _ hw) (hml.trans hl.1.symm) (by rw [hb]; exact (xb_d D_Machine_takeArguments 3 rfl)) (Nat.le_of_ble_eq_true rfl) (Nat.le_of_ble_eq_true rfl) (Nat.le_of_ble_eq_true rfl) (show k + bc ≤ MC by omega) (show n + bs ≤ MS by omega) (xt_w1 hB.1 m_bdd998e7) (xt_cdOf hB.1 m_bdd998e7) (hts _ m_73451f9b) hB hR hS hA (fun vv h3 bc4 bs4 kk4 nn4 H locs hk4 hn4 hq hEh3 hR hS => ?_) (fun XX ax h3 bc4 bs4 kk4 nn4 H locs hk4 hn4 hq hEh3 hex hR hS => ?_)
  · obtain ⟨rfl, hw⟩ := hq
    have hw := hw hEh3
    have hE := hE.tr hEh3
    refine W.eq (g2 := F0 m 8 ls []) rfl ?_
    refine lv_iconst (v := 0) hx hb (xb_d D_Machine_takeArguments 4 rfl) (by decide) ?_
    refine lv_istore hx hb (xb_d D_Machine_takeArguments 5 rfl) hl (by decide) rfl (fun ls hl => ?_)
    have hl : lv_has ls 6 [(4, .int 0), (0, .ref x0), (1, .ref x1), (2, .ref x2), (3, .int x3)] := hl
    obtain ⟨n8, hw⟩ := hw
    exact am_Machine_takeArguments_L11 l hfl D A σ MC MS h0 Qr n8 x0 x1 x2 x3 0 h3 bc4 bs4 hw p e s m args below meth c hC H locs ls (k + kk4) (n + nn4) hE (lv_sub hl [1, 2, 3, 4, 0] rfl) hR hS (by omega) (by omega)
  · exact False.elim hq

theorem m_80902922 : (.methodLink "StackHost$Memory" 43 y_Memory_byteAt : Cond) ∈ xt_tbl := xt_in (xt_t8 (List.mem_of_getElem? (i := 233) (by decide +kernel))) (by decide +kernel)
set_option maxRecDepth 100000 in
def T_Memory_fetch : List (Nat × Instr × Nat) := [(0, .lconst 0, 1), (1, .lstore_n 3, 1), (2, .iload_n 2, 1), (3, .iconst 1, 1), (4, .isub, 1), (5, .istore 5, 2), (7, .iload 5, 2), (9, .ifCond .lt 24, 3), (12, .lload_n 3, 1), (13, .bipush 8, 2), (15, .lshl, 1), (16, .aload_n 0, 1), (17, .iload_n 1, 1), (18, .iload 5, 2), (20, .iadd, 1), (21, .invokevirtual 43, 3), (24, .i2l, 1), (25, .lor, 1), (26, .lstore_n 3, 1), (27, .iinc 5 (-1), 3), (30, .goto (-23), 3), (33, .lload_n 3, 1), (34, .lreturn, 1)]
theorem D_Memory_fetch : ∀ q ∈ T_Memory_fetch, decode b_Memory_fetch q.1 = .ok (q.2.1, q.2.2) := by decide +kernel

set_option maxHeartbeats 4000000 in
set_option maxRecDepth 100000 in
theorem am_Memory_fetch_L7 (l : Launch) (hfl : l.flags = pinnedFlags ++ [noTraceFlag]) (D : va_G) (A : Nat → Prop) (σ MC MS : Nat) (h0 : xb_H) (Qr : Int64 → xb_H → Prop) (n9 : Nat) : ∀ (x0 : Nat) (x1 : Int32) (x3 : Int64) (x5 : Int32) (h : xb_H), w_Memory_fetch_L7 Qr n9 x0 x1 x3 x5 h → xb_am l D A σ 4 MC MS h0 (fun v h _ _ => ∃ r, v = some (.long r) ∧ Qr r h) (fun _ _ _ _ => False) y_Memory_fetch.cls y_Memory_fetch.name b_Memory_fetch 6 ([] : List ExceptionTableEntry) (some .long) 7 [(0, .ref x0), (1, .int x1), (3, .long x3), (5, .int x5)] [] h 0 0 := by
  induction n9 with
  | zero => intro x0 x1 x3 x5 h hw; exact False.elim hw
  | succ n9 ih =>
    intro x0 x1 x3 x5 h hw
    unfold w_Memory_fetch_L7 at hw
    intro p e s m args below meth c hC H locs ls k n hE hl hR hS hk hn
    obtain ⟨hx, hb, hown, hlocks, htab, hml, hr, hB, hA, hnm⟩ := id hC
    have hts := hB.1.1.at args
    refine lv_iload hx hb (xb_d D_Memory_fetch 6 rfl) (lv_at hl 3 rfl) ?_
    refine lv_if_lt (tgt := 33) hx hb (xb_d D_Memory_fetch 7 rfl) rfl (fun hc1 => ?_) (fun hc1 => ?_)
    · have hw := hw.1 hc1
      refine lv_lload_n hx hb (xb_d D_Memory_fetch 21 rfl) rfl (lv_at hl 2 rfl) ?_
      exact xb_lret 0 0 hx hb hr hlocks (show k + 0 ≤ MC by omega) (show n + 0 ≤ MS by omega) hE hR hS (xb_d D_Memory_fetch 22 rfl) hw
    · have hw := hw.2 hc1
      refine lv_lload_n hx hb (xb_d D_Memory_fetch 8 rfl) rfl (lv_at hl 2 rfl) ?_
      refine lv_bipush (v := 8) hx hb (xb_d D_Memory_fetch 9 rfl) (by decide) ?_
      refine lv_lshl (v := (xb_lshl x3 8)) hx hb (xb_d D_Memory_fetch 10 rfl) rfl ?_
      refine lv_aload_n hx hb (xb_d D_Memory_fetch 11 rfl) rfl (lv_at hl 0 rfl) ?_
      refine lv_iload_n hx hb (xb_d D_Memory_fetch 12 rfl) rfl (lv_at hl 1 rfl) ?_
      refine lv_iload hx hb (xb_d D_Memory_fetch 13 rfl) (lv_at hl 3 rfl) ?_
      refine lv_iadd hx hb (xb_d D_Memory_fetch 14 rfl) ?_
      obtain ⟨hk2, hw⟩ := hw
      refine xb_call0 (D := D) (A := A) (σ := σ) (h := h) (d := 3) (maxL := 2) (rest := [.long (xb_lshl x3 8)]) (av := [.ref x0, .int (x1 + x5)]) (fun T hT X => by obtain ⟨cb9, ra9, rb9, rc9⟩ := xb_recv (ci := 12) hR rfl hk2 (by decide); exact xt_invV X hx hown (hts _ m_80902922) (hts _ m_48b23b1a) (hts _ m_389f80ed) (xt_sigOf (hts _ m_ce08cc3c)) nm_Memory_byteAt (by rw [hT]; exact ra9) rb9 rc9 (g := F0 m 21 ls [.int (x1 + x5), .ref x0, .long (xb_lshl x3 8)]) rfl (argsL := [.int (x1 + x5)]) (rest := [.long (xb_lshl x3 8)]) rfl rfl (by rw [hb]; exact (xb_d D_Memory_fetch 15 rfl))) (ok_Memory_byteAt l hfl D A σ x0 (x1 + x5) h _ hw) (hml.trans hl.1.symm) (by rw [hb]; exact (xb_d D_Memory_fetch 15 rfl)) (Nat.le_of_ble_eq_true rfl) (Nat.le_of_ble_eq_true rfl) (Nat.le_of_ble_eq_true rfl) (show k ≤ MC by omega) (show n ≤ MS by omega) (xt_w1 hB.1 m_ce08cc3c) (xt_cdOf hB.1 m_ce08cc3c) (hts _ m_e7289b5f) hB hR hS hA (fun vv h3 H locs hq hEh3 hR hS => ?_)
      obtain ⟨r4, rfl, hw⟩ := hq
      have hw := hw hEh3
      have hE := hE.tr hEh3
      refine W.eq (g2 := F0 m 24 ls [.int r4, .long (xb_lshl x3 8)]) rfl ?_
      refine lv_i2l hx hb (xb_d D_Memory_fetch 16 rfl) rfl ?_
      refine lv_lor hx hb (xb_d D_Memory_fetch 17 rfl) ?_
      obtain ⟨v5, ev5⟩ : ∃ x : Int64, x = ((xb_lshl x3 8) ||| (Int32.toInt64 r4)) := ⟨_, rfl⟩
      have hw := hw v5 ev5
      refine xt_numl (y := v5) ev5.symm ?_
      refine lv_lstore_n hx hb (xb_d D_Memory_fetch 18 rfl) rfl hl (by decide) rfl (fun ls hl => ?_)
      have hl : lv_has ls 6 [(3, .long v5), (0, .ref x0), (1, .int x1), (5, .int x5)] := hl
      refine lv_iinc (v := (x5 + (-1))) (k := 3) hx hb (xb_d D_Memory_fetch 19 rfl) hl rfl (by first | rfl | decide) (by decide) rfl (fun ls hl => ?_)
      have hl : lv_has ls 6 [(5, .int (x5 + (-1))), (3, .long v5), (0, .ref x0), (1, .int x1)] := hl
      refine lv_goto (tgt := 7) hx hb (xb_d D_Memory_fetch 20 rfl) rfl ?_
      exact ih x0 x1 v5 (x5 + (-1)) h3 hw p e s m args below meth c hC H locs ls k n hE (lv_sub hl [2, 3, 1, 0] rfl) hR hS (by omega) (by omega)

set_option maxHeartbeats 4000000 in
set_option maxRecDepth 100000 in
theorem ok_Memory_fetch (l : Launch) (hfl : l.flags = pinnedFlags ++ [noTraceFlag]) (D : va_G) (A : Nat → Prop) (σ : Nat) (x0 : Nat) (x1 : Int32) (x2 : Int32) (h : xb_H) (Qr : Int64 → xb_H → Prop) (hw : w_Memory_fetch x0 x1 x2 h Qr) : xb_Met l y_Memory_fetch [.code y_Memory_fetch b_Memory_fetch 6 (some .long)] (xb_rm 4 0 0) (xb_Pc D A σ h [.ref x0, .int x1, .int x2]) (xb_Qc D A h 0 0 (fun v h _ _ => ∃ r, v = some (.long r) ∧ Qr r h) (fun _ _ _ _ => False)) A := by
  refine xb_ofAm (cc := b_Memory_fetch) (by decide) (Nat.le_of_ble_eq_true rfl) ?_
  unfold w_Memory_fetch at hw
  show xb_am l D A σ 4 0 0 h (fun v h _ _ => ∃ r, v = some (.long r) ∧ Qr r h) (fun _ _ _ _ => False) y_Memory_fetch.cls y_Memory_fetch.name b_Memory_fetch 6 ([] : List ExceptionTableEntry) (some .long) 0 [(0, .ref x0), (1, .int x1), (2, .int x2)] [] h 0 0
  obtain ⟨MC, hMC⟩ : ∃ x, x = 0 := ⟨_, rfl⟩
  obtain ⟨MS, hMS⟩ : ∃ x, x = 0 := ⟨_, rfl⟩
  rw [show xb_am l D A σ 4 0 0 = xb_am l D A σ 4 MC MS by rw [hMC, hMS]]
  obtain ⟨h0, hh0⟩ : ∃ x, x = h := ⟨_, rfl⟩
  rw [show xb_am l D A σ 4 MC MS h = xb_am l D A σ 4 MC MS h0 by rw [hh0]]
  intro p e s m args below meth c hC H locs ls k n hE hl hR hS hk hn
  obtain ⟨hx, hb, hown, hlocks, htab, hml, hr, hB, hA, hnm⟩ := id hC
  have hts := hB.1.1.at args
  refine lv_lconst (v := 0) hx hb (xb_d D_Memory_fetch 0 rfl) (by decide) ?_
  refine lv_lstore_n hx hb (xb_d D_Memory_fetch 1 rfl) rfl hl (by decide) rfl (fun ls hl => ?_)
  have hl : lv_has ls 6 [(3, .long 0), (0, .ref x0), (1, .int x1), (2, .int x2)] := hl
  refine lv_iload_n hx hb (xb_d D_Memory_fetch 2 rfl) rfl (lv_at hl 3 rfl) ?_
  refine lv_iconst (v := 1) hx hb (xb_d D_Memory_fetch 3 rfl) (by decide) ?_
  refine lv_isub hx hb (xb_d D_Memory_fetch 4 rfl) ?_
  obtain ⟨v1, ev1⟩ : ∃ x : Int32, x = (x2 - 1) := ⟨_, rfl⟩
  have hw := hw v1 ev1
  refine xt_numi (y := v1) ev1.symm ?_
  refine lv_istore hx hb (xb_d D_Memory_fetch 5 rfl) hl (by decide) rfl (fun ls hl => ?_)
  have hl : lv_has ls 6 [(5, .int v1), (3, .long 0), (0, .ref x0), (1, .int x1), (2, .int x2)] := hl
  obtain ⟨n8, hw⟩ := hw
  exact am_Memory_fetch_L7 l hfl D A σ MC MS h0 Qr n8 x0 x1 0 v1 h hw p e s m args below meth c hC H locs ls k n hE (lv_sub hl [2, 3, 1, 0] rfl) hR hS (by omega) (by omega)

theorem m_e5023162 : (.methodLink "StackHost$Memory" 46 y_Memory_setByte : Cond) ∈ xt_tbl := xt_in (xt_t8 (List.mem_of_getElem? (i := 228) (by decide +kernel))) (by decide +kernel)
set_option maxRecDepth 100000 in
def T_Memory_store : List (Nat × Instr × Nat) := [(0, .iconst 0, 1), (1, .istore 5, 2), (3, .iload 5, 2), (5, .iload_n 2, 1), (6, .if_icmp .ge 25, 3), (9, .aload_n 0, 1), (10, .iload_n 1, 1), (11, .iload 5, 2), (13, .iadd, 1), (14, .lload_n 3, 1), (15, .bipush 8, 2), (17, .iload 5, 2), (19, .imul, 1), (20, .lushr, 1), (21, .l2i, 1), (22, .invokevirtual 46, 3), (25, .iinc 5 1, 3), (28, .goto (-25), 3), (31, .return_, 1)]
theorem D_Memory_store : ∀ q ∈ T_Memory_store, decode b_Memory_store q.1 = .ok (q.2.1, q.2.2) := by decide +kernel

set_option maxHeartbeats 4000000 in
set_option maxRecDepth 100000 in
theorem am_Memory_store_L3 (l : Launch) (hfl : l.flags = pinnedFlags ++ [noTraceFlag]) (D : va_G) (A : Nat → Prop) (σ MC MS : Nat) (h0 : xb_H) (Qr : xb_H → Prop) (n9 : Nat) : ∀ (x0 : Nat) (x1 : Int32) (x2 : Int32) (x3 : Int64) (x5 : Int32) (h : xb_H), w_Memory_store_L3 Qr n9 x0 x1 x2 x3 x5 h → xb_am l D A σ 4 MC MS h0 (fun v h _ _ => v = none ∧ Qr h) (fun _ _ _ _ => False) y_Memory_store.cls y_Memory_store.name b_Memory_store 6 ([] : List ExceptionTableEntry) none 3 [(0, .ref x0), (1, .int x1), (2, .int x2), (3, .long x3), (5, .int x5)] [] h 0 0 := by
  induction n9 with
  | zero => intro x0 x1 x2 x3 x5 h hw; exact False.elim hw
  | succ n9 ih =>
    intro x0 x1 x2 x3 x5 h hw
    unfold w_Memory_store_L3 at hw
    intro p e s m args below meth c hC H locs ls k n hE hl hR hS hk hn
    obtain ⟨hx, hb, hown, hlocks, htab, hml, hr, hB, hA, hnm⟩ := id hC
    have hts := hB.1.1.at args
    refine lv_iload hx hb (xb_d D_Memory_store 2 rfl) (lv_at hl 4 rfl) ?_
    refine lv_iload_n hx hb (xb_d D_Memory_store 3 rfl) rfl (lv_at hl 2 rfl) ?_
    refine lv_icmp_ge (tgt := 31) hx hb (xb_d D_Memory_store 4 rfl) rfl (fun hc1 => ?_) (fun hc1 => ?_)
    · have hw := hw.1 hc1
      exact xb_vret 0 0 hx hb hr hlocks (show k + 0 ≤ MC by omega) (show n + 0 ≤ MS by omega) hE hR hS (xb_d D_Memory_store 18 rfl) hw
    · have hw := hw.2 hc1
      refine lv_aload_n hx hb (xb_d D_Memory_store 5 rfl) rfl (lv_at hl 0 rfl) ?_
      refine lv_iload_n hx hb (xb_d D_Memory_store 6 rfl) rfl (lv_at hl 1 rfl) ?_
      refine lv_iload hx hb (xb_d D_Memory_store 7 rfl) (lv_at hl 4 rfl) ?_
      refine lv_iadd hx hb (xb_d D_Memory_store 8 rfl) ?_
      refine lv_lload_n hx hb (xb_d D_Memory_store 9 rfl) rfl (lv_at hl 3 rfl) ?_
      refine lv_bipush (v := 8) hx hb (xb_d D_Memory_store 10 rfl) (by decide) ?_
      refine lv_iload hx hb (xb_d D_Memory_store 11 rfl) (lv_at hl 4 rfl) ?_
      refine lv_imul hx hb (xb_d D_Memory_store 12 rfl) ?_
      refine lv_lushr (v := (xb_lushr x3 (8 * x5))) hx hb (xb_d D_Memory_store 13 rfl) rfl ?_
      refine lv_l2i hx hb (xb_d D_Memory_store 14 rfl) rfl ?_
      obtain ⟨hk2, hw⟩ := hw
      refine xb_call0 (D := D) (A := A) (σ := σ) (h := h) (d := 3) (maxL := 5) (rest := []) (av := [.ref x0, .int (x1 + x5), .int (Int64.toInt32 (xb_lushr x3 (8 * x5)))]) (fun T hT X => by obtain ⟨cb9, ra9, rb9, rc9⟩ := xb_recv (ci := 12) hR rfl hk2 (by decide); exact xt_invV X hx hown (hts _ m_e5023162) (hts _ m_d015b981) (hts _ m_2cc55bcf) (xt_sigOf (hts _ m_2b9cfcee)) nm_Memory_setByte (by rw [hT]; exact ra9) rb9 rc9 (g := F0 m 22 ls [.int (Int64.toInt32 (xb_lushr x3 (8 * x5))), .int (x1 + x5), .ref x0]) rfl (argsL := [.int (x1 + x5), .int (Int64.toInt32 (xb_lushr x3 (8 * x5)))]) (rest := []) rfl rfl (by rw [hb]; exact (xb_d D_Memory_store 15 rfl))) (ok_Memory_setByte l hfl D A σ x0 (x1 + x5) (Int64.toInt32 (xb_lushr x3 (8 * x5))) h _ hw) (hml.trans hl.1.symm) (by rw [hb]; exact (xb_d D_Memory_store 15 rfl)) (Nat.le_of_ble_eq_true rfl) (Nat.le_of_ble_eq_true rfl) (Nat.le_of_ble_eq_true rfl) (show k ≤ MC by omega) (show n ≤ MS by omega) (xt_w1 hB.1 m_2b9cfcee) (xt_cdOf hB.1 m_2b9cfcee) (hts _ m_e7289b5f) hB hR hS hA (fun vv h3 H locs hq hEh3 hR hS => ?_)
      obtain ⟨rfl, hw⟩ := hq
      have hw := hw hEh3
      have hE := hE.tr hEh3
      refine W.eq (g2 := F0 m 25 ls []) rfl ?_
      refine lv_iinc (v := (x5 + 1)) (k := 4) hx hb (xb_d D_Memory_store 16 rfl) hl rfl (by first | rfl | decide) (by decide) rfl (fun ls hl => ?_)
      have hl : lv_has ls 6 [(5, .int (x5 + 1)), (0, .ref x0), (1, .int x1), (2, .int x2), (3, .long x3)] := hl
      refine lv_goto (tgt := 3) hx hb (xb_d D_Memory_store 17 rfl) rfl ?_
      exact ih x0 x1 x2 x3 (x5 + 1) h3 hw p e s m args below meth c hC H locs ls k n hE (lv_sub hl [1, 2, 3, 4, 0] rfl) hR hS (by omega) (by omega)

set_option maxHeartbeats 4000000 in
set_option maxRecDepth 100000 in
theorem ok_Memory_store (l : Launch) (hfl : l.flags = pinnedFlags ++ [noTraceFlag]) (D : va_G) (A : Nat → Prop) (σ : Nat) (x0 : Nat) (x1 : Int32) (x2 : Int32) (x3 : Int64) (h : xb_H) (Qr : xb_H → Prop) (hw : w_Memory_store x0 x1 x2 x3 h Qr) : xb_Met l y_Memory_store [.code y_Memory_store b_Memory_store 6 none] (xb_rm 4 0 0) (xb_Pc D A σ h [.ref x0, .int x1, .int x2, .long x3]) (xb_Qc D A h 0 0 (fun v h _ _ => v = none ∧ Qr h) (fun _ _ _ _ => False)) A := by
  refine xb_ofAm (cc := b_Memory_store) (by decide) (Nat.le_of_ble_eq_true rfl) ?_
  unfold w_Memory_store at hw
  show xb_am l D A σ 4 0 0 h (fun v h _ _ => v = none ∧ Qr h) (fun _ _ _ _ => False) y_Memory_store.cls y_Memory_store.name b_Memory_store 6 ([] : List ExceptionTableEntry) none 0 [(0, .ref x0), (1, .int x1), (2, .int x2), (3, .long x3)] [] h 0 0
  obtain ⟨MC, hMC⟩ : ∃ x, x = 0 := ⟨_, rfl⟩
  obtain ⟨MS, hMS⟩ : ∃ x, x = 0 := ⟨_, rfl⟩
  rw [show xb_am l D A σ 4 0 0 = xb_am l D A σ 4 MC MS by rw [hMC, hMS]]
  obtain ⟨h0, hh0⟩ : ∃ x, x = h := ⟨_, rfl⟩
  rw [show xb_am l D A σ 4 MC MS h = xb_am l D A σ 4 MC MS h0 by rw [hh0]]
  intro p e s m args below meth c hC H locs ls k n hE hl hR hS hk hn
  obtain ⟨hx, hb, hown, hlocks, htab, hml, hr, hB, hA, hnm⟩ := id hC
  have hts := hB.1.1.at args
  refine lv_iconst (v := 0) hx hb (xb_d D_Memory_store 0 rfl) (by decide) ?_
  refine lv_istore hx hb (xb_d D_Memory_store 1 rfl) hl (by decide) rfl (fun ls hl => ?_)
  have hl : lv_has ls 6 [(5, .int 0), (0, .ref x0), (1, .int x1), (2, .int x2), (3, .long x3)] := hl
  obtain ⟨n8, hw⟩ := hw
  exact am_Memory_store_L3 l hfl D A σ MC MS h0 Qr n8 x0 x1 x2 x3 0 h hw p e s m args below meth c hC H locs ls k n hE (lv_sub hl [1, 2, 3, 4, 0] rfl) hR hS (by omega) (by omega)

theorem m_16104bdc : (.methodLink "StackHost$Reader" 122 y_Reader_nextByte : Cond) ∈ xt_tbl := xt_in (xt_t3 (List.mem_of_getElem? (i := 220) (by decide +kernel))) (by decide +kernel)
theorem m_5816e59e : (.instanceMethod y_Reader_nextByte : Cond) ∈ xt_tbl := xt_in (xt_t3 (List.mem_of_getElem? (i := 222) (by decide +kernel))) (by decide +kernel)
theorem m_447444c2 : (.selects "StackHost$Reader" y_Reader_nextByte y_Reader_nextByte : Cond) ∈ xt_tbl := xt_in (xt_v1 (q := (⟨"StackHost$Reader", "nextByte", "()I"⟩, 6)) (List.mem_of_getElem? (i := 12) (by decide +kernel))) (by decide +kernel)
theorem m_a7435405 : (.code y_Reader_nextByte b_Reader_nextByte 1 (some .int) : Cond) ∈ xt_tbl := xt_in (xt_t3 (List.mem_of_getElem? (i := 223) (by decide +kernel))) (by decide +kernel)
theorem nm_Reader_nextByte : xt_nm y_Reader_nextByte 0 := ⟨by decide +kernel, by decide +kernel⟩
set_option maxRecDepth 100000 in
def T_Reader_byteUpTo : List (Nat × Instr × Nat) := [(0, .aload_n 0, 1), (1, .invokevirtual 122, 3), (4, .istore_n 2, 1), (5, .iload_n 2, 1), (6, .iload_n 1, 1), (7, .if_icmp .le 17, 3), (10, .aload_n 0, 1), (11, .getfield 15, 3), (14, .iconst 5, 1), (15, .aload_n 0, 1), (16, .getfield 41, 3), (19, .iconst 1, 1), (20, .isub, 1), (21, .invokevirtual 37, 3), (24, .iload_n 2, 1), (25, .ireturn, 1)]
theorem D_Reader_byteUpTo : ∀ q ∈ T_Reader_byteUpTo, decode b_Reader_byteUpTo q.1 = .ok (q.2.1, q.2.2) := by decide +kernel

set_option maxHeartbeats 4000000 in
set_option maxRecDepth 100000 in
theorem am_Reader_byteUpTo_L24 (l : Launch) (hfl : l.flags = pinnedFlags ++ [noTraceFlag]) (D : va_G) (A : Nat → Prop) (σ MC MS : Nat) (h0 : xb_H) (Qr : Int32 → xb_H → Nat → Nat → Prop) (Qt : String → xb_H → Nat → Nat → Prop) (x2 : Int32) (h : xb_H) (bc : Nat) (bs : Nat) (hw : w_Reader_byteUpTo_L24 Qr Qt x2 h bc bs) : xb_am l D A σ 4 MC MS h0 (fun v h bc bs => ∃ r, v = some (.int r) ∧ Qr r h bc bs) Qt y_Reader_byteUpTo.cls y_Reader_byteUpTo.name b_Reader_byteUpTo 3 ([] : List ExceptionTableEntry) (some .int) 24 [(2, .int x2)] [] h bc bs := by
  unfold w_Reader_byteUpTo_L24 at hw
  intro p e s m args below meth c hC H locs ls k n hE hl hR hS hk hn
  obtain ⟨hx, hb, hown, hlocks, htab, hml, hr, hB, hA, hnm⟩ := id hC
  have hts := hB.1.1.at args
  refine lv_iload_n hx hb (xb_d D_Reader_byteUpTo 14 rfl) rfl (lv_at hl 0 rfl) ?_
  exact xb_iret bc bs hx hb hr hlocks (show k + bc ≤ MC by omega) (show n + bs ≤ MS by omega) hE hR hS (xb_d D_Reader_byteUpTo 15 rfl) hw

set_option maxHeartbeats 4000000 in
set_option maxRecDepth 100000 in
theorem ok_Reader_byteUpTo (l : Launch) (hfl : l.flags = pinnedFlags ++ [noTraceFlag]) (D : va_G) (A : Nat → Prop) (σ : Nat) (x0 : Nat) (x1 : Int32) (h : xb_H) (bc : Nat) (bs : Nat) (Qr : Int32 → xb_H → Nat → Nat → Prop) (Qt : String → xb_H → Nat → Nat → Prop) (hw : w_Reader_byteUpTo x0 x1 h bc bs Qr Qt) : xb_Met l y_Reader_byteUpTo [.code y_Reader_byteUpTo b_Reader_byteUpTo 3 (some .int)] (xb_rm 4 bc bs) (xb_Pc D A σ h [.ref x0, .int x1]) (xb_Qc D A h bc bs (fun v h bc bs => ∃ r, v = some (.int r) ∧ Qr r h bc bs) Qt) A := by
  refine xb_ofAm (cc := b_Reader_byteUpTo) (by decide) (Nat.le_of_ble_eq_true rfl) ?_
  unfold w_Reader_byteUpTo at hw
  show xb_am l D A σ 4 bc bs h (fun v h bc bs => ∃ r, v = some (.int r) ∧ Qr r h bc bs) Qt y_Reader_byteUpTo.cls y_Reader_byteUpTo.name b_Reader_byteUpTo 3 ([] : List ExceptionTableEntry) (some .int) 0 [(0, .ref x0), (1, .int x1)] [] h bc bs
  obtain ⟨MC, hMC⟩ : ∃ x, x = bc := ⟨_, rfl⟩
  obtain ⟨MS, hMS⟩ : ∃ x, x = bs := ⟨_, rfl⟩
  rw [show xb_am l D A σ 4 bc bs = xb_am l D A σ 4 MC MS by rw [hMC, hMS]]
  obtain ⟨h0, hh0⟩ : ∃ x, x = h := ⟨_, rfl⟩
  rw [show xb_am l D A σ 4 MC MS h = xb_am l D A σ 4 MC MS h0 by rw [hh0]]
  intro p e s m args below meth c hC H locs ls k n hE hl hR hS hk hn
  obtain ⟨hx, hb, hown, hlocks, htab, hml, hr, hB, hA, hnm⟩ := id hC
  have hts := hB.1.1.at args
  refine lv_aload_n hx hb (xb_d D_Reader_byteUpTo 0 rfl) rfl (lv_at hl 0 rfl) ?_
  obtain ⟨hk1, hw⟩ := hw
  refine xb_call (D := D) (A := A) (σ := σ) (h := h) (d := 3) (mc := bc) (ms := bs) (maxL := 1) (rest := []) (av := [.ref x0]) (fun T hT X => by obtain ⟨cb9, ra9, rb9, rc9⟩ := xb_recv (ci := 3) hR rfl hk1 (by decide); exact xt_invV X hx hown (hts _ m_16104bdc) (hts _ m_5816e59e) (hts _ m_447444c2) (xt_sigOf (hts _ m_a7435405)) nm_Reader_nextByte (by rw [hT]; exact ra9) rb9 rc9 (g := F0 m 1 ls [.ref x0]) rfl (argsL := []) (rest := []) rfl rfl (by rw [hb]; exact (xb_d D_Reader_byteUpTo 1 rfl))) (ok_Reader_nextByte l hfl D A σ x0 h bc bs _ _ hw) (hml.trans hl.1.symm) (by rw [hb]; exact (xb_d D_Reader_byteUpTo 1 rfl)) (Nat.le_of_ble_eq_true rfl) (Nat.le_of_ble_eq_true rfl) (Nat.le_of_ble_eq_true rfl) (show k + bc ≤ MC by omega) (show n + bs ≤ MS by omega) (xt_w1 hB.1 m_a7435405) (xt_cdOf hB.1 m_a7435405) (hts _ m_938fcec4) hB hR hS hA (fun vv h2 bc3 bs3 kk3 nn3 H locs hk3 hn3 hq hEh2 hR hS => ?_) (fun XX ax h2 bc3 bs3 kk3 nn3 H locs hk3 hn3 hq hEh2 hex hR hS => ?_)
  · obtain ⟨r3, rfl, hw⟩ := hq
    have hw := hw hEh2
    have hE := hE.tr hEh2
    refine W.eq (g2 := F0 m 4 ls [.int r3]) rfl ?_
    refine lv_istore_n hx hb (xb_d D_Reader_byteUpTo 2 rfl) rfl hl (by decide) rfl (fun ls hl => ?_)
    have hl : lv_has ls 3 [(2, .int r3), (0, .ref x0), (1, .int x1)] := hl
    refine lv_iload_n hx hb (xb_d D_Reader_byteUpTo 3 rfl) rfl (lv_at hl 0 rfl) ?_
    refine lv_iload_n hx hb (xb_d D_Reader_byteUpTo 4 rfl) rfl (lv_at hl 2 rfl) ?_
    refine lv_icmp_le (tgt := 24) hx hb (xb_d D_Reader_byteUpTo 5 rfl) rfl (fun hc4 => ?_) (fun hc4 => ?_)
    · have hw := hw.1 hc4
      exact am_Reader_byteUpTo_L24 l hfl D A σ MC MS h0 Qr Qt r3 h2 bc3 bs3 hw p e s m args below meth c hC H locs ls (k + kk3) (n + nn3) hE (lv_sub hl [0] rfl) hR hS (by omega) (by omega)
    · have hw := hw.2 hc4
      refine lv_aload_n hx hb (xb_d D_Reader_byteUpTo 6 rfl) rfl (lv_at hl 1 rfl) ?_
      have hk1 : xb_k h2 x0 = 4 := hEh2.k hk1
      refine xb_getP (C := R_Reader) (T := F_Reader) (N := 6) hx hb 3 0 hts fin_Reader hown hR hk1 (by decide) rfl (by decide) rfl (hts _ m_76d8349c) (fun _ h9 => h9) (xb_d D_Reader_byteUpTo 7 rfl) ?_
      obtain ⟨b5, eb5, hw⟩ := hw
      refine xb_some eb5 ?_
      refine lv_iconst (v := 5) hx hb (xb_d D_Reader_byteUpTo 8 rfl) (by decide) ?_
      refine lv_aload_n hx hb (xb_d D_Reader_byteUpTo 9 rfl) rfl (lv_at hl 1 rfl) ?_
      refine xb_getI (C := R_Reader) (T := F_Reader) (N := 6) hx hb 3 3 hts fin_Reader hown hR hk1 (by decide) rfl (by decide) rfl (hts _ m_a9b84ac2) (fun _ h9 => h9) (xb_d D_Reader_byteUpTo 10 rfl) ?_
      refine lv_iconst (v := 1) hx hb (xb_d D_Reader_byteUpTo 11 rfl) (by decide) ?_
      refine lv_isub hx hb (xb_d D_Reader_byteUpTo 12 rfl) ?_
      obtain ⟨hk6, hw⟩ := hw
      refine xb_call (D := D) (A := A) (σ := σ) (h := h2) (d := 2) (mc := bc3) (ms := bs3) (maxL := 3) (rest := []) (av := [.ref b5, .int 5, .int ((xb_i h2 x0 3) - 1)]) (fun T hT X => by obtain ⟨cb9, ra9, rb9, rc9⟩ := xb_recv (ci := 2) hR rfl hk6 (by decide); exact xt_invV X hx hown (hts _ m_6fcde429) (hts _ m_865d5b07) (hts _ m_113f8f75) (xt_sigOf (hts _ m_73e65e5f)) nm_StackModule_fail (by rw [hT]; exact ra9) rb9 rc9 (g := F0 m 21 ls [.int ((xb_i h2 x0 3) - 1), .int 5, .ref b5]) rfl (argsL := [.int 5, .int ((xb_i h2 x0 3) - 1)]) (rest := []) rfl rfl (by rw [hb]; exact (xb_d D_Reader_byteUpTo 13 rfl))) (ok_StackModule_fail l hfl D A σ b5 5 ((xb_i h2 x0 3) - 1) h2 bc3 bs3 _ _ hw) (hml.trans hl.1.symm) (by rw [hb]; exact (xb_d D_Reader_byteUpTo 13 rfl)) (Nat.le_of_ble_eq_true rfl) (Nat.le_of_ble_eq_true rfl) (Nat.le_of_ble_eq_true rfl) (show (k + kk3) + bc3 ≤ MC by omega) (show (n + nn3) + bs3 ≤ MS by omega) (xt_w1 hB.1 m_73e65e5f) (xt_cdOf hB.1 m_73e65e5f) (hts _ m_9c375545) hB hR hS hA (fun vv h7 bc8 bs8 kk8 nn8 H locs hk8 hn8 hq hEh7 hR hS => ?_) (fun XX ax h7 bc8 bs8 kk8 nn8 H locs hk8 hn8 hq hEh7 hex hR hS => ?_)
      · obtain ⟨rfl, hw⟩ := hq
        have hw := hw hEh7
        have hE := hE.tr hEh7
        refine W.eq (g2 := F0 m 24 ls []) rfl ?_
        exact am_Reader_byteUpTo_L24 l hfl D A σ MC MS h0 Qr Qt r3 h7 bc8 bs8 hw p e s m args below meth c hC H locs ls ((k + kk3) + kk8) ((n + nn3) + nn8) hE (lv_sub hl [0] rfl) hR hS (by omega) (by omega)
      · exact xb_pass hlocks (fun x hx9 => by rw [htab] at hx9; first | (cases hx9; done) | (simp [tableOf] at hx9; subst hx9; decide) | (simp [tableOf] at hx9; rcases hx9 with rfl | rfl <;> decide) | (simp [tableOf] at hx9; rcases hx9 with rfl | rfl | rfl <;> decide)) (show ((k + kk3) + kk8) + bc8 ≤ MC by omega) (show ((n + nn3) + nn8) + bs8 ≤ MS by omega) (hE.tr hEh7) hR hS hex hq
  · exact xb_pass hlocks (fun x hx9 => by rw [htab] at hx9; first | (cases hx9; done) | (simp [tableOf] at hx9; subst hx9; decide) | (simp [tableOf] at hx9; rcases hx9 with rfl | rfl <;> decide) | (simp [tableOf] at hx9; rcases hx9 with rfl | rfl | rfl <;> decide)) (show (k + kk3) + bc3 ≤ MC by omega) (show (n + nn3) + bs3 ≤ MS by omega) (hE.tr hEh2) hR hS hex hq

set_option maxRecDepth 100000 in
def T_Reader_readBlockType : List (Nat × Instr × Nat) := [(0, .aload_n 0, 1), (1, .invokevirtual 122, 3), (4, .istore_n 1, 1), (5, .iload_n 1, 1), (6, .bipush 64, 2), (8, .if_icmp .eq 29, 3), (11, .iload_n 1, 1), (12, .bipush 124, 2), (14, .if_icmp .lt 9, 3), (17, .iload_n 1, 1), (18, .bipush 127, 2), (20, .if_icmp .le 17, 3), (23, .aload_n 0, 1), (24, .getfield 15, 3), (27, .iconst 5, 1), (28, .aload_n 0, 1), (29, .getfield 41, 3), (32, .iconst 1, 1), (33, .isub, 1), (34, .invokevirtual 37, 3), (37, .return_, 1)]
theorem D_Reader_readBlockType : ∀ q ∈ T_Reader_readBlockType, decode b_Reader_readBlockType q.1 = .ok (q.2.1, q.2.2) := by decide +kernel

set_option maxHeartbeats 4000000 in
set_option maxRecDepth 100000 in
theorem am_Reader_readBlockType_L37 (l : Launch) (hfl : l.flags = pinnedFlags ++ [noTraceFlag]) (D : va_G) (A : Nat → Prop) (σ MC MS : Nat) (h0 : xb_H) (Qr : xb_H → Nat → Nat → Prop) (Qt : String → xb_H → Nat → Nat → Prop) (h : xb_H) (bc : Nat) (bs : Nat) (hw : w_Reader_readBlockType_L37 Qr Qt h bc bs) : xb_am l D A σ 4 MC MS h0 (fun v h bc bs => v = none ∧ Qr h bc bs) Qt y_Reader_readBlockType.cls y_Reader_readBlockType.name b_Reader_readBlockType 2 ([] : List ExceptionTableEntry) none 37 [] [] h bc bs := by
  unfold w_Reader_readBlockType_L37 at hw
  intro p e s m args below meth c hC H locs ls k n hE hl hR hS hk hn
  obtain ⟨hx, hb, hown, hlocks, htab, hml, hr, hB, hA, hnm⟩ := id hC
  have hts := hB.1.1.at args
  exact xb_vret bc bs hx hb hr hlocks (show k + bc ≤ MC by omega) (show n + bs ≤ MS by omega) hE hR hS (xb_d D_Reader_readBlockType 20 rfl) hw

set_option maxHeartbeats 4000000 in
set_option maxRecDepth 100000 in
theorem am_Reader_readBlockType_L23 (l : Launch) (hfl : l.flags = pinnedFlags ++ [noTraceFlag]) (D : va_G) (A : Nat → Prop) (σ MC MS : Nat) (h0 : xb_H) (Qr : xb_H → Nat → Nat → Prop) (Qt : String → xb_H → Nat → Nat → Prop) (x0 : Nat) (h : xb_H) (bc : Nat) (bs : Nat) (hw : w_Reader_readBlockType_L23 Qr Qt x0 h bc bs) : xb_am l D A σ 4 MC MS h0 (fun v h bc bs => v = none ∧ Qr h bc bs) Qt y_Reader_readBlockType.cls y_Reader_readBlockType.name b_Reader_readBlockType 2 ([] : List ExceptionTableEntry) none 23 [(0, .ref x0)] [] h bc bs := by
  unfold w_Reader_readBlockType_L23 at hw
  intro p e s m args below meth c hC H locs ls k n hE hl hR hS hk hn
  obtain ⟨hx, hb, hown, hlocks, htab, hml, hr, hB, hA, hnm⟩ := id hC
  have hts := hB.1.1.at args
  refine lv_aload_n hx hb (xb_d D_Reader_readBlockType 12 rfl) rfl (lv_at hl 0 rfl) ?_
  obtain ⟨hk1, hw⟩ := hw
  refine xb_getP (C := R_Reader) (T := F_Reader) (N := 6) hx hb 3 0 hts fin_Reader hown hR hk1 (by decide) rfl (by decide) rfl (hts _ m_76d8349c) (fun _ h9 => h9) (xb_d D_Reader_readBlockType 13 rfl) ?_
  obtain ⟨b2, eb2, hw⟩ := hw
  refine xb_some eb2 ?_
  refine lv_iconst (v := 5) hx hb (xb_d D_Reader_readBlockType 14 rfl) (by decide) ?_
  refine lv_aload_n hx hb (xb_d D_Reader_readBlockType 15 rfl) rfl (lv_at hl 0 rfl) ?_
  refine xb_getI (C := R_Reader) (T := F_Reader) (N := 6) hx hb 3 3 hts fin_Reader hown hR hk1 (by decide) rfl (by decide) rfl (hts _ m_a9b84ac2) (fun _ h9 => h9) (xb_d D_Reader_readBlockType 16 rfl) ?_
  refine lv_iconst (v := 1) hx hb (xb_d D_Reader_readBlockType 17 rfl) (by decide) ?_
  refine lv_isub hx hb (xb_d D_Reader_readBlockType 18 rfl) ?_
  obtain ⟨hk3, hw⟩ := hw
  refine xb_call (D := D) (A := A) (σ := σ) (h := h) (d := 2) (mc := bc) (ms := bs) (maxL := 3) (rest := []) (av := [.ref b2, .int 5, .int ((xb_i h x0 3) - 1)]) (fun T hT X => by obtain ⟨cb9, ra9, rb9, rc9⟩ := xb_recv (ci := 2) hR rfl hk3 (by decide); exact xt_invV X hx hown (hts _ m_6fcde429) (hts _ m_865d5b07) (hts _ m_113f8f75) (xt_sigOf (hts _ m_73e65e5f)) nm_StackModule_fail (by rw [hT]; exact ra9) rb9 rc9 (g := F0 m 34 ls [.int ((xb_i h x0 3) - 1), .int 5, .ref b2]) rfl (argsL := [.int 5, .int ((xb_i h x0 3) - 1)]) (rest := []) rfl rfl (by rw [hb]; exact (xb_d D_Reader_readBlockType 19 rfl))) (ok_StackModule_fail l hfl D A σ b2 5 ((xb_i h x0 3) - 1) h bc bs _ _ hw) (hml.trans hl.1.symm) (by rw [hb]; exact (xb_d D_Reader_readBlockType 19 rfl)) (Nat.le_of_ble_eq_true rfl) (Nat.le_of_ble_eq_true rfl) (Nat.le_of_ble_eq_true rfl) (show k + bc ≤ MC by omega) (show n + bs ≤ MS by omega) (xt_w1 hB.1 m_73e65e5f) (xt_cdOf hB.1 m_73e65e5f) (hts _ m_9c375545) hB hR hS hA (fun vv h4 bc5 bs5 kk5 nn5 H locs hk5 hn5 hq hEh4 hR hS => ?_) (fun XX ax h4 bc5 bs5 kk5 nn5 H locs hk5 hn5 hq hEh4 hex hR hS => ?_)
  · obtain ⟨rfl, hw⟩ := hq
    have hw := hw hEh4
    have hE := hE.tr hEh4
    refine W.eq (g2 := F0 m 37 ls []) rfl ?_
    exact am_Reader_readBlockType_L37 l hfl D A σ MC MS h0 Qr Qt h4 bc5 bs5 hw p e s m args below meth c hC H locs ls (k + kk5) (n + nn5) hE (lv_sub hl [] rfl) hR hS (by omega) (by omega)
  · exact xb_pass hlocks (fun x hx9 => by rw [htab] at hx9; first | (cases hx9; done) | (simp [tableOf] at hx9; subst hx9; decide) | (simp [tableOf] at hx9; rcases hx9 with rfl | rfl <;> decide) | (simp [tableOf] at hx9; rcases hx9 with rfl | rfl | rfl <;> decide)) (show (k + kk5) + bc5 ≤ MC by omega) (show (n + nn5) + bs5 ≤ MS by omega) (hE.tr hEh4) hR hS hex hq

set_option maxHeartbeats 4000000 in
set_option maxRecDepth 100000 in
theorem ok_Reader_readBlockType (l : Launch) (hfl : l.flags = pinnedFlags ++ [noTraceFlag]) (D : va_G) (A : Nat → Prop) (σ : Nat) (x0 : Nat) (h : xb_H) (bc : Nat) (bs : Nat) (Qr : xb_H → Nat → Nat → Prop) (Qt : String → xb_H → Nat → Nat → Prop) (hw : w_Reader_readBlockType x0 h bc bs Qr Qt) : xb_Met l y_Reader_readBlockType [.code y_Reader_readBlockType b_Reader_readBlockType 2 none] (xb_rm 4 bc bs) (xb_Pc D A σ h [.ref x0]) (xb_Qc D A h bc bs (fun v h bc bs => v = none ∧ Qr h bc bs) Qt) A := by
  refine xb_ofAm (cc := b_Reader_readBlockType) (by decide) (Nat.le_of_ble_eq_true rfl) ?_
  unfold w_Reader_readBlockType at hw
  show xb_am l D A σ 4 bc bs h (fun v h bc bs => v = none ∧ Qr h bc bs) Qt y_Reader_readBlockType.cls y_Reader_readBlockType.name b_Reader_readBlockType 2 ([] : List ExceptionTableEntry) none 0 [(0, .ref x0)] [] h bc bs
  obtain ⟨MC, hMC⟩ : ∃ x, x = bc := ⟨_, rfl⟩
  obtain ⟨MS, hMS⟩ : ∃ x, x = bs := ⟨_, rfl⟩
  rw [show xb_am l D A σ 4 bc bs = xb_am l D A σ 4 MC MS by rw [hMC, hMS]]
  obtain ⟨h0, hh0⟩ : ∃ x, x = h := ⟨_, rfl⟩
  rw [show xb_am l D A σ 4 MC MS h = xb_am l D A σ 4 MC MS h0 by rw [hh0]]
  intro p e s m args below meth c hC H locs ls k n hE hl hR hS hk hn
  obtain ⟨hx, hb, hown, hlocks, htab, hml, hr, hB, hA, hnm⟩ := id hC
  have hts := hB.1.1.at args
  refine lv_aload_n hx hb (xb_d D_Reader_readBlockType 0 rfl) rfl (lv_at hl 0 rfl) ?_
  obtain ⟨hk1, hw⟩ := hw
  refine xb_call (D := D) (A := A) (σ := σ) (h := h) (d := 3) (mc := bc) (ms := bs) (maxL := 1) (rest := []) (av := [.ref x0]) (fun T hT X => by obtain ⟨cb9, ra9, rb9, rc9⟩ := xb_recv (ci := 3) hR rfl hk1 (by decide); exact xt_invV X hx hown (hts _ m_16104bdc) (hts _ m_5816e59e) (hts _ m_447444c2) (xt_sigOf (hts _ m_a7435405)) nm_Reader_nextByte (by rw [hT]; exact ra9) rb9 rc9 (g := F0 m 1 ls [.ref x0]) rfl (argsL := []) (rest := []) rfl rfl (by rw [hb]; exact (xb_d D_Reader_readBlockType 1 rfl))) (ok_Reader_nextByte l hfl D A σ x0 h bc bs _ _ hw) (hml.trans hl.1.symm) (by rw [hb]; exact (xb_d D_Reader_readBlockType 1 rfl)) (Nat.le_of_ble_eq_true rfl) (Nat.le_of_ble_eq_true rfl) (Nat.le_of_ble_eq_true rfl) (show k + bc ≤ MC by omega) (show n + bs ≤ MS by omega) (xt_w1 hB.1 m_a7435405) (xt_cdOf hB.1 m_a7435405) (hts _ m_938fcec4) hB hR hS hA (fun vv h2 bc3 bs3 kk3 nn3 H locs hk3 hn3 hq hEh2 hR hS => ?_) (fun XX ax h2 bc3 bs3 kk3 nn3 H locs hk3 hn3 hq hEh2 hex hR hS => ?_)
  · obtain ⟨r3, rfl, hw⟩ := hq
    have hw := hw hEh2
    have hE := hE.tr hEh2
    refine W.eq (g2 := F0 m 4 ls [.int r3]) rfl ?_
    refine lv_istore_n hx hb (xb_d D_Reader_readBlockType 2 rfl) rfl hl (by decide) rfl (fun ls hl => ?_)
    have hl : lv_has ls 2 [(1, .int r3), (0, .ref x0)] := hl
    refine lv_iload_n hx hb (xb_d D_Reader_readBlockType 3 rfl) rfl (lv_at hl 0 rfl) ?_
    refine lv_bipush (v := 64) hx hb (xb_d D_Reader_readBlockType 4 rfl) (by decide) ?_
    refine lv_icmp_eq (tgt := 37) hx hb (xb_d D_Reader_readBlockType 5 rfl) rfl (fun hc4 => ?_) (fun hc4 => ?_)
    · have hw := hw.1 hc4
      exact am_Reader_readBlockType_L37 l hfl D A σ MC MS h0 Qr Qt h2 bc3 bs3 hw p e s m args below meth c hC H locs ls (k + kk3) (n + nn3) hE (lv_sub hl [] rfl) hR hS (by omega) (by omega)
    · have hw := hw.2 hc4
      refine lv_iload_n hx hb (xb_d D_Reader_readBlockType 6 rfl) rfl (lv_at hl 0 rfl) ?_
      refine lv_bipush (v := 124) hx hb (xb_d D_Reader_readBlockType 7 rfl) (by decide) ?_
      refine lv_icmp_lt (tgt := 23) hx hb (xb_d D_Reader_readBlockType 8 rfl) rfl (fun hc5 => ?_) (fun hc5 => ?_)
      · have hw := hw.1 hc5
        exact am_Reader_readBlockType_L23 l hfl D A σ MC MS h0 Qr Qt x0 h2 bc3 bs3 hw p e s m args below meth c hC H locs ls (k + kk3) (n + nn3) hE (lv_sub hl [1] rfl) hR hS (by omega) (by omega)
      · have hw := hw.2 hc5
        refine lv_iload_n hx hb (xb_d D_Reader_readBlockType 9 rfl) rfl (lv_at hl 0 rfl) ?_
        refine lv_bipush (v := 127) hx hb (xb_d D_Reader_readBlockType 10 rfl) (by decide) ?_
        refine lv_icmp_le (tgt := 37) hx hb (xb_d D_Reader_readBlockType 11 rfl) rfl (fun hc6 => ?_) (fun hc6 => ?_)
        · have hw := hw.1 hc6
          exact am_Reader_readBlockType_L37 l hfl D A σ MC MS h0 Qr Qt h2 bc3 bs3 hw p e s m args below meth c hC H locs ls (k + kk3) (n + nn3) hE (lv_sub hl [] rfl) hR hS (by omega) (by omega)
        · have hw := hw.2 hc6
          exact am_Reader_readBlockType_L23 l hfl D A σ MC MS h0 Qr Qt x0 h2 bc3 bs3 hw p e s m args below meth c hC H locs ls (k + kk3) (n + nn3) hE (lv_sub hl [1] rfl) hR hS (by omega) (by omega)
  · exact xb_pass hlocks (fun x hx9 => by rw [htab] at hx9; first | (cases hx9; done) | (simp [tableOf] at hx9; subst hx9; decide) | (simp [tableOf] at hx9; rcases hx9 with rfl | rfl <;> decide) | (simp [tableOf] at hx9; rcases hx9 with rfl | rfl | rfl <;> decide)) (show (k + kk3) + bc3 ≤ MC by omega) (show (n + nn3) + bs3 ≤ MS by omega) (hE.tr hEh2) hR hS hex hq

theorem m_687f726b : (.constantLong "StackHost$Reader" 76 4294967295 : Cond) ∈ xt_tbl := xt_in (xt_t3 (List.mem_of_getElem? (i := 195) (by decide +kernel))) (by decide +kernel)
theorem m_2c379b4d : (.methodLink "StackHost$Reader" 70 y_Reader_count : Cond) ∈ xt_tbl := xt_in (xt_t3 (List.mem_of_getElem? (i := 187) (by decide +kernel))) (by decide +kernel)
theorem m_a120e786 : (.instanceMethod y_Reader_count : Cond) ∈ xt_tbl := xt_in (xt_t3 (List.mem_of_getElem? (i := 189) (by decide +kernel))) (by decide +kernel)
theorem m_e903c73e : (.selects "StackHost$Reader" y_Reader_count y_Reader_count : Cond) ∈ xt_tbl := xt_in (xt_v1 (q := (⟨"StackHost$Reader", "count", "()I"⟩, 6)) (List.mem_of_getElem? (i := 4) (by decide +kernel))) (by decide +kernel)
theorem m_99690a98 : (.code y_Reader_count b_Reader_count 4 (some .int) : Cond) ∈ xt_tbl := xt_in (xt_t3 (List.mem_of_getElem? (i := 190) (by decide +kernel))) (by decide +kernel)
theorem nm_Reader_count : xt_nm y_Reader_count 0 := ⟨by decide +kernel, by decide +kernel⟩
set_option maxRecDepth 100000 in
def T_Reader_readLabels : List (Nat × Instr × Nat) := [(0, .aload_n 0, 1), (1, .invokevirtual 70, 3), (4, .istore_n 2, 1), (5, .aload_n 0, 1), (6, .getfield 29, 3), (9, .iload_n 1, 1), (10, .iconst 1, 1), (11, .iadd, 1), (12, .iload_n 2, 1), (13, .iastore, 1), (14, .lconst 0, 1), (15, .lstore_n 3, 1), (16, .lload_n 3, 1), (17, .iload_n 2, 1), (18, .i2l, 1), (19, .ldc2_w 76, 3), (22, .land, 1), (23, .lcmp, 1), (24, .ifCond .gt 29, 3), (27, .aload_n 0, 1), (28, .invokevirtual 70, 3), (31, .istore 5, 2), (33, .aload_n 0, 1), (34, .getfield 29, 3), (37, .iload_n 1, 1), (38, .iconst 2, 1), (39, .iadd, 1), (40, .lload_n 3, 1), (41, .l2i, 1), (42, .iadd, 1), (43, .iload 5, 2), (45, .iastore, 1), (46, .lload_n 3, 1), (47, .lconst 1, 1), (48, .ladd, 1), (49, .lstore_n 3, 1), (50, .goto (-34), 3), (53, .aload_n 0, 1), (54, .getfield 29, 3), (57, .iload_n 1, 1), (58, .aload_n 0, 1), (59, .getfield 41, 3), (62, .iastore, 1), (63, .return_, 1)]
theorem D_Reader_readLabels : ∀ q ∈ T_Reader_readLabels, decode b_Reader_readLabels q.1 = .ok (q.2.1, q.2.2) := by decide +kernel

set_option maxHeartbeats 4000000 in
set_option maxRecDepth 100000 in
theorem am_Reader_readLabels_L16 (l : Launch) (hfl : l.flags = pinnedFlags ++ [noTraceFlag]) (D : va_G) (A : Nat → Prop) (σ MC MS : Nat) (h0 : xb_H) (Qr : xb_H → Nat → Nat → Prop) (Qt : String → xb_H → Nat → Nat → Prop) (n9 : Nat) : ∀ (x0 : Nat) (x1 : Int32) (x2 : Int32) (x3 : Int64) (h : xb_H) (bc : Nat) (bs : Nat), w_Reader_readLabels_L16 Qr Qt n9 x0 x1 x2 x3 h bc bs → xb_am l D A σ 4 MC MS h0 (fun v h bc bs => v = none ∧ Qr h bc bs) Qt y_Reader_readLabels.cls y_Reader_readLabels.name b_Reader_readLabels 6 ([] : List ExceptionTableEntry) none 16 [(0, .ref x0), (1, .int x1), (2, .int x2), (3, .long x3)] [] h bc bs := by
  induction n9 with
  | zero => intro x0 x1 x2 x3 h bc bs hw; exact False.elim hw
  | succ n9 ih =>
    intro x0 x1 x2 x3 h bc bs hw
    unfold w_Reader_readLabels_L16 at hw
    intro p e s m args below meth c hC H locs ls k n hE hl hR hS hk hn
    obtain ⟨hx, hb, hown, hlocks, htab, hml, hr, hB, hA, hnm⟩ := id hC
    have hts := hB.1.1.at args
    refine lv_lload_n hx hb (xb_d D_Reader_readLabels 12 rfl) rfl (lv_at hl 3 rfl) ?_
    refine lv_iload_n hx hb (xb_d D_Reader_readLabels 13 rfl) rfl (lv_at hl 2 rfl) ?_
    refine lv_i2l hx hb (xb_d D_Reader_readLabels 14 rfl) rfl ?_
    refine lv_ldc2 (v := 4294967295) hx hb hown (hts _ m_687f726b) (xb_d D_Reader_readLabels 15 rfl) ?_
    refine lv_land hx hb (xb_d D_Reader_readLabels 16 rfl) ?_
    refine xb_lc_gt (tgt := 53) hx hb (xb_d D_Reader_readLabels 17 rfl) (xb_d D_Reader_readLabels 18 rfl) rfl (fun hc1 => ?_) (fun hc1 => ?_)
    · have hw := hw.1 hc1
      refine lv_aload_n hx hb (xb_d D_Reader_readLabels 37 rfl) rfl (lv_at hl 0 rfl) ?_
      obtain ⟨hk2, hw⟩ := hw
      refine xb_getP (C := R_Reader) (T := F_Reader) (N := 6) hx hb 3 2 hts fin_Reader hown hR hk2 (by decide) rfl (by decide) rfl (hts _ m_5660bdee) (fun _ h9 => h9) (xb_d D_Reader_readLabels 38 rfl) ?_
      obtain ⟨b3, eb3, hw⟩ := hw
      refine xb_some eb3 ?_
      refine lv_iload_n hx hb (xb_d D_Reader_readLabels 39 rfl) rfl (lv_at hl 1 rfl) ?_
      refine lv_aload_n hx hb (xb_d D_Reader_readLabels 40 rfl) rfl (lv_at hl 0 rfl) ?_
      refine xb_getI (C := R_Reader) (T := F_Reader) (N := 6) hx hb 3 3 hts fin_Reader hown hR hk2 (by decide) rfl (by decide) rfl (hts _ m_a9b84ac2) (fun _ h9 => h9) (xb_d D_Reader_readLabels 41 rfl) ?_
      obtain ⟨hk4, hw⟩ := hw
      obtain ⟨hi5, hw⟩ := hw
      refine xb_iast hx hb hR hS hk4 hi5 (xb_d D_Reader_readLabels 42 rfl) (fun H locs hR hS => ?_)
      obtain ⟨h6, eh6⟩ : ∃ x : xb_H, x = xb_I h b3 (Int32.toNatClampNeg x1) (xb_i h x0 3) := ⟨_, rfl⟩
      rw [← eh6] at hR
      have hw := hw h6 eh6
      have hE : xb_ext h0 h6 := by rw [eh6]; exact hE
      exact xb_vret bc bs hx hb hr hlocks (show k + bc ≤ MC by omega) (show n + bs ≤ MS by omega) hE hR hS (xb_d D_Reader_readLabels 43 rfl) hw
    · have hw := hw.2 hc1
      refine lv_aload_n hx hb (xb_d D_Reader_readLabels 19 rfl) rfl (lv_at hl 0 rfl) ?_
      obtain ⟨hk7, hw⟩ := hw
      refine xb_call (D := D) (A := A) (σ := σ) (h := h) (d := 3) (mc := bc) (ms := bs) (maxL := 4) (rest := []) (av := [.ref x0]) (fun T hT X => by obtain ⟨cb9, ra9, rb9, rc9⟩ := xb_recv (ci := 3) hR rfl hk7 (by decide); exact xt_invV X hx hown (hts _ m_2c379b4d) (hts _ m_a120e786) (hts _ m_e903c73e) (xt_sigOf (hts _ m_99690a98)) nm_Reader_count (by rw [hT]; exact ra9) rb9 rc9 (g := F0 m 28 ls [.ref x0]) rfl (argsL := []) (rest := []) rfl rfl (by rw [hb]; exact (xb_d D_Reader_readLabels 20 rfl))) (ok_Reader_count l hfl D A σ x0 h bc bs _ _ hw) (hml.trans hl.1.symm) (by rw [hb]; exact (xb_d D_Reader_readLabels 20 rfl)) (Nat.le_of_ble_eq_true rfl) (Nat.le_of_ble_eq_true rfl) (Nat.le_of_ble_eq_true rfl) (show k + bc ≤ MC by omega) (show n + bs ≤ MS by omega) (xt_w1 hB.1 m_99690a98) (xt_cdOf hB.1 m_99690a98) (hts _ m_938fcec4) hB hR hS hA (fun vv h8 bc9 bs9 kk9 nn9 H locs hk9 hn9 hq hEh8 hR hS => ?_) (fun XX ax h8 bc9 bs9 kk9 nn9 H locs hk9 hn9 hq hEh8 hex hR hS => ?_)
      · obtain ⟨r9, rfl, hw⟩ := hq
        have hw := hw hEh8
        have hE := hE.tr hEh8
        refine W.eq (g2 := F0 m 31 ls [.int r9]) rfl ?_
        refine lv_istore hx hb (xb_d D_Reader_readLabels 21 rfl) hl (by decide) rfl (fun ls hl => ?_)
        have hl : lv_has ls 6 [(5, .int r9), (0, .ref x0), (1, .int x1), (2, .int x2), (3, .long x3)] := hl
        refine lv_aload_n hx hb (xb_d D_Reader_readLabels 22 rfl) rfl (lv_at hl 1 rfl) ?_
        have hk7 : xb_k h8 x0 = 4 := hEh8.k hk7
        refine xb_getP (C := R_Reader) (T := F_Reader) (N := 6) hx hb 3 2 hts fin_Reader hown hR hk7 (by decide) rfl (by decide) rfl (hts _ m_5660bdee) (fun _ h9 => h9) (xb_d D_Reader_readLabels 23 rfl) ?_
        obtain ⟨b10, eb10, hw⟩ := hw
        refine xb_some eb10 ?_
        refine lv_iload_n hx hb (xb_d D_Reader_readLabels 24 rfl) rfl (lv_at hl 2 rfl) ?_
        refine lv_iconst (v := 2) hx hb (xb_d D_Reader_readLabels 25 rfl) (by decide) ?_
        refine lv_iadd hx hb (xb_d D_Reader_readLabels 26 rfl) ?_
        refine lv_lload_n hx hb (xb_d D_Reader_readLabels 27 rfl) rfl (lv_at hl 4 rfl) ?_
        refine lv_l2i hx hb (xb_d D_Reader_readLabels 28 rfl) rfl ?_
        refine lv_iadd hx hb (xb_d D_Reader_readLabels 29 rfl) ?_
        refine lv_iload hx hb (xb_d D_Reader_readLabels 30 rfl) (lv_at hl 0 rfl) ?_
        obtain ⟨hk11, hw⟩ := hw
        obtain ⟨hi12, hw⟩ := hw
        refine xb_iast hx hb hR hS hk11 hi12 (xb_d D_Reader_readLabels 31 rfl) (fun H locs hR hS => ?_)
        obtain ⟨h13, eh13⟩ : ∃ x : xb_H, x = xb_I h8 b10 (Int32.toNatClampNeg ((x1 + 2) + (Int64.toInt32 x3))) r9 := ⟨_, rfl⟩
        rw [← eh13] at hR
        have hw := hw h13 eh13
        have hE : xb_ext h0 h13 := by rw [eh13]; exact hE
        refine lv_lload_n hx hb (xb_d D_Reader_readLabels 32 rfl) rfl (lv_at hl 4 rfl) ?_
        refine lv_lconst (v := 1) hx hb (xb_d D_Reader_readLabels 33 rfl) (by decide) ?_
        refine lv_ladd hx hb (xb_d D_Reader_readLabels 34 rfl) ?_
        obtain ⟨v14, ev14⟩ : ∃ x : Int64, x = (x3 + 1) := ⟨_, rfl⟩
        have hw := hw v14 ev14
        refine xt_numl (y := v14) ev14.symm ?_
        refine lv_lstore_n hx hb (xb_d D_Reader_readLabels 35 rfl) rfl hl (by decide) rfl (fun ls hl => ?_)
        have hl : lv_has ls 6 [(3, .long v14), (5, .int r9), (0, .ref x0), (1, .int x1), (2, .int x2)] := hl
        refine lv_goto (tgt := 16) hx hb (xb_d D_Reader_readLabels 36 rfl) rfl ?_
        exact ih x0 x1 x2 v14 h13 bc9 bs9 hw p e s m args below meth c hC H locs ls (k + kk9) (n + nn9) hE (lv_sub hl [2, 3, 4, 0] rfl) hR hS (by omega) (by omega)
      · exact xb_pass hlocks (fun x hx9 => by rw [htab] at hx9; first | (cases hx9; done) | (simp [tableOf] at hx9; subst hx9; decide) | (simp [tableOf] at hx9; rcases hx9 with rfl | rfl <;> decide) | (simp [tableOf] at hx9; rcases hx9 with rfl | rfl | rfl <;> decide)) (show (k + kk9) + bc9 ≤ MC by omega) (show (n + nn9) + bs9 ≤ MS by omega) (hE.tr hEh8) hR hS hex hq

set_option maxHeartbeats 4000000 in
set_option maxRecDepth 100000 in
theorem ok_Reader_readLabels (l : Launch) (hfl : l.flags = pinnedFlags ++ [noTraceFlag]) (D : va_G) (A : Nat → Prop) (σ : Nat) (x0 : Nat) (x1 : Int32) (h : xb_H) (bc : Nat) (bs : Nat) (Qr : xb_H → Nat → Nat → Prop) (Qt : String → xb_H → Nat → Nat → Prop) (hw : w_Reader_readLabels x0 x1 h bc bs Qr Qt) : xb_Met l y_Reader_readLabels [.code y_Reader_readLabels b_Reader_readLabels 6 none] (xb_rm 4 bc bs) (xb_Pc D A σ h [.ref x0, .int x1]) (xb_Qc D A h bc bs (fun v h bc bs => v = none ∧ Qr h bc bs) Qt) A := by
  refine xb_ofAm (cc := b_Reader_readLabels) (by decide) (Nat.le_of_ble_eq_true rfl) ?_
  unfold w_Reader_readLabels at hw
  show xb_am l D A σ 4 bc bs h (fun v h bc bs => v = none ∧ Qr h bc bs) Qt y_Reader_readLabels.cls y_Reader_readLabels.name b_Reader_readLabels 6 ([] : List ExceptionTableEntry) none 0 [(0, .ref x0), (1, .int x1)] [] h bc bs
  obtain ⟨MC, hMC⟩ : ∃ x, x = bc := ⟨_, rfl⟩
  obtain ⟨MS, hMS⟩ : ∃ x, x = bs := ⟨_, rfl⟩
  rw [show xb_am l D A σ 4 bc bs = xb_am l D A σ 4 MC MS by rw [hMC, hMS]]
  obtain ⟨h0, hh0⟩ : ∃ x, x = h := ⟨_, rfl⟩
  rw [show xb_am l D A σ 4 MC MS h = xb_am l D A σ 4 MC MS h0 by rw [hh0]]
  intro p e s m args below meth c hC H locs ls k n hE hl hR hS hk hn
  obtain ⟨hx, hb, hown, hlocks, htab, hml, hr, hB, hA, hnm⟩ := id hC
  have hts := hB.1.1.at args
  refine lv_aload_n hx hb (xb_d D_Reader_readLabels 0 rfl) rfl (lv_at hl 0 rfl) ?_
  obtain ⟨hk1, hw⟩ := hw
  refine xb_call (D := D) (A := A) (σ := σ) (h := h) (d := 3) (mc := bc) (ms := bs) (maxL := 4) (rest := []) (av := [.ref x0]) (fun T hT X => by obtain ⟨cb9, ra9, rb9, rc9⟩ := xb_recv (ci := 3) hR rfl hk1 (by decide); exact xt_invV X hx hown (hts _ m_2c379b4d) (hts _ m_a120e786) (hts _ m_e903c73e) (xt_sigOf (hts _ m_99690a98)) nm_Reader_count (by rw [hT]; exact ra9) rb9 rc9 (g := F0 m 1 ls [.ref x0]) rfl (argsL := []) (rest := []) rfl rfl (by rw [hb]; exact (xb_d D_Reader_readLabels 1 rfl))) (ok_Reader_count l hfl D A σ x0 h bc bs _ _ hw) (hml.trans hl.1.symm) (by rw [hb]; exact (xb_d D_Reader_readLabels 1 rfl)) (Nat.le_of_ble_eq_true rfl) (Nat.le_of_ble_eq_true rfl) (Nat.le_of_ble_eq_true rfl) (show k + bc ≤ MC by omega) (show n + bs ≤ MS by omega) (xt_w1 hB.1 m_99690a98) (xt_cdOf hB.1 m_99690a98) (hts _ m_938fcec4) hB hR hS hA (fun vv h2 bc3 bs3 kk3 nn3 H locs hk3 hn3 hq hEh2 hR hS => ?_) (fun XX ax h2 bc3 bs3 kk3 nn3 H locs hk3 hn3 hq hEh2 hex hR hS => ?_)
  · obtain ⟨r3, rfl, hw⟩ := hq
    have hw := hw hEh2
    have hE := hE.tr hEh2
    refine W.eq (g2 := F0 m 4 ls [.int r3]) rfl ?_
    refine lv_istore_n hx hb (xb_d D_Reader_readLabels 2 rfl) rfl hl (by decide) rfl (fun ls hl => ?_)
    have hl : lv_has ls 6 [(2, .int r3), (0, .ref x0), (1, .int x1)] := hl
    refine lv_aload_n hx hb (xb_d D_Reader_readLabels 3 rfl) rfl (lv_at hl 1 rfl) ?_
    have hk1 : xb_k h2 x0 = 4 := hEh2.k hk1
    refine xb_getP (C := R_Reader) (T := F_Reader) (N := 6) hx hb 3 2 hts fin_Reader hown hR hk1 (by decide) rfl (by decide) rfl (hts _ m_5660bdee) (fun _ h9 => h9) (xb_d D_Reader_readLabels 4 rfl) ?_
    obtain ⟨b4, eb4, hw⟩ := hw
    refine xb_some eb4 ?_
    refine lv_iload_n hx hb (xb_d D_Reader_readLabels 5 rfl) rfl (lv_at hl 2 rfl) ?_
    refine lv_iconst (v := 1) hx hb (xb_d D_Reader_readLabels 6 rfl) (by decide) ?_
    refine lv_iadd hx hb (xb_d D_Reader_readLabels 7 rfl) ?_
    refine lv_iload_n hx hb (xb_d D_Reader_readLabels 8 rfl) rfl (lv_at hl 0 rfl) ?_
    obtain ⟨hk5, hw⟩ := hw
    obtain ⟨hi6, hw⟩ := hw
    refine xb_iast hx hb hR hS hk5 hi6 (xb_d D_Reader_readLabels 9 rfl) (fun H locs hR hS => ?_)
    obtain ⟨h7, eh7⟩ : ∃ x : xb_H, x = xb_I h2 b4 (Int32.toNatClampNeg (x1 + 1)) r3 := ⟨_, rfl⟩
    rw [← eh7] at hR
    have hw := hw h7 eh7
    have hE : xb_ext h0 h7 := by rw [eh7]; exact hE
    refine lv_lconst (v := 0) hx hb (xb_d D_Reader_readLabels 10 rfl) (by decide) ?_
    refine lv_lstore_n hx hb (xb_d D_Reader_readLabels 11 rfl) rfl hl (by decide) rfl (fun ls hl => ?_)
    have hl : lv_has ls 6 [(3, .long 0), (2, .int r3), (0, .ref x0), (1, .int x1)] := hl
    obtain ⟨n8, hw⟩ := hw
    exact am_Reader_readLabels_L16 l hfl D A σ MC MS h0 Qr Qt n8 x0 x1 r3 0 h7 bc3 bs3 hw p e s m args below meth c hC H locs ls (k + kk3) (n + nn3) hE (lv_sub hl [2, 3, 1, 0] rfl) hR hS (by omega) (by omega)
  · exact xb_pass hlocks (fun x hx9 => by rw [htab] at hx9; first | (cases hx9; done) | (simp [tableOf] at hx9; subst hx9; decide) | (simp [tableOf] at hx9; rcases hx9 with rfl | rfl <;> decide) | (simp [tableOf] at hx9; rcases hx9 with rfl | rfl | rfl <;> decide)) (show (k + kk3) + bc3 ≤ MC by omega) (show (n + nn3) + bs3 ≤ MS by omega) (hE.tr hEh2) hR hS hex hq

theorem m_93ccc2de : (.methodLink "StackHost$Reader" 131 y_Reader_groupLength : Cond) ∈ xt_tbl := xt_in (xt_t3 (List.mem_of_getElem? (i := 200) (by decide +kernel))) (by decide +kernel)
theorem m_ec458e35 : (.instanceMethod y_Reader_groupLength : Cond) ∈ xt_tbl := xt_in (xt_t3 (List.mem_of_getElem? (i := 202) (by decide +kernel))) (by decide +kernel)
theorem m_875856cc : (.selects "StackHost$Reader" y_Reader_groupLength y_Reader_groupLength : Cond) ∈ xt_tbl := xt_in (xt_v1 (q := (⟨"StackHost$Reader", "groupLength", "(II)I"⟩, 6)) (List.mem_of_getElem? (i := 7) (by decide +kernel))) (by decide +kernel)
theorem m_2941e049 : (.code y_Reader_groupLength b_Reader_groupLength 10 (some .int) : Cond) ∈ xt_tbl := xt_in (xt_t3 (List.mem_of_getElem? (i := 203) (by decide +kernel))) (by decide +kernel)
theorem nm_Reader_groupLength : xt_nm y_Reader_groupLength 2 := ⟨by decide +kernel, by decide +kernel⟩
set_option maxRecDepth 100000 in
def T_Reader_readName : List (Nat × Instr × Nat) := [(0, .aload_n 0, 1), (1, .invokevirtual 70, 3), (4, .istore_n 1, 1), (5, .iload_n 1, 1), (6, .ifCond .lt 16, 3), (9, .iload_n 1, 1), (10, .aload_n 0, 1), (11, .getfield 30, 3), (14, .aload_n 0, 1), (15, .getfield 41, 3), (18, .isub, 1), (19, .if_icmp .le 15, 3), (22, .aload_n 0, 1), (23, .getfield 15, 3), (26, .iconst 2, 1), (27, .aload_n 0, 1), (28, .getfield 30, 3), (31, .invokevirtual 37, 3), (34, .aload_n 0, 1), (35, .getfield 41, 3), (38, .iload_n 1, 1), (39, .iadd, 1), (40, .istore_n 2, 1), (41, .iconst 0, 1), (42, .istore_n 3, 1), (43, .iload_n 3, 1), (44, .iload_n 1, 1), (45, .if_icmp .ge 56, 3), (48, .aload_n 0, 1), (49, .getfield 41, 3), (52, .iload_n 2, 1), (53, .if_icmp .ge 48, 3), (56, .aload_n 0, 1), (57, .aload_n 0, 1), (58, .getfield 41, 3), (61, .iload_n 2, 1), (62, .invokevirtual 131, 3), (65, .istore 4, 2), (67, .iload 4, 2), (69, .ifCond .ne 15, 3), (72, .aload_n 0, 1), (73, .getfield 15, 3), (76, .iconst 4, 1), (77, .aload_n 0, 1), (78, .getfield 41, 3), (81, .invokevirtual 37, 3), (84, .aload_n 0, 1), (85, .dup, 1), (86, .getfield 41, 3), (89, .iload 4, 2), (91, .iadd, 1), (92, .putfield 41, 3), (95, .iinc 3 1, 3), (98, .goto (-55), 3), (101, .iload_n 1, 1), (102, .ireturn, 1)]
theorem D_Reader_readName : ∀ q ∈ T_Reader_readName, decode b_Reader_readName q.1 = .ok (q.2.1, q.2.2) := by decide +kernel

set_option maxHeartbeats 4000000 in
set_option maxRecDepth 100000 in
theorem am_Reader_readName_L101 (l : Launch) (hfl : l.flags = pinnedFlags ++ [noTraceFlag]) (D : va_G) (A : Nat → Prop) (σ MC MS : Nat) (h0 : xb_H) (Qr : Int32 → xb_H → Nat → Nat → Prop) (Qt : String → xb_H → Nat → Nat → Prop) (x1 : Int32) (h : xb_H) (bc : Nat) (bs : Nat) (hw : w_Reader_readName_L101 Qr Qt x1 h bc bs) : xb_am l D A σ 4 MC MS h0 (fun v h bc bs => ∃ r, v = some (.int r) ∧ Qr r h bc bs) Qt y_Reader_readName.cls y_Reader_readName.name b_Reader_readName 5 ([] : List ExceptionTableEntry) (some .int) 101 [(1, .int x1)] [] h bc bs := by
  unfold w_Reader_readName_L101 at hw
  intro p e s m args below meth c hC H locs ls k n hE hl hR hS hk hn
  obtain ⟨hx, hb, hown, hlocks, htab, hml, hr, hB, hA, hnm⟩ := id hC
  have hts := hB.1.1.at args
  refine lv_iload_n hx hb (xb_d D_Reader_readName 54 rfl) rfl (lv_at hl 0 rfl) ?_
  exact xb_iret bc bs hx hb hr hlocks (show k + bc ≤ MC by omega) (show n + bs ≤ MS by omega) hE hR hS (xb_d D_Reader_readName 55 rfl) hw

set_option maxHeartbeats 4000000 in
set_option maxRecDepth 100000 in
theorem am_Reader_readName_L84 (l : Launch) (hfl : l.flags = pinnedFlags ++ [noTraceFlag]) (D : va_G) (A : Nat → Prop) (σ MC MS : Nat) (h0 : xb_H) (Qr : Int32 → xb_H → Nat → Nat → Prop) (Qt : String → xb_H → Nat → Nat → Prop) (K43 : Nat → Int32 → Int32 → Int32 → xb_H → Nat → Nat → Prop) (hK43 : ∀ (x0 : Nat) (x1 : Int32) (x2 : Int32) (x3 : Int32) (h : xb_H) (bc : Nat) (bs : Nat), K43 x0 x1 x2 x3 h bc bs → xb_am l D A σ 4 MC MS h0 (fun v h bc bs => ∃ r, v = some (.int r) ∧ Qr r h bc bs) Qt y_Reader_readName.cls y_Reader_readName.name b_Reader_readName 5 ([] : List ExceptionTableEntry) (some .int) 43 [(0, .ref x0), (1, .int x1), (2, .int x2), (3, .int x3)] [] h bc bs) (x0 : Nat) (x1 : Int32) (x2 : Int32) (x3 : Int32) (x4 : Int32) (h : xb_H) (bc : Nat) (bs : Nat) (hw : w_Reader_readName_L84 K43 Qr Qt x0 x1 x2 x3 x4 h bc bs) : xb_am l D A σ 4 MC MS h0 (fun v h bc bs => ∃ r, v = some (.int r) ∧ Qr r h bc bs) Qt y_Reader_readName.cls y_Reader_readName.name b_Reader_readName 5 ([] : List ExceptionTableEntry) (some .int) 84 [(0, .ref x0), (1, .int x1), (2, .int x2), (3, .int x3), (4, .int x4)] [] h bc bs := by
  unfold w_Reader_readName_L84 at hw
  intro p e s m args below meth c hC H locs ls k n hE hl hR hS hk hn
  obtain ⟨hx, hb, hown, hlocks, htab, hml, hr, hB, hA, hnm⟩ := id hC
  have hts := hB.1.1.at args
  refine lv_aload_n hx hb (xb_d D_Reader_readName 46 rfl) rfl (lv_at hl 0 rfl) ?_
  refine lv_dup hx hb (xb_d D_Reader_readName 47 rfl) rfl ?_
  obtain ⟨hk1, hw⟩ := hw
  refine xb_getI (C := R_Reader) (T := F_Reader) (N := 6) hx hb 3 3 hts fin_Reader hown hR hk1 (by decide) rfl (by decide) rfl (hts _ m_a9b84ac2) (fun _ h9 => h9) (xb_d D_Reader_readName 48 rfl) ?_
  refine lv_iload hx hb (xb_d D_Reader_readName 49 rfl) (lv_at hl 4 rfl) ?_
  refine lv_iadd hx hb (xb_d D_Reader_readName 50 rfl) ?_
  refine xb_putI (C := R_Reader) (T := F_Reader) (N := 6) (ty := .int) (x := ((xb_i h x0 3) + x4)) hx hb 3 3 hts fin_Reader t_Reader t_Reader_ok n_Reader hown hR hS hk1 (by decide) rfl (by decide) rfl (hts _ m_a9b84ac2) (fun _ h9 => h9) rfl (by decide +kernel) rfl rfl (xb_d D_Reader_readName 51 rfl) (fun H locs hR hS => ?_)
  obtain ⟨h2, eh2⟩ : ∃ x : xb_H, x = xb_I h x0 3 ((xb_i h x0 3) + x4) := ⟨_, rfl⟩
  rw [← eh2] at hR
  have hw := hw h2 eh2
  have hE : xb_ext h0 h2 := by rw [eh2]; exact hE
  refine lv_iinc (v := (x3 + 1)) (k := 3) hx hb (xb_d D_Reader_readName 52 rfl) hl rfl (by first | rfl | decide) (by decide) rfl (fun ls hl => ?_)
  have hl : lv_has ls 5 [(3, .int (x3 + 1)), (0, .ref x0), (1, .int x1), (2, .int x2), (4, .int x4)] := hl
  refine lv_goto (tgt := 43) hx hb (xb_d D_Reader_readName 53 rfl) rfl ?_
  exact hK43 x0 x1 x2 (x3 + 1) h2 bc bs hw p e s m args below meth c hC H locs ls k n hE (lv_sub hl [1, 2, 3, 0] rfl) hR hS (by omega) (by omega)

set_option maxHeartbeats 4000000 in
set_option maxRecDepth 100000 in
theorem am_Reader_readName_L43 (l : Launch) (hfl : l.flags = pinnedFlags ++ [noTraceFlag]) (D : va_G) (A : Nat → Prop) (σ MC MS : Nat) (h0 : xb_H) (Qr : Int32 → xb_H → Nat → Nat → Prop) (Qt : String → xb_H → Nat → Nat → Prop) (n9 : Nat) : ∀ (x0 : Nat) (x1 : Int32) (x2 : Int32) (x3 : Int32) (h : xb_H) (bc : Nat) (bs : Nat), w_Reader_readName_L43 Qr Qt n9 x0 x1 x2 x3 h bc bs → xb_am l D A σ 4 MC MS h0 (fun v h bc bs => ∃ r, v = some (.int r) ∧ Qr r h bc bs) Qt y_Reader_readName.cls y_Reader_readName.name b_Reader_readName 5 ([] : List ExceptionTableEntry) (some .int) 43 [(0, .ref x0), (1, .int x1), (2, .int x2), (3, .int x3)] [] h bc bs := by
  induction n9 with
  | zero => intro x0 x1 x2 x3 h bc bs hw; exact False.elim hw
  | succ n9 ih =>
    intro x0 x1 x2 x3 h bc bs hw
    unfold w_Reader_readName_L43 at hw
    intro p e s m args below meth c hC H locs ls k n hE hl hR hS hk hn
    obtain ⟨hx, hb, hown, hlocks, htab, hml, hr, hB, hA, hnm⟩ := id hC
    have hts := hB.1.1.at args
    refine lv_iload_n hx hb (xb_d D_Reader_readName 25 rfl) rfl (lv_at hl 3 rfl) ?_
    refine lv_iload_n hx hb (xb_d D_Reader_readName 26 rfl) rfl (lv_at hl 1 rfl) ?_
    refine lv_icmp_ge (tgt := 101) hx hb (xb_d D_Reader_readName 27 rfl) rfl (fun hc1 => ?_) (fun hc1 => ?_)
    · have hw := hw.1 hc1
      exact am_Reader_readName_L101 l hfl D A σ MC MS h0 Qr Qt x1 h bc bs hw p e s m args below meth c hC H locs ls k n hE (lv_sub hl [1] rfl) hR hS (by omega) (by omega)
    · have hw := hw.2 hc1
      refine lv_aload_n hx hb (xb_d D_Reader_readName 28 rfl) rfl (lv_at hl 0 rfl) ?_
      obtain ⟨hk2, hw⟩ := hw
      refine xb_getI (C := R_Reader) (T := F_Reader) (N := 6) hx hb 3 3 hts fin_Reader hown hR hk2 (by decide) rfl (by decide) rfl (hts _ m_a9b84ac2) (fun _ h9 => h9) (xb_d D_Reader_readName 29 rfl) ?_
      refine lv_iload_n hx hb (xb_d D_Reader_readName 30 rfl) rfl (lv_at hl 2 rfl) ?_
      refine lv_icmp_ge (tgt := 101) hx hb (xb_d D_Reader_readName 31 rfl) rfl (fun hc3 => ?_) (fun hc3 => ?_)
      · have hw := hw.1 hc3
        exact am_Reader_readName_L101 l hfl D A σ MC MS h0 Qr Qt x1 h bc bs hw p e s m args below meth c hC H locs ls k n hE (lv_sub hl [1] rfl) hR hS (by omega) (by omega)
      · have hw := hw.2 hc3
        refine lv_aload_n hx hb (xb_d D_Reader_readName 32 rfl) rfl (lv_at hl 0 rfl) ?_
        refine lv_aload_n hx hb (xb_d D_Reader_readName 33 rfl) rfl (lv_at hl 0 rfl) ?_
        refine xb_getI (C := R_Reader) (T := F_Reader) (N := 6) hx hb 3 3 hts fin_Reader hown hR hk2 (by decide) rfl (by decide) rfl (hts _ m_a9b84ac2) (fun _ h9 => h9) (xb_d D_Reader_readName 34 rfl) ?_
        refine lv_iload_n hx hb (xb_d D_Reader_readName 35 rfl) rfl (lv_at hl 2 rfl) ?_
        refine xb_call0 (D := D) (A := A) (σ := σ) (h := h) (d := 2) (maxL := 10) (rest := []) (av := [.ref x0, .int (xb_i h x0 3), .int x2]) (fun T hT X => by obtain ⟨cb9, ra9, rb9, rc9⟩ := xb_recv (ci := 3) hR rfl hk2 (by decide); exact xt_invV X hx hown (hts _ m_93ccc2de) (hts _ m_ec458e35) (hts _ m_875856cc) (xt_sigOf (hts _ m_2941e049)) nm_Reader_groupLength (by rw [hT]; exact ra9) rb9 rc9 (g := F0 m 62 ls [.int x2, .int (xb_i h x0 3), .ref x0]) rfl (argsL := [.int (xb_i h x0 3), .int x2]) (rest := []) rfl rfl (by rw [hb]; exact (xb_d D_Reader_readName 36 rfl))) (ok_Reader_groupLength l hfl D A σ x0 (xb_i h x0 3) x2 h _ hw) (hml.trans hl.1.symm) (by rw [hb]; exact (xb_d D_Reader_readName 36 rfl)) (Nat.le_of_ble_eq_true rfl) (Nat.le_of_ble_eq_true rfl) (Nat.le_of_ble_eq_true rfl) (show k ≤ MC by omega) (show n ≤ MS by omega) (xt_w1 hB.1 m_2941e049) (xt_cdOf hB.1 m_2941e049) (hts _ m_938fcec4) hB hR hS hA (fun vv h4 H locs hq hEh4 hR hS => ?_)
        obtain ⟨r5, rfl, hw⟩ := hq
        have hw := hw hEh4
        have hE := hE.tr hEh4
        refine W.eq (g2 := F0 m 65 ls [.int r5]) rfl ?_
        refine lv_istore hx hb (xb_d D_Reader_readName 37 rfl) hl (by decide) rfl (fun ls hl => ?_)
        have hl : lv_has ls 5 [(4, .int r5), (0, .ref x0), (1, .int x1), (2, .int x2), (3, .int x3)] := hl
        refine lv_iload hx hb (xb_d D_Reader_readName 38 rfl) (lv_at hl 0 rfl) ?_
        refine lv_if_ne (tgt := 84) hx hb (xb_d D_Reader_readName 39 rfl) rfl (fun hc6 => ?_) (fun hc6 => ?_)
        · have hw := hw.1 hc6
          exact am_Reader_readName_L84 l hfl D A σ MC MS h0 Qr Qt (w_Reader_readName_L43 Qr Qt n9) ih x0 x1 x2 x3 r5 h4 bc bs hw p e s m args below meth c hC H locs ls k n hE (lv_sub hl [1, 2, 3, 4, 0] rfl) hR hS (by omega) (by omega)
        · have hw := hw.2 hc6
          refine lv_aload_n hx hb (xb_d D_Reader_readName 40 rfl) rfl (lv_at hl 1 rfl) ?_
          have hk2 : xb_k h4 x0 = 4 := hEh4.k hk2
          refine xb_getP (C := R_Reader) (T := F_Reader) (N := 6) hx hb 3 0 hts fin_Reader hown hR hk2 (by decide) rfl (by decide) rfl (hts _ m_76d8349c) (fun _ h9 => h9) (xb_d D_Reader_readName 41 rfl) ?_
          obtain ⟨b7, eb7, hw⟩ := hw
          refine xb_some eb7 ?_
          refine lv_iconst (v := 4) hx hb (xb_d D_Reader_readName 42 rfl) (by decide) ?_
          refine lv_aload_n hx hb (xb_d D_Reader_readName 43 rfl) rfl (lv_at hl 1 rfl) ?_
          refine xb_getI (C := R_Reader) (T := F_Reader) (N := 6) hx hb 3 3 hts fin_Reader hown hR hk2 (by decide) rfl (by decide) rfl (hts _ m_a9b84ac2) (fun _ h9 => h9) (xb_d D_Reader_readName 44 rfl) ?_
          obtain ⟨hk8, hw⟩ := hw
          refine xb_call (D := D) (A := A) (σ := σ) (h := h4) (d := 2) (mc := bc) (ms := bs) (maxL := 3) (rest := []) (av := [.ref b7, .int 4, .int (xb_i h4 x0 3)]) (fun T hT X => by obtain ⟨cb9, ra9, rb9, rc9⟩ := xb_recv (ci := 2) hR rfl hk8 (by decide); exact xt_invV X hx hown (hts _ m_6fcde429) (hts _ m_865d5b07) (hts _ m_113f8f75) (xt_sigOf (hts _ m_73e65e5f)) nm_StackModule_fail (by rw [hT]; exact ra9) rb9 rc9 (g := F0 m 81 ls [.int (xb_i h4 x0 3), .int 4, .ref b7]) rfl (argsL := [.int 4, .int (xb_i h4 x0 3)]) (rest := []) rfl rfl (by rw [hb]; exact (xb_d D_Reader_readName 45 rfl))) (ok_StackModule_fail l hfl D A σ b7 4 (xb_i h4 x0 3) h4 bc bs _ _ hw) (hml.trans hl.1.symm) (by rw [hb]; exact (xb_d D_Reader_readName 45 rfl)) (Nat.le_of_ble_eq_true rfl) (Nat.le_of_ble_eq_true rfl) (Nat.le_of_ble_eq_true rfl) (show k + bc ≤ MC by omega) (show n + bs ≤ MS by omega) (xt_w1 hB.1 m_73e65e5f) (xt_cdOf hB.1 m_73e65e5f) (hts _ m_9c375545) hB hR hS hA (fun vv h9 bc10 bs10 kk10 nn10 H locs hk10 hn10 hq hEh9 hR hS => ?_) (fun XX ax h9 bc10 bs10 kk10 nn10 H locs hk10 hn10 hq hEh9 hex hR hS => ?_)
          · obtain ⟨rfl, hw⟩ := hq
            have hw := hw hEh9
            have hE := hE.tr hEh9
            refine W.eq (g2 := F0 m 84 ls []) rfl ?_
            exact am_Reader_readName_L84 l hfl D A σ MC MS h0 Qr Qt (w_Reader_readName_L43 Qr Qt n9) ih x0 x1 x2 x3 r5 h9 bc10 bs10 hw p e s m args below meth c hC H locs ls (k + kk10) (n + nn10) hE (lv_sub hl [1, 2, 3, 4, 0] rfl) hR hS (by omega) (by omega)
          · exact xb_pass hlocks (fun x hx9 => by rw [htab] at hx9; first | (cases hx9; done) | (simp [tableOf] at hx9; subst hx9; decide) | (simp [tableOf] at hx9; rcases hx9 with rfl | rfl <;> decide) | (simp [tableOf] at hx9; rcases hx9 with rfl | rfl | rfl <;> decide)) (show (k + kk10) + bc10 ≤ MC by omega) (show (n + nn10) + bs10 ≤ MS by omega) (hE.tr hEh9) hR hS hex hq

set_option maxHeartbeats 4000000 in
set_option maxRecDepth 100000 in
theorem am_Reader_readName_L34 (l : Launch) (hfl : l.flags = pinnedFlags ++ [noTraceFlag]) (D : va_G) (A : Nat → Prop) (σ MC MS : Nat) (h0 : xb_H) (Qr : Int32 → xb_H → Nat → Nat → Prop) (Qt : String → xb_H → Nat → Nat → Prop) (x0 : Nat) (x1 : Int32) (h : xb_H) (bc : Nat) (bs : Nat) (hw : w_Reader_readName_L34 Qr Qt x0 x1 h bc bs) : xb_am l D A σ 4 MC MS h0 (fun v h bc bs => ∃ r, v = some (.int r) ∧ Qr r h bc bs) Qt y_Reader_readName.cls y_Reader_readName.name b_Reader_readName 5 ([] : List ExceptionTableEntry) (some .int) 34 [(0, .ref x0), (1, .int x1)] [] h bc bs := by
  unfold w_Reader_readName_L34 at hw
  intro p e s m args below meth c hC H locs ls k n hE hl hR hS hk hn
  obtain ⟨hx, hb, hown, hlocks, htab, hml, hr, hB, hA, hnm⟩ := id hC
  have hts := hB.1.1.at args
  refine lv_aload_n hx hb (xb_d D_Reader_readName 18 rfl) rfl (lv_at hl 0 rfl) ?_
  obtain ⟨hk1, hw⟩ := hw
  refine xb_getI (C := R_Reader) (T := F_Reader) (N := 6) hx hb 3 3 hts fin_Reader hown hR hk1 (by decide) rfl (by decide) rfl (hts _ m_a9b84ac2) (fun _ h9 => h9) (xb_d D_Reader_readName 19 rfl) ?_
  refine lv_iload_n hx hb (xb_d D_Reader_readName 20 rfl) rfl (lv_at hl 1 rfl) ?_
  refine lv_iadd hx hb (xb_d D_Reader_readName 21 rfl) ?_
  obtain ⟨v2, ev2⟩ : ∃ x : Int32, x = ((xb_i h x0 3) + x1) := ⟨_, rfl⟩
  have hw := hw v2 ev2
  refine xt_numi (y := v2) ev2.symm ?_
  refine lv_istore_n hx hb (xb_d D_Reader_readName 22 rfl) rfl hl (by decide) rfl (fun ls hl => ?_)
  have hl : lv_has ls 5 [(2, .int v2), (0, .ref x0), (1, .int x1)] := hl
  refine lv_iconst (v := 0) hx hb (xb_d D_Reader_readName 23 rfl) (by decide) ?_
  refine lv_istore_n hx hb (xb_d D_Reader_readName 24 rfl) rfl hl (by decide) rfl (fun ls hl => ?_)
  have hl : lv_has ls 5 [(3, .int 0), (2, .int v2), (0, .ref x0), (1, .int x1)] := hl
  obtain ⟨n8, hw⟩ := hw
  exact am_Reader_readName_L43 l hfl D A σ MC MS h0 Qr Qt n8 x0 x1 v2 0 h bc bs hw p e s m args below meth c hC H locs ls k n hE (lv_sub hl [2, 3, 1, 0] rfl) hR hS (by omega) (by omega)

set_option maxHeartbeats 4000000 in
set_option maxRecDepth 100000 in
theorem am_Reader_readName_L22 (l : Launch) (hfl : l.flags = pinnedFlags ++ [noTraceFlag]) (D : va_G) (A : Nat → Prop) (σ MC MS : Nat) (h0 : xb_H) (Qr : Int32 → xb_H → Nat → Nat → Prop) (Qt : String → xb_H → Nat → Nat → Prop) (x0 : Nat) (x1 : Int32) (h : xb_H) (bc : Nat) (bs : Nat) (hw : w_Reader_readName_L22 Qr Qt x0 x1 h bc bs) : xb_am l D A σ 4 MC MS h0 (fun v h bc bs => ∃ r, v = some (.int r) ∧ Qr r h bc bs) Qt y_Reader_readName.cls y_Reader_readName.name b_Reader_readName 5 ([] : List ExceptionTableEntry) (some .int) 22 [(0, .ref x0), (1, .int x1)] [] h bc bs := by
  unfold w_Reader_readName_L22 at hw
  intro p e s m args below meth c hC H locs ls k n hE hl hR hS hk hn
  obtain ⟨hx, hb, hown, hlocks, htab, hml, hr, hB, hA, hnm⟩ := id hC
  have hts := hB.1.1.at args
  refine lv_aload_n hx hb (xb_d D_Reader_readName 12 rfl) rfl (lv_at hl 0 rfl) ?_
  obtain ⟨hk1, hw⟩ := hw
  refine xb_getP (C := R_Reader) (T := F_Reader) (N := 6) hx hb 3 0 hts fin_Reader hown hR hk1 (by decide) rfl (by decide) rfl (hts _ m_76d8349c) (fun _ h9 => h9) (xb_d D_Reader_readName 13 rfl) ?_
  obtain ⟨b2, eb2, hw⟩ := hw
  refine xb_some eb2 ?_
  refine lv_iconst (v := 2) hx hb (xb_d D_Reader_readName 14 rfl) (by decide) ?_
  refine lv_aload_n hx hb (xb_d D_Reader_readName 15 rfl) rfl (lv_at hl 0 rfl) ?_
  refine xb_getI (C := R_Reader) (T := F_Reader) (N := 6) hx hb 3 4 hts fin_Reader hown hR hk1 (by decide) rfl (by decide) rfl (hts _ m_49916c4b) (fun _ h9 => h9) (xb_d D_Reader_readName 16 rfl) ?_
  obtain ⟨hk3, hw⟩ := hw
  refine xb_call (D := D) (A := A) (σ := σ) (h := h) (d := 2) (mc := bc) (ms := bs) (maxL := 3) (rest := []) (av := [.ref b2, .int 2, .int (xb_i h x0 4)]) (fun T hT X => by obtain ⟨cb9, ra9, rb9, rc9⟩ := xb_recv (ci := 2) hR rfl hk3 (by decide); exact xt_invV X hx hown (hts _ m_6fcde429) (hts _ m_865d5b07) (hts _ m_113f8f75) (xt_sigOf (hts _ m_73e65e5f)) nm_StackModule_fail (by rw [hT]; exact ra9) rb9 rc9 (g := F0 m 31 ls [.int (xb_i h x0 4), .int 2, .ref b2]) rfl (argsL := [.int 2, .int (xb_i h x0 4)]) (rest := []) rfl rfl (by rw [hb]; exact (xb_d D_Reader_readName 17 rfl))) (ok_StackModule_fail l hfl D A σ b2 2 (xb_i h x0 4) h bc bs _ _ hw) (hml.trans hl.1.symm) (by rw [hb]; exact (xb_d D_Reader_readName 17 rfl)) (Nat.le_of_ble_eq_true rfl) (Nat.le_of_ble_eq_true rfl) (Nat.le_of_ble_eq_true rfl) (show k + bc ≤ MC by omega) (show n + bs ≤ MS by omega) (xt_w1 hB.1 m_73e65e5f) (xt_cdOf hB.1 m_73e65e5f) (hts _ m_9c375545) hB hR hS hA (fun vv h4 bc5 bs5 kk5 nn5 H locs hk5 hn5 hq hEh4 hR hS => ?_) (fun XX ax h4 bc5 bs5 kk5 nn5 H locs hk5 hn5 hq hEh4 hex hR hS => ?_)
  · obtain ⟨rfl, hw⟩ := hq
    have hw := hw hEh4
    have hE := hE.tr hEh4
    refine W.eq (g2 := F0 m 34 ls []) rfl ?_
    exact am_Reader_readName_L34 l hfl D A σ MC MS h0 Qr Qt x0 x1 h4 bc5 bs5 hw p e s m args below meth c hC H locs ls (k + kk5) (n + nn5) hE (lv_sub hl [0, 1] rfl) hR hS (by omega) (by omega)
  · exact xb_pass hlocks (fun x hx9 => by rw [htab] at hx9; first | (cases hx9; done) | (simp [tableOf] at hx9; subst hx9; decide) | (simp [tableOf] at hx9; rcases hx9 with rfl | rfl <;> decide) | (simp [tableOf] at hx9; rcases hx9 with rfl | rfl | rfl <;> decide)) (show (k + kk5) + bc5 ≤ MC by omega) (show (n + nn5) + bs5 ≤ MS by omega) (hE.tr hEh4) hR hS hex hq

set_option maxHeartbeats 4000000 in
set_option maxRecDepth 100000 in
theorem ok_Reader_readName (l : Launch) (hfl : l.flags = pinnedFlags ++ [noTraceFlag]) (D : va_G) (A : Nat → Prop) (σ : Nat) (x0 : Nat) (h : xb_H) (bc : Nat) (bs : Nat) (Qr : Int32 → xb_H → Nat → Nat → Prop) (Qt : String → xb_H → Nat → Nat → Prop) (hw : w_Reader_readName x0 h bc bs Qr Qt) : xb_Met l y_Reader_readName [.code y_Reader_readName b_Reader_readName 5 (some .int)] (xb_rm 4 bc bs) (xb_Pc D A σ h [.ref x0]) (xb_Qc D A h bc bs (fun v h bc bs => ∃ r, v = some (.int r) ∧ Qr r h bc bs) Qt) A := by
  refine xb_ofAm (cc := b_Reader_readName) (by decide) (Nat.le_of_ble_eq_true rfl) ?_
  unfold w_Reader_readName at hw
  show xb_am l D A σ 4 bc bs h (fun v h bc bs => ∃ r, v = some (.int r) ∧ Qr r h bc bs) Qt y_Reader_readName.cls y_Reader_readName.name b_Reader_readName 5 ([] : List ExceptionTableEntry) (some .int) 0 [(0, .ref x0)] [] h bc bs
  obtain ⟨MC, hMC⟩ : ∃ x, x = bc := ⟨_, rfl⟩
  obtain ⟨MS, hMS⟩ : ∃ x, x = bs := ⟨_, rfl⟩
  rw [show xb_am l D A σ 4 bc bs = xb_am l D A σ 4 MC MS by rw [hMC, hMS]]
  obtain ⟨h0, hh0⟩ : ∃ x, x = h := ⟨_, rfl⟩
  rw [show xb_am l D A σ 4 MC MS h = xb_am l D A σ 4 MC MS h0 by rw [hh0]]
  intro p e s m args below meth c hC H locs ls k n hE hl hR hS hk hn
  obtain ⟨hx, hb, hown, hlocks, htab, hml, hr, hB, hA, hnm⟩ := id hC
  have hts := hB.1.1.at args
  refine lv_aload_n hx hb (xb_d D_Reader_readName 0 rfl) rfl (lv_at hl 0 rfl) ?_
  obtain ⟨hk1, hw⟩ := hw
  refine xb_call (D := D) (A := A) (σ := σ) (h := h) (d := 3) (mc := bc) (ms := bs) (maxL := 4) (rest := []) (av := [.ref x0]) (fun T hT X => by obtain ⟨cb9, ra9, rb9, rc9⟩ := xb_recv (ci := 3) hR rfl hk1 (by decide); exact xt_invV X hx hown (hts _ m_2c379b4d) (hts _ m_a120e786) (hts _ m_e903c73e) (xt_sigOf (hts _ m_99690a98)) nm_Reader_count (by rw [hT]; exact ra9) rb9 rc9 (g := F0 m 1 ls [.ref x0]) rfl (argsL := []) (rest := []) rfl rfl (by rw [hb]; exact (xb_d D_Reader_readName 1 rfl))) (ok_Reader_count l hfl D A σ x0 h bc bs _ _ hw) (hml.trans hl.1.symm) (by rw [hb]; exact (xb_d D_Reader_readName 1 rfl)) (Nat.le_of_ble_eq_true rfl) (Nat.le_of_ble_eq_true rfl) (Nat.le_of_ble_eq_true rfl) (show k + bc ≤ MC by omega) (show n + bs ≤ MS by omega) (xt_w1 hB.1 m_99690a98) (xt_cdOf hB.1 m_99690a98) (hts _ m_938fcec4) hB hR hS hA (fun vv h2 bc3 bs3 kk3 nn3 H locs hk3 hn3 hq hEh2 hR hS => ?_) (fun XX ax h2 bc3 bs3 kk3 nn3 H locs hk3 hn3 hq hEh2 hex hR hS => ?_)
  · obtain ⟨r3, rfl, hw⟩ := hq
    have hw := hw hEh2
    have hE := hE.tr hEh2
    refine W.eq (g2 := F0 m 4 ls [.int r3]) rfl ?_
    refine lv_istore_n hx hb (xb_d D_Reader_readName 2 rfl) rfl hl (by decide) rfl (fun ls hl => ?_)
    have hl : lv_has ls 5 [(1, .int r3), (0, .ref x0)] := hl
    refine lv_iload_n hx hb (xb_d D_Reader_readName 3 rfl) rfl (lv_at hl 0 rfl) ?_
    refine lv_if_lt (tgt := 22) hx hb (xb_d D_Reader_readName 4 rfl) rfl (fun hc4 => ?_) (fun hc4 => ?_)
    · have hw := hw.1 hc4
      exact am_Reader_readName_L22 l hfl D A σ MC MS h0 Qr Qt x0 r3 h2 bc3 bs3 hw p e s m args below meth c hC H locs ls (k + kk3) (n + nn3) hE (lv_sub hl [1, 0] rfl) hR hS (by omega) (by omega)
    · have hw := hw.2 hc4
      refine lv_iload_n hx hb (xb_d D_Reader_readName 5 rfl) rfl (lv_at hl 0 rfl) ?_
      refine lv_aload_n hx hb (xb_d D_Reader_readName 6 rfl) rfl (lv_at hl 1 rfl) ?_
      have hk1 : xb_k h2 x0 = 4 := hEh2.k hk1
      refine xb_getI (C := R_Reader) (T := F_Reader) (N := 6) hx hb 3 4 hts fin_Reader hown hR hk1 (by decide) rfl (by decide) rfl (hts _ m_49916c4b) (fun _ h9 => h9) (xb_d D_Reader_readName 7 rfl) ?_
      refine lv_aload_n hx hb (xb_d D_Reader_readName 8 rfl) rfl (lv_at hl 1 rfl) ?_
      refine xb_getI (C := R_Reader) (T := F_Reader) (N := 6) hx hb 3 3 hts fin_Reader hown hR hk1 (by decide) rfl (by decide) rfl (hts _ m_a9b84ac2) (fun _ h9 => h9) (xb_d D_Reader_readName 9 rfl) ?_
      refine lv_isub hx hb (xb_d D_Reader_readName 10 rfl) ?_
      refine lv_icmp_le (tgt := 34) hx hb (xb_d D_Reader_readName 11 rfl) rfl (fun hc5 => ?_) (fun hc5 => ?_)
      · have hw := hw.1 hc5
        exact am_Reader_readName_L34 l hfl D A σ MC MS h0 Qr Qt x0 r3 h2 bc3 bs3 hw p e s m args below meth c hC H locs ls (k + kk3) (n + nn3) hE (lv_sub hl [1, 0] rfl) hR hS (by omega) (by omega)
      · have hw := hw.2 hc5
        exact am_Reader_readName_L22 l hfl D A σ MC MS h0 Qr Qt x0 r3 h2 bc3 bs3 hw p e s m args below meth c hC H locs ls (k + kk3) (n + nn3) hE (lv_sub hl [1, 0] rfl) hR hS (by omega) (by omega)
  · exact xb_pass hlocks (fun x hx9 => by rw [htab] at hx9; first | (cases hx9; done) | (simp [tableOf] at hx9; subst hx9; decide) | (simp [tableOf] at hx9; rcases hx9 with rfl | rfl <;> decide) | (simp [tableOf] at hx9; rcases hx9 with rfl | rfl | rfl <;> decide)) (show (k + kk3) + bc3 ≤ MC by omega) (show (n + nn3) + bs3 ≤ MS by omega) (hE.tr hEh2) hR hS hex hq

theorem m_bc6f1cef : (.methodLink "StackHost$Reader" 134 y_Reader_readMark : Cond) ∈ xt_tbl := xt_in (xt_t3 (List.mem_of_getElem? (i := 208) (by decide +kernel))) (by decide +kernel)
theorem m_6ae404a7 : (.instanceMethod y_Reader_readMark : Cond) ∈ xt_tbl := xt_in (xt_t3 (List.mem_of_getElem? (i := 210) (by decide +kernel))) (by decide +kernel)
theorem m_7b6b2ffe : (.selects "StackHost$Reader" y_Reader_readMark y_Reader_readMark : Cond) ∈ xt_tbl := xt_in (xt_v1 (q := (⟨"StackHost$Reader", "readMark", "(I)V"⟩, 6)) (List.mem_of_getElem? (i := 9) (by decide +kernel))) (by decide +kernel)
theorem m_e431c1f6 : (.code y_Reader_readMark b_Reader_readMark 2 none : Cond) ∈ xt_tbl := xt_in (xt_t3 (List.mem_of_getElem? (i := 211) (by decide +kernel))) (by decide +kernel)
theorem m_903bb93e : (.methodLink "StackHost$Reader" 205 y_Reader_signed : Cond) ∈ xt_tbl := xt_in (xt_t4 (List.mem_of_getElem? (i := 50) (by decide +kernel))) (by decide +kernel)
theorem m_1631781f : (.instanceMethod y_Reader_signed : Cond) ∈ xt_tbl := xt_in (xt_t4 (List.mem_of_getElem? (i := 52) (by decide +kernel))) (by decide +kernel)
theorem m_ad7ad53c : (.selects "StackHost$Reader" y_Reader_signed y_Reader_signed : Cond) ∈ xt_tbl := xt_in (xt_v2 (q := (⟨"StackHost$Reader", "signed", "(I)J"⟩, 6)) (List.mem_of_getElem? (i := 8) (by decide +kernel))) (by decide +kernel)
theorem m_7e8e77b8 : (.code y_Reader_signed b_Reader_signed 7 (some .long) : Cond) ∈ xt_tbl := xt_in (xt_t4 (List.mem_of_getElem? (i := 53) (by decide +kernel))) (by decide +kernel)
theorem m_dc270ec6 : (.methodLink "StackHost$Reader" 209 y_Reader_noteLong : Cond) ∈ xt_tbl := xt_in (xt_t4 (List.mem_of_getElem? (i := 57) (by decide +kernel))) (by decide +kernel)
theorem m_c7891398 : (.instanceMethod y_Reader_noteLong : Cond) ∈ xt_tbl := xt_in (xt_t4 (List.mem_of_getElem? (i := 59) (by decide +kernel))) (by decide +kernel)
theorem m_c987b880 : (.selects "StackHost$Reader" y_Reader_noteLong y_Reader_noteLong : Cond) ∈ xt_tbl := xt_in (xt_v2 (q := (⟨"StackHost$Reader", "noteLong", "(IJ)V"⟩, 6)) (List.mem_of_getElem? (i := 9) (by decide +kernel))) (by decide +kernel)
theorem m_3ca9c0e1 : (.code y_Reader_noteLong b_Reader_noteLong 4 none : Cond) ∈ xt_tbl := xt_in (xt_t4 (List.mem_of_getElem? (i := 60) (by decide +kernel))) (by decide +kernel)
theorem m_a14af40f : (.methodLink "StackHost$Reader" 213 y_Reader_plainBytes : Cond) ∈ xt_tbl := xt_in (xt_t4 (List.mem_of_getElem? (i := 61) (by decide +kernel))) (by decide +kernel)
theorem m_558b41ae : (.instanceMethod y_Reader_plainBytes : Cond) ∈ xt_tbl := xt_in (xt_t4 (List.mem_of_getElem? (i := 63) (by decide +kernel))) (by decide +kernel)
theorem m_a62fdb5c : (.selects "StackHost$Reader" y_Reader_plainBytes y_Reader_plainBytes : Cond) ∈ xt_tbl := xt_in (xt_v2 (q := (⟨"StackHost$Reader", "plainBytes", "(I)J"⟩, 6)) (List.mem_of_getElem? (i := 10) (by decide +kernel))) (by decide +kernel)
theorem m_43b45542 : (.code y_Reader_plainBytes b_Reader_plainBytes 5 (some .long) : Cond) ∈ xt_tbl := xt_in (xt_t4 (List.mem_of_getElem? (i := 64) (by decide +kernel))) (by decide +kernel)
theorem nm_Reader_readMark : xt_nm y_Reader_readMark 1 := ⟨by decide +kernel, by decide +kernel⟩
theorem nm_Reader_signed : xt_nm y_Reader_signed 1 := ⟨by decide +kernel, by decide +kernel⟩
theorem nm_Reader_noteLong : xt_nm y_Reader_noteLong 2 := ⟨by decide +kernel, by decide +kernel⟩
theorem nm_Reader_plainBytes : xt_nm y_Reader_plainBytes 1 := ⟨by decide +kernel, by decide +kernel⟩
set_option maxRecDepth 100000 in
def T_Reader_readOperands : List (Nat × Instr × Nat) := [(0, .iload_n 1, 1), (1, .tableswitch 183 4 12 #[51, 183, 66, 86, 113, 121, 138, 152, 169], 51), (52, .aload_n 0, 1), (53, .getfield 29, 3), (56, .iload_n 2, 1), (57, .iconst 1, 1), (58, .iadd, 1), (59, .aload_n 0, 1), (60, .invokevirtual 70, 3), (63, .iastore, 1), (64, .goto 129, 3), (67, .aload_n 0, 1), (68, .getfield 29, 3), (71, .iload_n 2, 1), (72, .iconst 1, 1), (73, .iadd, 1), (74, .aload_n 0, 1), (75, .invokevirtual 70, 3), (78, .iastore, 1), (79, .aload_n 0, 1), (80, .iconst 0, 1), (81, .invokevirtual 134, 3), (84, .goto 109, 3), (87, .aload_n 0, 1), (88, .getfield 29, 3), (91, .iload_n 2, 1), (92, .iconst 1, 1), (93, .iadd, 1), (94, .aload_n 0, 1), (95, .invokevirtual 70, 3), (98, .iastore, 1), (99, .aload_n 0, 1), (100, .getfield 29, 3), (103, .iload_n 2, 1), (104, .iconst 2, 1), (105, .iadd, 1), (106, .aload_n 0, 1), (107, .invokevirtual 70, 3), (110, .iastore, 1), (111, .goto 82, 3), (114, .aload_n 0, 1), (115, .iconst 0, 1), (116, .invokevirtual 134, 3), (119, .goto 74, 3), (122, .aload_n 0, 1), (123, .getfield 29, 3), (126, .iload_n 2, 1), (127, .iconst 1, 1), (128, .iadd, 1), (129, .aload_n 0, 1), (130, .iconst 5, 1), (131, .invokevirtual 205, 3), (134, .l2i, 1), (135, .iastore, 1), (136, .goto 57, 3), (139, .aload_n 0, 1), (140, .iload_n 2, 1), (141, .aload_n 0, 1), (142, .bipush 10, 2), (144, .invokevirtual 205, 3), (147, .invokevirtual 209, 3), (150, .goto 43, 3), (153, .aload_n 0, 1), (154, .getfield 29, 3), (157, .iload_n 2, 1), (158, .iconst 1, 1), (159, .iadd, 1), (160, .aload_n 0, 1), (161, .iconst 4, 1), (162, .invokevirtual 213, 3), (165, .l2i, 1), (166, .iastore, 1), (167, .goto 26, 3), (170, .aload_n 0, 1), (171, .iload_n 2, 1), (172, .aload_n 0, 1), (173, .bipush 8, 2), (175, .invokevirtual 213, 3), (178, .invokevirtual 209, 3), (181, .goto 12, 3), (184, .aload_n 0, 1), (185, .getfield 15, 3), (188, .iconst 5, 1), (189, .iload_n 2, 1), (190, .invokevirtual 37, 3), (193, .aload_n 0, 1), (194, .getfield 29, 3), (197, .iload_n 2, 1), (198, .aload_n 0, 1), (199, .getfield 41, 3), (202, .iastore, 1), (203, .return_, 1)]
theorem D_Reader_readOperands : ∀ q ∈ T_Reader_readOperands, decode b_Reader_readOperands q.1 = .ok (q.2.1, q.2.2) := by decide +kernel

set_option maxHeartbeats 4000000 in
set_option maxRecDepth 100000 in
theorem am_Reader_readOperands_L193 (l : Launch) (hfl : l.flags = pinnedFlags ++ [noTraceFlag]) (D : va_G) (A : Nat → Prop) (σ MC MS : Nat) (h0 : xb_H) (Qr : xb_H → Nat → Nat → Prop) (Qt : String → xb_H → Nat → Nat → Prop) (x0 : Nat) (x2 : Int32) (h : xb_H) (bc : Nat) (bs : Nat) (hw : w_Reader_readOperands_L193 Qr Qt x0 x2 h bc bs) : xb_am l D A σ 4 MC MS h0 (fun v h bc bs => v = none ∧ Qr h bc bs) Qt y_Reader_readOperands.cls y_Reader_readOperands.name b_Reader_readOperands 3 ([] : List ExceptionTableEntry) none 193 [(0, .ref x0), (2, .int x2)] [] h bc bs := by
  unfold w_Reader_readOperands_L193 at hw
  intro p e s m args below meth c hC H locs ls k n hE hl hR hS hk hn
  obtain ⟨hx, hb, hown, hlocks, htab, hml, hr, hB, hA, hnm⟩ := id hC
  have hts := hB.1.1.at args
  refine lv_aload_n hx hb (xb_d D_Reader_readOperands 85 rfl) rfl (lv_at hl 0 rfl) ?_
  obtain ⟨hk1, hw⟩ := hw
  refine xb_getP (C := R_Reader) (T := F_Reader) (N := 6) hx hb 3 2 hts fin_Reader hown hR hk1 (by decide) rfl (by decide) rfl (hts _ m_5660bdee) (fun _ h9 => h9) (xb_d D_Reader_readOperands 86 rfl) ?_
  obtain ⟨b2, eb2, hw⟩ := hw
  refine xb_some eb2 ?_
  refine lv_iload_n hx hb (xb_d D_Reader_readOperands 87 rfl) rfl (lv_at hl 1 rfl) ?_
  refine lv_aload_n hx hb (xb_d D_Reader_readOperands 88 rfl) rfl (lv_at hl 0 rfl) ?_
  refine xb_getI (C := R_Reader) (T := F_Reader) (N := 6) hx hb 3 3 hts fin_Reader hown hR hk1 (by decide) rfl (by decide) rfl (hts _ m_a9b84ac2) (fun _ h9 => h9) (xb_d D_Reader_readOperands 89 rfl) ?_
  obtain ⟨hk3, hw⟩ := hw
  obtain ⟨hi4, hw⟩ := hw
  refine xb_iast hx hb hR hS hk3 hi4 (xb_d D_Reader_readOperands 90 rfl) (fun H locs hR hS => ?_)
  obtain ⟨h5, eh5⟩ : ∃ x : xb_H, x = xb_I h b2 (Int32.toNatClampNeg x2) (xb_i h x0 3) := ⟨_, rfl⟩
  rw [← eh5] at hR
  have hw := hw h5 eh5
  have hE : xb_ext h0 h5 := by rw [eh5]; exact hE
  exact xb_vret bc bs hx hb hr hlocks (show k + bc ≤ MC by omega) (show n + bs ≤ MS by omega) hE hR hS (xb_d D_Reader_readOperands 91 rfl) hw

set_option maxHeartbeats 4000000 in
set_option maxRecDepth 100000 in
theorem am_Reader_readOperands_L184 (l : Launch) (hfl : l.flags = pinnedFlags ++ [noTraceFlag]) (D : va_G) (A : Nat → Prop) (σ MC MS : Nat) (h0 : xb_H) (Qr : xb_H → Nat → Nat → Prop) (Qt : String → xb_H → Nat → Nat → Prop) (x0 : Nat) (x2 : Int32) (h : xb_H) (bc : Nat) (bs : Nat) (hw : w_Reader_readOperands_L184 Qr Qt x0 x2 h bc bs) : xb_am l D A σ 4 MC MS h0 (fun v h bc bs => v = none ∧ Qr h bc bs) Qt y_Reader_readOperands.cls y_Reader_readOperands.name b_Reader_readOperands 3 ([] : List ExceptionTableEntry) none 184 [(0, .ref x0), (2, .int x2)] [] h bc bs := by
  unfold w_Reader_readOperands_L184 at hw
  intro p e s m args below meth c hC H locs ls k n hE hl hR hS hk hn
  obtain ⟨hx, hb, hown, hlocks, htab, hml, hr, hB, hA, hnm⟩ := id hC
  have hts := hB.1.1.at args
  refine lv_aload_n hx hb (xb_d D_Reader_readOperands 80 rfl) rfl (lv_at hl 0 rfl) ?_
  obtain ⟨hk1, hw⟩ := hw
  refine xb_getP (C := R_Reader) (T := F_Reader) (N := 6) hx hb 3 0 hts fin_Reader hown hR hk1 (by decide) rfl (by decide) rfl (hts _ m_76d8349c) (fun _ h9 => h9) (xb_d D_Reader_readOperands 81 rfl) ?_
  obtain ⟨b2, eb2, hw⟩ := hw
  refine xb_some eb2 ?_
  refine lv_iconst (v := 5) hx hb (xb_d D_Reader_readOperands 82 rfl) (by decide) ?_
  refine lv_iload_n hx hb (xb_d D_Reader_readOperands 83 rfl) rfl (lv_at hl 1 rfl) ?_
  obtain ⟨hk3, hw⟩ := hw
  refine xb_call (D := D) (A := A) (σ := σ) (h := h) (d := 2) (mc := bc) (ms := bs) (maxL := 3) (rest := []) (av := [.ref b2, .int 5, .int x2]) (fun T hT X => by obtain ⟨cb9, ra9, rb9, rc9⟩ := xb_recv (ci := 2) hR rfl hk3 (by decide); exact xt_invV X hx hown (hts _ m_6fcde429) (hts _ m_865d5b07) (hts _ m_113f8f75) (xt_sigOf (hts _ m_73e65e5f)) nm_StackModule_fail (by rw [hT]; exact ra9) rb9 rc9 (g := F0 m 190 ls [.int x2, .int 5, .ref b2]) rfl (argsL := [.int 5, .int x2]) (rest := []) rfl rfl (by rw [hb]; exact (xb_d D_Reader_readOperands 84 rfl))) (ok_StackModule_fail l hfl D A σ b2 5 x2 h bc bs _ _ hw) (hml.trans hl.1.symm) (by rw [hb]; exact (xb_d D_Reader_readOperands 84 rfl)) (Nat.le_of_ble_eq_true rfl) (Nat.le_of_ble_eq_true rfl) (Nat.le_of_ble_eq_true rfl) (show k + bc ≤ MC by omega) (show n + bs ≤ MS by omega) (xt_w1 hB.1 m_73e65e5f) (xt_cdOf hB.1 m_73e65e5f) (hts _ m_9c375545) hB hR hS hA (fun vv h4 bc5 bs5 kk5 nn5 H locs hk5 hn5 hq hEh4 hR hS => ?_) (fun XX ax h4 bc5 bs5 kk5 nn5 H locs hk5 hn5 hq hEh4 hex hR hS => ?_)
  · obtain ⟨rfl, hw⟩ := hq
    have hw := hw hEh4
    have hE := hE.tr hEh4
    refine W.eq (g2 := F0 m 193 ls []) rfl ?_
    exact am_Reader_readOperands_L193 l hfl D A σ MC MS h0 Qr Qt x0 x2 h4 bc5 bs5 hw p e s m args below meth c hC H locs ls (k + kk5) (n + nn5) hE (lv_sub hl [0, 1] rfl) hR hS (by omega) (by omega)
  · exact xb_pass hlocks (fun x hx9 => by rw [htab] at hx9; first | (cases hx9; done) | (simp [tableOf] at hx9; subst hx9; decide) | (simp [tableOf] at hx9; rcases hx9 with rfl | rfl <;> decide) | (simp [tableOf] at hx9; rcases hx9 with rfl | rfl | rfl <;> decide)) (show (k + kk5) + bc5 ≤ MC by omega) (show (n + nn5) + bs5 ≤ MS by omega) (hE.tr hEh4) hR hS hex hq

set_option maxHeartbeats 4000000 in
set_option maxRecDepth 100000 in
theorem ok_Reader_readOperands (l : Launch) (hfl : l.flags = pinnedFlags ++ [noTraceFlag]) (D : va_G) (A : Nat → Prop) (σ : Nat) (x0 : Nat) (x1 : Int32) (x2 : Int32) (h : xb_H) (bc : Nat) (bs : Nat) (Qr : xb_H → Nat → Nat → Prop) (Qt : String → xb_H → Nat → Nat → Prop) (hw : w_Reader_readOperands x0 x1 x2 h bc bs Qr Qt) : xb_Met l y_Reader_readOperands [.code y_Reader_readOperands b_Reader_readOperands 3 none] (xb_rm 4 bc bs) (xb_Pc D A σ h [.ref x0, .int x1, .int x2]) (xb_Qc D A h bc bs (fun v h bc bs => v = none ∧ Qr h bc bs) Qt) A := by
  refine xb_ofAm (cc := b_Reader_readOperands) (by decide) (Nat.le_of_ble_eq_true rfl) ?_
  unfold w_Reader_readOperands at hw
  show xb_am l D A σ 4 bc bs h (fun v h bc bs => v = none ∧ Qr h bc bs) Qt y_Reader_readOperands.cls y_Reader_readOperands.name b_Reader_readOperands 3 ([] : List ExceptionTableEntry) none 0 [(0, .ref x0), (1, .int x1), (2, .int x2)] [] h bc bs
  obtain ⟨MC, hMC⟩ : ∃ x, x = bc := ⟨_, rfl⟩
  obtain ⟨MS, hMS⟩ : ∃ x, x = bs := ⟨_, rfl⟩
  rw [show xb_am l D A σ 4 bc bs = xb_am l D A σ 4 MC MS by rw [hMC, hMS]]
  obtain ⟨h0, hh0⟩ : ∃ x, x = h := ⟨_, rfl⟩
  rw [show xb_am l D A σ 4 MC MS h = xb_am l D A σ 4 MC MS h0 by rw [hh0]]
  intro p e s m args below meth c hC H locs ls k n hE hl hR hS hk hn
  obtain ⟨hx, hb, hown, hlocks, htab, hml, hr, hB, hA, hnm⟩ := id hC
  have hts := hB.1.1.at args
  refine lv_iload_n hx hb (xb_d D_Reader_readOperands 0 rfl) rfl (lv_at hl 1 rfl) ?_
  by_cases hc1 : x1 = 4
  · have hw := hw.1 hc1
    refine xt_numi hc1 ?_
    refine lv_tableIn (off := 51) (tgt := 52) hx hb (xb_d D_Reader_readOperands 1 rfl) (by decide +kernel) (by decide +kernel) (by decide +kernel) (by decide) ?_
    refine lv_aload_n hx hb (xb_d D_Reader_readOperands 2 rfl) rfl (lv_at hl 0 rfl) ?_
    obtain ⟨hk2, hw⟩ := hw
    refine xb_getP (C := R_Reader) (T := F_Reader) (N := 6) hx hb 3 2 hts fin_Reader hown hR hk2 (by decide) rfl (by decide) rfl (hts _ m_5660bdee) (fun _ h9 => h9) (xb_d D_Reader_readOperands 3 rfl) ?_
    obtain ⟨b3, eb3, hw⟩ := hw
    refine xb_some eb3 ?_
    refine lv_iload_n hx hb (xb_d D_Reader_readOperands 4 rfl) rfl (lv_at hl 2 rfl) ?_
    refine lv_iconst (v := 1) hx hb (xb_d D_Reader_readOperands 5 rfl) (by decide) ?_
    refine lv_iadd hx hb (xb_d D_Reader_readOperands 6 rfl) ?_
    refine lv_aload_n hx hb (xb_d D_Reader_readOperands 7 rfl) rfl (lv_at hl 0 rfl) ?_
    refine xb_call (D := D) (A := A) (σ := σ) (h := h) (d := 3) (mc := bc) (ms := bs) (maxL := 4) (rest := [.int (x2 + 1), .ref b3]) (av := [.ref x0]) (fun T hT X => by obtain ⟨cb9, ra9, rb9, rc9⟩ := xb_recv (ci := 3) hR rfl hk2 (by decide); exact xt_invV X hx hown (hts _ m_2c379b4d) (hts _ m_a120e786) (hts _ m_e903c73e) (xt_sigOf (hts _ m_99690a98)) nm_Reader_count (by rw [hT]; exact ra9) rb9 rc9 (g := F0 m 60 ls [.ref x0, .int (x2 + 1), .ref b3]) rfl (argsL := []) (rest := [.int (x2 + 1), .ref b3]) rfl rfl (by rw [hb]; exact (xb_d D_Reader_readOperands 8 rfl))) (ok_Reader_count l hfl D A σ x0 h bc bs _ _ hw) (hml.trans hl.1.symm) (by rw [hb]; exact (xb_d D_Reader_readOperands 8 rfl)) (Nat.le_of_ble_eq_true rfl) (Nat.le_of_ble_eq_true rfl) (Nat.le_of_ble_eq_true rfl) (show k + bc ≤ MC by omega) (show n + bs ≤ MS by omega) (xt_w1 hB.1 m_99690a98) (xt_cdOf hB.1 m_99690a98) (hts _ m_938fcec4) hB hR hS hA (fun vv h4 bc5 bs5 kk5 nn5 H locs hk5 hn5 hq hEh4 hR hS => ?_) (fun XX ax h4 bc5 bs5 kk5 nn5 H locs hk5 hn5 hq hEh4 hex hR hS => ?_)
    · obtain ⟨r5, rfl, hw⟩ := hq
      have hw := hw hEh4
      have hE := hE.tr hEh4
      refine W.eq (g2 := F0 m 63 ls [.int r5, .int (x2 + 1), .ref b3]) rfl ?_
      obtain ⟨hk6, hw⟩ := hw
      obtain ⟨hi7, hw⟩ := hw
      refine xb_iast hx hb hR hS hk6 hi7 (xb_d D_Reader_readOperands 9 rfl) (fun H locs hR hS => ?_)
      obtain ⟨h8, eh8⟩ : ∃ x : xb_H, x = xb_I h4 b3 (Int32.toNatClampNeg (x2 + 1)) r5 := ⟨_, rfl⟩
      rw [← eh8] at hR
      have hw := hw h8 eh8
      have hE : xb_ext h0 h8 := by rw [eh8]; exact hE
      refine lv_goto (tgt := 193) hx hb (xb_d D_Reader_readOperands 10 rfl) rfl ?_
      exact am_Reader_readOperands_L193 l hfl D A σ MC MS h0 Qr Qt x0 x2 h8 bc5 bs5 hw p e s m args below meth c hC H locs ls (k + kk5) (n + nn5) hE (lv_sub hl [0, 2] rfl) hR hS (by omega) (by omega)
    · exact xb_pass hlocks (fun x hx9 => by rw [htab] at hx9; first | (cases hx9; done) | (simp [tableOf] at hx9; subst hx9; decide) | (simp [tableOf] at hx9; rcases hx9 with rfl | rfl <;> decide) | (simp [tableOf] at hx9; rcases hx9 with rfl | rfl | rfl <;> decide)) (show (k + kk5) + bc5 ≤ MC by omega) (show (n + nn5) + bs5 ≤ MS by omega) (hE.tr hEh4) hR hS hex hq
  have hw := hw.2
  by_cases hc9 : x1 = 5
  · have hw := hw.1 hc9
    refine xt_numi hc9 ?_
    refine lv_tableIn (off := 183) (tgt := 184) hx hb (xb_d D_Reader_readOperands 1 rfl) (by decide +kernel) (by decide +kernel) (by decide +kernel) (by decide) ?_
    exact am_Reader_readOperands_L184 l hfl D A σ MC MS h0 Qr Qt x0 x2 h bc bs hw p e s m args below meth c hC H locs ls k n hE (lv_sub hl [0, 2] rfl) hR hS (by omega) (by omega)
  have hw := hw.2
  by_cases hc10 : x1 = 6
  · have hw := hw.1 hc10
    refine xt_numi hc10 ?_
    refine lv_tableIn (off := 66) (tgt := 67) hx hb (xb_d D_Reader_readOperands 1 rfl) (by decide +kernel) (by decide +kernel) (by decide +kernel) (by decide) ?_
    refine lv_aload_n hx hb (xb_d D_Reader_readOperands 11 rfl) rfl (lv_at hl 0 rfl) ?_
    obtain ⟨hk11, hw⟩ := hw
    refine xb_getP (C := R_Reader) (T := F_Reader) (N := 6) hx hb 3 2 hts fin_Reader hown hR hk11 (by decide) rfl (by decide) rfl (hts _ m_5660bdee) (fun _ h9 => h9) (xb_d D_Reader_readOperands 12 rfl) ?_
    obtain ⟨b12, eb12, hw⟩ := hw
    refine xb_some eb12 ?_
    refine lv_iload_n hx hb (xb_d D_Reader_readOperands 13 rfl) rfl (lv_at hl 2 rfl) ?_
    refine lv_iconst (v := 1) hx hb (xb_d D_Reader_readOperands 14 rfl) (by decide) ?_
    refine lv_iadd hx hb (xb_d D_Reader_readOperands 15 rfl) ?_
    refine lv_aload_n hx hb (xb_d D_Reader_readOperands 16 rfl) rfl (lv_at hl 0 rfl) ?_
    refine xb_call (D := D) (A := A) (σ := σ) (h := h) (d := 3) (mc := bc) (ms := bs) (maxL := 4) (rest := [.int (x2 + 1), .ref b12]) (av := [.ref x0]) (fun T hT X => by obtain ⟨cb9, ra9, rb9, rc9⟩ := xb_recv (ci := 3) hR rfl hk11 (by decide); exact xt_invV X hx hown (hts _ m_2c379b4d) (hts _ m_a120e786) (hts _ m_e903c73e) (xt_sigOf (hts _ m_99690a98)) nm_Reader_count (by rw [hT]; exact ra9) rb9 rc9 (g := F0 m 75 ls [.ref x0, .int (x2 + 1), .ref b12]) rfl (argsL := []) (rest := [.int (x2 + 1), .ref b12]) rfl rfl (by rw [hb]; exact (xb_d D_Reader_readOperands 17 rfl))) (ok_Reader_count l hfl D A σ x0 h bc bs _ _ hw) (hml.trans hl.1.symm) (by rw [hb]; exact (xb_d D_Reader_readOperands 17 rfl)) (Nat.le_of_ble_eq_true rfl) (Nat.le_of_ble_eq_true rfl) (Nat.le_of_ble_eq_true rfl) (show k + bc ≤ MC by omega) (show n + bs ≤ MS by omega) (xt_w1 hB.1 m_99690a98) (xt_cdOf hB.1 m_99690a98) (hts _ m_938fcec4) hB hR hS hA (fun vv h13 bc14 bs14 kk14 nn14 H locs hk14 hn14 hq hEh13 hR hS => ?_) (fun XX ax h13 bc14 bs14 kk14 nn14 H locs hk14 hn14 hq hEh13 hex hR hS => ?_)
    · obtain ⟨r14, rfl, hw⟩ := hq
      have hw := hw hEh13
      have hE := hE.tr hEh13
      refine W.eq (g2 := F0 m 78 ls [.int r14, .int (x2 + 1), .ref b12]) rfl ?_
      obtain ⟨hk15, hw⟩ := hw
      obtain ⟨hi16, hw⟩ := hw
      refine xb_iast hx hb hR hS hk15 hi16 (xb_d D_Reader_readOperands 18 rfl) (fun H locs hR hS => ?_)
      obtain ⟨h17, eh17⟩ : ∃ x : xb_H, x = xb_I h13 b12 (Int32.toNatClampNeg (x2 + 1)) r14 := ⟨_, rfl⟩
      rw [← eh17] at hR
      have hw := hw h17 eh17
      have hE : xb_ext h0 h17 := by rw [eh17]; exact hE
      refine lv_aload_n hx hb (xb_d D_Reader_readOperands 19 rfl) rfl (lv_at hl 0 rfl) ?_
      refine lv_iconst (v := 0) hx hb (xb_d D_Reader_readOperands 20 rfl) (by decide) ?_
      have hk11 : xb_k h13 x0 = 4 := hEh13.k hk11
      have hk11 : xb_k h17 x0 = 4 := by rw [eh17]; exact hk11
      refine xb_call (D := D) (A := A) (σ := σ) (h := h17) (d := 3) (mc := bc14) (ms := bs14) (maxL := 2) (rest := []) (av := [.ref x0, .int 0]) (fun T hT X => by obtain ⟨cb9, ra9, rb9, rc9⟩ := xb_recv (ci := 3) hR rfl hk11 (by decide); exact xt_invV X hx hown (hts _ m_bc6f1cef) (hts _ m_6ae404a7) (hts _ m_7b6b2ffe) (xt_sigOf (hts _ m_e431c1f6)) nm_Reader_readMark (by rw [hT]; exact ra9) rb9 rc9 (g := F0 m 81 ls [.int 0, .ref x0]) rfl (argsL := [.int 0]) (rest := []) rfl rfl (by rw [hb]; exact (xb_d D_Reader_readOperands 21 rfl))) (ok_Reader_readMark l hfl D A σ x0 0 h17 bc14 bs14 _ _ hw) (hml.trans hl.1.symm) (by rw [hb]; exact (xb_d D_Reader_readOperands 21 rfl)) (Nat.le_of_ble_eq_true rfl) (Nat.le_of_ble_eq_true rfl) (Nat.le_of_ble_eq_true rfl) (show (k + kk14) + bc14 ≤ MC by omega) (show (n + nn14) + bs14 ≤ MS by omega) (xt_w1 hB.1 m_e431c1f6) (xt_cdOf hB.1 m_e431c1f6) (hts _ m_938fcec4) hB hR hS hA (fun vv h18 bc19 bs19 kk19 nn19 H locs hk19 hn19 hq hEh18 hR hS => ?_) (fun XX ax h18 bc19 bs19 kk19 nn19 H locs hk19 hn19 hq hEh18 hex hR hS => ?_)
      · obtain ⟨rfl, hw⟩ := hq
        have hw := hw hEh18
        have hE := hE.tr hEh18
        refine W.eq (g2 := F0 m 84 ls []) rfl ?_
        refine lv_goto (tgt := 193) hx hb (xb_d D_Reader_readOperands 22 rfl) rfl ?_
        exact am_Reader_readOperands_L193 l hfl D A σ MC MS h0 Qr Qt x0 x2 h18 bc19 bs19 hw p e s m args below meth c hC H locs ls ((k + kk14) + kk19) ((n + nn14) + nn19) hE (lv_sub hl [0, 2] rfl) hR hS (by omega) (by omega)
      · exact xb_pass hlocks (fun x hx9 => by rw [htab] at hx9; first | (cases hx9; done) | (simp [tableOf] at hx9; subst hx9; decide) | (simp [tableOf] at hx9; rcases hx9 with rfl | rfl <;> decide) | (simp [tableOf] at hx9; rcases hx9 with rfl | rfl | rfl <;> decide)) (show ((k + kk14) + kk19) + bc19 ≤ MC by omega) (show ((n + nn14) + nn19) + bs19 ≤ MS by omega) (hE.tr hEh18) hR hS hex hq
    · exact xb_pass hlocks (fun x hx9 => by rw [htab] at hx9; first | (cases hx9; done) | (simp [tableOf] at hx9; subst hx9; decide) | (simp [tableOf] at hx9; rcases hx9 with rfl | rfl <;> decide) | (simp [tableOf] at hx9; rcases hx9 with rfl | rfl | rfl <;> decide)) (show (k + kk14) + bc14 ≤ MC by omega) (show (n + nn14) + bs14 ≤ MS by omega) (hE.tr hEh13) hR hS hex hq
  have hw := hw.2
  by_cases hc20 : x1 = 7
  · have hw := hw.1 hc20
    refine xt_numi hc20 ?_
    refine lv_tableIn (off := 86) (tgt := 87) hx hb (xb_d D_Reader_readOperands 1 rfl) (by decide +kernel) (by decide +kernel) (by decide +kernel) (by decide) ?_
    refine lv_aload_n hx hb (xb_d D_Reader_readOperands 23 rfl) rfl (lv_at hl 0 rfl) ?_
    obtain ⟨hk21, hw⟩ := hw
    refine xb_getP (C := R_Reader) (T := F_Reader) (N := 6) hx hb 3 2 hts fin_Reader hown hR hk21 (by decide) rfl (by decide) rfl (hts _ m_5660bdee) (fun _ h9 => h9) (xb_d D_Reader_readOperands 24 rfl) ?_
    obtain ⟨b22, eb22, hw⟩ := hw
    refine xb_some eb22 ?_
    refine lv_iload_n hx hb (xb_d D_Reader_readOperands 25 rfl) rfl (lv_at hl 2 rfl) ?_
    refine lv_iconst (v := 1) hx hb (xb_d D_Reader_readOperands 26 rfl) (by decide) ?_
    refine lv_iadd hx hb (xb_d D_Reader_readOperands 27 rfl) ?_
    refine lv_aload_n hx hb (xb_d D_Reader_readOperands 28 rfl) rfl (lv_at hl 0 rfl) ?_
    refine xb_call (D := D) (A := A) (σ := σ) (h := h) (d := 3) (mc := bc) (ms := bs) (maxL := 4) (rest := [.int (x2 + 1), .ref b22]) (av := [.ref x0]) (fun T hT X => by obtain ⟨cb9, ra9, rb9, rc9⟩ := xb_recv (ci := 3) hR rfl hk21 (by decide); exact xt_invV X hx hown (hts _ m_2c379b4d) (hts _ m_a120e786) (hts _ m_e903c73e) (xt_sigOf (hts _ m_99690a98)) nm_Reader_count (by rw [hT]; exact ra9) rb9 rc9 (g := F0 m 95 ls [.ref x0, .int (x2 + 1), .ref b22]) rfl (argsL := []) (rest := [.int (x2 + 1), .ref b22]) rfl rfl (by rw [hb]; exact (xb_d D_Reader_readOperands 29 rfl))) (ok_Reader_count l hfl D A σ x0 h bc bs _ _ hw) (hml.trans hl.1.symm) (by rw [hb]; exact (xb_d D_Reader_readOperands 29 rfl)) (Nat.le_of_ble_eq_true rfl) (Nat.le_of_ble_eq_true rfl) (Nat.le_of_ble_eq_true rfl) (show k + bc ≤ MC by omega) (show n + bs ≤ MS by omega) (xt_w1 hB.1 m_99690a98) (xt_cdOf hB.1 m_99690a98) (hts _ m_938fcec4) hB hR hS hA (fun vv h23 bc24 bs24 kk24 nn24 H locs hk24 hn24 hq hEh23 hR hS => ?_) (fun XX ax h23 bc24 bs24 kk24 nn24 H locs hk24 hn24 hq hEh23 hex hR hS => ?_)
    · obtain ⟨r24, rfl, hw⟩ := hq
      have hw := hw hEh23
      have hE := hE.tr hEh23
      refine W.eq (g2 := F0 m 98 ls [.int r24, .int (x2 + 1), .ref b22]) rfl ?_
      obtain ⟨hk25, hw⟩ := hw
      obtain ⟨hi26, hw⟩ := hw
      refine xb_iast hx hb hR hS hk25 hi26 (xb_d D_Reader_readOperands 30 rfl) (fun H locs hR hS => ?_)
      obtain ⟨h27, eh27⟩ : ∃ x : xb_H, x = xb_I h23 b22 (Int32.toNatClampNeg (x2 + 1)) r24 := ⟨_, rfl⟩
      rw [← eh27] at hR
      have hw := hw h27 eh27
      have hE : xb_ext h0 h27 := by rw [eh27]; exact hE
      refine lv_aload_n hx hb (xb_d D_Reader_readOperands 31 rfl) rfl (lv_at hl 0 rfl) ?_
      have hk21 : xb_k h23 x0 = 4 := hEh23.k hk21
      have hk21 : xb_k h27 x0 = 4 := by rw [eh27]; exact hk21
      refine xb_getP (C := R_Reader) (T := F_Reader) (N := 6) hx hb 3 2 hts fin_Reader hown hR hk21 (by decide) rfl (by decide) rfl (hts _ m_5660bdee) (fun _ h9 => h9) (xb_d D_Reader_readOperands 32 rfl) ?_
      obtain ⟨b28, eb28, hw⟩ := hw
      refine xb_some eb28 ?_
      refine lv_iload_n hx hb (xb_d D_Reader_readOperands 33 rfl) rfl (lv_at hl 2 rfl) ?_
      refine lv_iconst (v := 2) hx hb (xb_d D_Reader_readOperands 34 rfl) (by decide) ?_
      refine lv_iadd hx hb (xb_d D_Reader_readOperands 35 rfl) ?_
      refine lv_aload_n hx hb (xb_d D_Reader_readOperands 36 rfl) rfl (lv_at hl 0 rfl) ?_
      refine xb_call (D := D) (A := A) (σ := σ) (h := h27) (d := 3) (mc := bc24) (ms := bs24) (maxL := 4) (rest := [.int (x2 + 2), .ref b28]) (av := [.ref x0]) (fun T hT X => by obtain ⟨cb9, ra9, rb9, rc9⟩ := xb_recv (ci := 3) hR rfl hk21 (by decide); exact xt_invV X hx hown (hts _ m_2c379b4d) (hts _ m_a120e786) (hts _ m_e903c73e) (xt_sigOf (hts _ m_99690a98)) nm_Reader_count (by rw [hT]; exact ra9) rb9 rc9 (g := F0 m 107 ls [.ref x0, .int (x2 + 2), .ref b28]) rfl (argsL := []) (rest := [.int (x2 + 2), .ref b28]) rfl rfl (by rw [hb]; exact (xb_d D_Reader_readOperands 37 rfl))) (ok_Reader_count l hfl D A σ x0 h27 bc24 bs24 _ _ hw) (hml.trans hl.1.symm) (by rw [hb]; exact (xb_d D_Reader_readOperands 37 rfl)) (Nat.le_of_ble_eq_true rfl) (Nat.le_of_ble_eq_true rfl) (Nat.le_of_ble_eq_true rfl) (show (k + kk24) + bc24 ≤ MC by omega) (show (n + nn24) + bs24 ≤ MS by omega) (xt_w1 hB.1 m_99690a98) (xt_cdOf hB.1 m_99690a98) (hts _ m_938fcec4) hB hR hS hA (fun vv h29 bc30 bs30 kk30 nn30 H locs hk30 hn30 hq hEh29 hR hS => ?_) (fun XX ax h29 bc30 bs30 kk30 nn30 H locs hk30 hn30 hq hEh29 hex hR hS => ?_)
      · obtain ⟨r30, rfl, hw⟩ := hq
        have hw := hw hEh29
        have hE := hE.tr hEh29
        refine W.eq (g2 := F0 m 110 ls [.int r30, .int (x2 + 2), .ref b28]) rfl ?_
        obtain ⟨hk31, hw⟩ := hw
        obtain ⟨hi32, hw⟩ := hw
        refine xb_iast hx hb hR hS hk31 hi32 (xb_d D_Reader_readOperands 38 rfl) (fun H locs hR hS => ?_)
        obtain ⟨h33, eh33⟩ : ∃ x : xb_H, x = xb_I h29 b28 (Int32.toNatClampNeg (x2 + 2)) r30 := ⟨_, rfl⟩
        rw [← eh33] at hR
        have hw := hw h33 eh33
        have hE : xb_ext h0 h33 := by rw [eh33]; exact hE
        refine lv_goto (tgt := 193) hx hb (xb_d D_Reader_readOperands 39 rfl) rfl ?_
        exact am_Reader_readOperands_L193 l hfl D A σ MC MS h0 Qr Qt x0 x2 h33 bc30 bs30 hw p e s m args below meth c hC H locs ls ((k + kk24) + kk30) ((n + nn24) + nn30) hE (lv_sub hl [0, 2] rfl) hR hS (by omega) (by omega)
      · exact xb_pass hlocks (fun x hx9 => by rw [htab] at hx9; first | (cases hx9; done) | (simp [tableOf] at hx9; subst hx9; decide) | (simp [tableOf] at hx9; rcases hx9 with rfl | rfl <;> decide) | (simp [tableOf] at hx9; rcases hx9 with rfl | rfl | rfl <;> decide)) (show ((k + kk24) + kk30) + bc30 ≤ MC by omega) (show ((n + nn24) + nn30) + bs30 ≤ MS by omega) (hE.tr hEh29) hR hS hex hq
    · exact xb_pass hlocks (fun x hx9 => by rw [htab] at hx9; first | (cases hx9; done) | (simp [tableOf] at hx9; subst hx9; decide) | (simp [tableOf] at hx9; rcases hx9 with rfl | rfl <;> decide) | (simp [tableOf] at hx9; rcases hx9 with rfl | rfl | rfl <;> decide)) (show (k + kk24) + bc24 ≤ MC by omega) (show (n + nn24) + bs24 ≤ MS by omega) (hE.tr hEh23) hR hS hex hq
  have hw := hw.2
  by_cases hc34 : x1 = 8
  · have hw := hw.1 hc34
    refine xt_numi hc34 ?_
    refine lv_tableIn (off := 113) (tgt := 114) hx hb (xb_d D_Reader_readOperands 1 rfl) (by decide +kernel) (by decide +kernel) (by decide +kernel) (by decide) ?_
    refine lv_aload_n hx hb (xb_d D_Reader_readOperands 40 rfl) rfl (lv_at hl 0 rfl) ?_
    refine lv_iconst (v := 0) hx hb (xb_d D_Reader_readOperands 41 rfl) (by decide) ?_
    obtain ⟨hk35, hw⟩ := hw
    refine xb_call (D := D) (A := A) (σ := σ) (h := h) (d := 3) (mc := bc) (ms := bs) (maxL := 2) (rest := []) (av := [.ref x0, .int 0]) (fun T hT X => by obtain ⟨cb9, ra9, rb9, rc9⟩ := xb_recv (ci := 3) hR rfl hk35 (by decide); exact xt_invV X hx hown (hts _ m_bc6f1cef) (hts _ m_6ae404a7) (hts _ m_7b6b2ffe) (xt_sigOf (hts _ m_e431c1f6)) nm_Reader_readMark (by rw [hT]; exact ra9) rb9 rc9 (g := F0 m 116 ls [.int 0, .ref x0]) rfl (argsL := [.int 0]) (rest := []) rfl rfl (by rw [hb]; exact (xb_d D_Reader_readOperands 42 rfl))) (ok_Reader_readMark l hfl D A σ x0 0 h bc bs _ _ hw) (hml.trans hl.1.symm) (by rw [hb]; exact (xb_d D_Reader_readOperands 42 rfl)) (Nat.le_of_ble_eq_true rfl) (Nat.le_of_ble_eq_true rfl) (Nat.le_of_ble_eq_true rfl) (show k + bc ≤ MC by omega) (show n + bs ≤ MS by omega) (xt_w1 hB.1 m_e431c1f6) (xt_cdOf hB.1 m_e431c1f6) (hts _ m_938fcec4) hB hR hS hA (fun vv h36 bc37 bs37 kk37 nn37 H locs hk37 hn37 hq hEh36 hR hS => ?_) (fun XX ax h36 bc37 bs37 kk37 nn37 H locs hk37 hn37 hq hEh36 hex hR hS => ?_)
    · obtain ⟨rfl, hw⟩ := hq
      have hw := hw hEh36
      have hE := hE.tr hEh36
      refine W.eq (g2 := F0 m 119 ls []) rfl ?_
      refine lv_goto (tgt := 193) hx hb (xb_d D_Reader_readOperands 43 rfl) rfl ?_
      exact am_Reader_readOperands_L193 l hfl D A σ MC MS h0 Qr Qt x0 x2 h36 bc37 bs37 hw p e s m args below meth c hC H locs ls (k + kk37) (n + nn37) hE (lv_sub hl [0, 2] rfl) hR hS (by omega) (by omega)
    · exact xb_pass hlocks (fun x hx9 => by rw [htab] at hx9; first | (cases hx9; done) | (simp [tableOf] at hx9; subst hx9; decide) | (simp [tableOf] at hx9; rcases hx9 with rfl | rfl <;> decide) | (simp [tableOf] at hx9; rcases hx9 with rfl | rfl | rfl <;> decide)) (show (k + kk37) + bc37 ≤ MC by omega) (show (n + nn37) + bs37 ≤ MS by omega) (hE.tr hEh36) hR hS hex hq
  have hw := hw.2
  by_cases hc38 : x1 = 9
  · have hw := hw.1 hc38
    refine xt_numi hc38 ?_
    refine lv_tableIn (off := 121) (tgt := 122) hx hb (xb_d D_Reader_readOperands 1 rfl) (by decide +kernel) (by decide +kernel) (by decide +kernel) (by decide) ?_
    refine lv_aload_n hx hb (xb_d D_Reader_readOperands 44 rfl) rfl (lv_at hl 0 rfl) ?_
    obtain ⟨hk39, hw⟩ := hw
    refine xb_getP (C := R_Reader) (T := F_Reader) (N := 6) hx hb 3 2 hts fin_Reader hown hR hk39 (by decide) rfl (by decide) rfl (hts _ m_5660bdee) (fun _ h9 => h9) (xb_d D_Reader_readOperands 45 rfl) ?_
    obtain ⟨b40, eb40, hw⟩ := hw
    refine xb_some eb40 ?_
    refine lv_iload_n hx hb (xb_d D_Reader_readOperands 46 rfl) rfl (lv_at hl 2 rfl) ?_
    refine lv_iconst (v := 1) hx hb (xb_d D_Reader_readOperands 47 rfl) (by decide) ?_
    refine lv_iadd hx hb (xb_d D_Reader_readOperands 48 rfl) ?_
    refine lv_aload_n hx hb (xb_d D_Reader_readOperands 49 rfl) rfl (lv_at hl 0 rfl) ?_
    refine lv_iconst (v := 5) hx hb (xb_d D_Reader_readOperands 50 rfl) (by decide) ?_
    refine xb_call (D := D) (A := A) (σ := σ) (h := h) (d := 3) (mc := bc) (ms := bs) (maxL := 7) (rest := [.int (x2 + 1), .ref b40]) (av := [.ref x0, .int 5]) (fun T hT X => by obtain ⟨cb9, ra9, rb9, rc9⟩ := xb_recv (ci := 3) hR rfl hk39 (by decide); exact xt_invV X hx hown (hts _ m_903bb93e) (hts _ m_1631781f) (hts _ m_ad7ad53c) (xt_sigOf (hts _ m_7e8e77b8)) nm_Reader_signed (by rw [hT]; exact ra9) rb9 rc9 (g := F0 m 131 ls [.int 5, .ref x0, .int (x2 + 1), .ref b40]) rfl (argsL := [.int 5]) (rest := [.int (x2 + 1), .ref b40]) rfl rfl (by rw [hb]; exact (xb_d D_Reader_readOperands 51 rfl))) (ok_Reader_signed l hfl D A σ x0 5 h bc bs _ _ hw) (hml.trans hl.1.symm) (by rw [hb]; exact (xb_d D_Reader_readOperands 51 rfl)) (Nat.le_of_ble_eq_true rfl) (Nat.le_of_ble_eq_true rfl) (Nat.le_of_ble_eq_true rfl) (show k + bc ≤ MC by omega) (show n + bs ≤ MS by omega) (xt_w1 hB.1 m_7e8e77b8) (xt_cdOf hB.1 m_7e8e77b8) (hts _ m_938fcec4) hB hR hS hA (fun vv h41 bc42 bs42 kk42 nn42 H locs hk42 hn42 hq hEh41 hR hS => ?_) (fun XX ax h41 bc42 bs42 kk42 nn42 H locs hk42 hn42 hq hEh41 hex hR hS => ?_)
    · obtain ⟨r42, rfl, hw⟩ := hq
      have hw := hw hEh41
      have hE := hE.tr hEh41
      refine W.eq (g2 := F0 m 134 ls [.long r42, .int (x2 + 1), .ref b40]) rfl ?_
      refine lv_l2i hx hb (xb_d D_Reader_readOperands 52 rfl) rfl ?_
      obtain ⟨hk43, hw⟩ := hw
      obtain ⟨hi44, hw⟩ := hw
      refine xb_iast hx hb hR hS hk43 hi44 (xb_d D_Reader_readOperands 53 rfl) (fun H locs hR hS => ?_)
      obtain ⟨h45, eh45⟩ : ∃ x : xb_H, x = xb_I h41 b40 (Int32.toNatClampNeg (x2 + 1)) (Int64.toInt32 r42) := ⟨_, rfl⟩
      rw [← eh45] at hR
      have hw := hw h45 eh45
      have hE : xb_ext h0 h45 := by rw [eh45]; exact hE
      refine lv_goto (tgt := 193) hx hb (xb_d D_Reader_readOperands 54 rfl) rfl ?_
      exact am_Reader_readOperands_L193 l hfl D A σ MC MS h0 Qr Qt x0 x2 h45 bc42 bs42 hw p e s m args below meth c hC H locs ls (k + kk42) (n + nn42) hE (lv_sub hl [0, 2] rfl) hR hS (by omega) (by omega)
    · exact xb_pass hlocks (fun x hx9 => by rw [htab] at hx9; first | (cases hx9; done) | (simp [tableOf] at hx9; subst hx9; decide) | (simp [tableOf] at hx9; rcases hx9 with rfl | rfl <;> decide) | (simp [tableOf] at hx9; rcases hx9 with rfl | rfl | rfl <;> decide)) (show (k + kk42) + bc42 ≤ MC by omega) (show (n + nn42) + bs42 ≤ MS by omega) (hE.tr hEh41) hR hS hex hq
  have hw := hw.2
  by_cases hc46 : x1 = 10
  · have hw := hw.1 hc46
    refine xt_numi hc46 ?_
    refine lv_tableIn (off := 138) (tgt := 139) hx hb (xb_d D_Reader_readOperands 1 rfl) (by decide +kernel) (by decide +kernel) (by decide +kernel) (by decide) ?_
    refine lv_aload_n hx hb (xb_d D_Reader_readOperands 55 rfl) rfl (lv_at hl 0 rfl) ?_
    refine lv_iload_n hx hb (xb_d D_Reader_readOperands 56 rfl) rfl (lv_at hl 2 rfl) ?_
    refine lv_aload_n hx hb (xb_d D_Reader_readOperands 57 rfl) rfl (lv_at hl 0 rfl) ?_
    refine lv_bipush (v := 10) hx hb (xb_d D_Reader_readOperands 58 rfl) (by decide) ?_
    obtain ⟨hk47, hw⟩ := hw
    refine xb_call (D := D) (A := A) (σ := σ) (h := h) (d := 3) (mc := bc) (ms := bs) (maxL := 7) (rest := [.int x2, .ref x0]) (av := [.ref x0, .int 10]) (fun T hT X => by obtain ⟨cb9, ra9, rb9, rc9⟩ := xb_recv (ci := 3) hR rfl hk47 (by decide); exact xt_invV X hx hown (hts _ m_903bb93e) (hts _ m_1631781f) (hts _ m_ad7ad53c) (xt_sigOf (hts _ m_7e8e77b8)) nm_Reader_signed (by rw [hT]; exact ra9) rb9 rc9 (g := F0 m 144 ls [.int 10, .ref x0, .int x2, .ref x0]) rfl (argsL := [.int 10]) (rest := [.int x2, .ref x0]) rfl rfl (by rw [hb]; exact (xb_d D_Reader_readOperands 59 rfl))) (ok_Reader_signed l hfl D A σ x0 10 h bc bs _ _ hw) (hml.trans hl.1.symm) (by rw [hb]; exact (xb_d D_Reader_readOperands 59 rfl)) (Nat.le_of_ble_eq_true rfl) (Nat.le_of_ble_eq_true rfl) (Nat.le_of_ble_eq_true rfl) (show k + bc ≤ MC by omega) (show n + bs ≤ MS by omega) (xt_w1 hB.1 m_7e8e77b8) (xt_cdOf hB.1 m_7e8e77b8) (hts _ m_938fcec4) hB hR hS hA (fun vv h48 bc49 bs49 kk49 nn49 H locs hk49 hn49 hq hEh48 hR hS => ?_) (fun XX ax h48 bc49 bs49 kk49 nn49 H locs hk49 hn49 hq hEh48 hex hR hS => ?_)
    · obtain ⟨r49, rfl, hw⟩ := hq
      have hw := hw hEh48
      have hE := hE.tr hEh48
      refine W.eq (g2 := F0 m 147 ls [.long r49, .int x2, .ref x0]) rfl ?_
      have hk47 : xb_k h48 x0 = 4 := hEh48.k hk47
      refine xb_call0 (D := D) (A := A) (σ := σ) (h := h48) (d := 2) (maxL := 4) (rest := []) (av := [.ref x0, .int x2, .long r49]) (fun T hT X => by obtain ⟨cb9, ra9, rb9, rc9⟩ := xb_recv (ci := 3) hR rfl hk47 (by decide); exact xt_invV X hx hown (hts _ m_dc270ec6) (hts _ m_c7891398) (hts _ m_c987b880) (xt_sigOf (hts _ m_3ca9c0e1)) nm_Reader_noteLong (by rw [hT]; exact ra9) rb9 rc9 (g := F0 m 147 ls [.long r49, .int x2, .ref x0]) rfl (argsL := [.int x2, .long r49]) (rest := []) rfl rfl (by rw [hb]; exact (xb_d D_Reader_readOperands 60 rfl))) (ok_Reader_noteLong l hfl D A σ x0 x2 r49 h48 _ hw) (hml.trans hl.1.symm) (by rw [hb]; exact (xb_d D_Reader_readOperands 60 rfl)) (Nat.le_of_ble_eq_true rfl) (Nat.le_of_ble_eq_true rfl) (Nat.le_of_ble_eq_true rfl) (show (k + kk49) ≤ MC by omega) (show (n + nn49) ≤ MS by omega) (xt_w1 hB.1 m_3ca9c0e1) (xt_cdOf hB.1 m_3ca9c0e1) (hts _ m_938fcec4) hB hR hS hA (fun vv h50 H locs hq hEh50 hR hS => ?_)
      obtain ⟨rfl, hw⟩ := hq
      have hw := hw hEh50
      have hE := hE.tr hEh50
      refine W.eq (g2 := F0 m 150 ls []) rfl ?_
      refine lv_goto (tgt := 193) hx hb (xb_d D_Reader_readOperands 61 rfl) rfl ?_
      exact am_Reader_readOperands_L193 l hfl D A σ MC MS h0 Qr Qt x0 x2 h50 bc49 bs49 hw p e s m args below meth c hC H locs ls (k + kk49) (n + nn49) hE (lv_sub hl [0, 2] rfl) hR hS (by omega) (by omega)
    · exact xb_pass hlocks (fun x hx9 => by rw [htab] at hx9; first | (cases hx9; done) | (simp [tableOf] at hx9; subst hx9; decide) | (simp [tableOf] at hx9; rcases hx9 with rfl | rfl <;> decide) | (simp [tableOf] at hx9; rcases hx9 with rfl | rfl | rfl <;> decide)) (show (k + kk49) + bc49 ≤ MC by omega) (show (n + nn49) + bs49 ≤ MS by omega) (hE.tr hEh48) hR hS hex hq
  have hw := hw.2
  by_cases hc52 : x1 = 11
  · have hw := hw.1 hc52
    refine xt_numi hc52 ?_
    refine lv_tableIn (off := 152) (tgt := 153) hx hb (xb_d D_Reader_readOperands 1 rfl) (by decide +kernel) (by decide +kernel) (by decide +kernel) (by decide) ?_
    refine lv_aload_n hx hb (xb_d D_Reader_readOperands 62 rfl) rfl (lv_at hl 0 rfl) ?_
    obtain ⟨hk53, hw⟩ := hw
    refine xb_getP (C := R_Reader) (T := F_Reader) (N := 6) hx hb 3 2 hts fin_Reader hown hR hk53 (by decide) rfl (by decide) rfl (hts _ m_5660bdee) (fun _ h9 => h9) (xb_d D_Reader_readOperands 63 rfl) ?_
    obtain ⟨b54, eb54, hw⟩ := hw
    refine xb_some eb54 ?_
    refine lv_iload_n hx hb (xb_d D_Reader_readOperands 64 rfl) rfl (lv_at hl 2 rfl) ?_
    refine lv_iconst (v := 1) hx hb (xb_d D_Reader_readOperands 65 rfl) (by decide) ?_
    refine lv_iadd hx hb (xb_d D_Reader_readOperands 66 rfl) ?_
    refine lv_aload_n hx hb (xb_d D_Reader_readOperands 67 rfl) rfl (lv_at hl 0 rfl) ?_
    refine lv_iconst (v := 4) hx hb (xb_d D_Reader_readOperands 68 rfl) (by decide) ?_
    refine xb_call (D := D) (A := A) (σ := σ) (h := h) (d := 3) (mc := bc) (ms := bs) (maxL := 5) (rest := [.int (x2 + 1), .ref b54]) (av := [.ref x0, .int 4]) (fun T hT X => by obtain ⟨cb9, ra9, rb9, rc9⟩ := xb_recv (ci := 3) hR rfl hk53 (by decide); exact xt_invV X hx hown (hts _ m_a14af40f) (hts _ m_558b41ae) (hts _ m_a62fdb5c) (xt_sigOf (hts _ m_43b45542)) nm_Reader_plainBytes (by rw [hT]; exact ra9) rb9 rc9 (g := F0 m 162 ls [.int 4, .ref x0, .int (x2 + 1), .ref b54]) rfl (argsL := [.int 4]) (rest := [.int (x2 + 1), .ref b54]) rfl rfl (by rw [hb]; exact (xb_d D_Reader_readOperands 69 rfl))) (ok_Reader_plainBytes l hfl D A σ x0 4 h bc bs _ _ hw) (hml.trans hl.1.symm) (by rw [hb]; exact (xb_d D_Reader_readOperands 69 rfl)) (Nat.le_of_ble_eq_true rfl) (Nat.le_of_ble_eq_true rfl) (Nat.le_of_ble_eq_true rfl) (show k + bc ≤ MC by omega) (show n + bs ≤ MS by omega) (xt_w1 hB.1 m_43b45542) (xt_cdOf hB.1 m_43b45542) (hts _ m_938fcec4) hB hR hS hA (fun vv h55 bc56 bs56 kk56 nn56 H locs hk56 hn56 hq hEh55 hR hS => ?_) (fun XX ax h55 bc56 bs56 kk56 nn56 H locs hk56 hn56 hq hEh55 hex hR hS => ?_)
    · obtain ⟨r56, rfl, hw⟩ := hq
      have hw := hw hEh55
      have hE := hE.tr hEh55
      refine W.eq (g2 := F0 m 165 ls [.long r56, .int (x2 + 1), .ref b54]) rfl ?_
      refine lv_l2i hx hb (xb_d D_Reader_readOperands 70 rfl) rfl ?_
      obtain ⟨hk57, hw⟩ := hw
      obtain ⟨hi58, hw⟩ := hw
      refine xb_iast hx hb hR hS hk57 hi58 (xb_d D_Reader_readOperands 71 rfl) (fun H locs hR hS => ?_)
      obtain ⟨h59, eh59⟩ : ∃ x : xb_H, x = xb_I h55 b54 (Int32.toNatClampNeg (x2 + 1)) (Int64.toInt32 r56) := ⟨_, rfl⟩
      rw [← eh59] at hR
      have hw := hw h59 eh59
      have hE : xb_ext h0 h59 := by rw [eh59]; exact hE
      refine lv_goto (tgt := 193) hx hb (xb_d D_Reader_readOperands 72 rfl) rfl ?_
      exact am_Reader_readOperands_L193 l hfl D A σ MC MS h0 Qr Qt x0 x2 h59 bc56 bs56 hw p e s m args below meth c hC H locs ls (k + kk56) (n + nn56) hE (lv_sub hl [0, 2] rfl) hR hS (by omega) (by omega)
    · exact xb_pass hlocks (fun x hx9 => by rw [htab] at hx9; first | (cases hx9; done) | (simp [tableOf] at hx9; subst hx9; decide) | (simp [tableOf] at hx9; rcases hx9 with rfl | rfl <;> decide) | (simp [tableOf] at hx9; rcases hx9 with rfl | rfl | rfl <;> decide)) (show (k + kk56) + bc56 ≤ MC by omega) (show (n + nn56) + bs56 ≤ MS by omega) (hE.tr hEh55) hR hS hex hq
  have hw := hw.2
  by_cases hc60 : x1 = 12
  · have hw := hw.1 hc60
    refine xt_numi hc60 ?_
    refine lv_tableIn (off := 169) (tgt := 170) hx hb (xb_d D_Reader_readOperands 1 rfl) (by decide +kernel) (by decide +kernel) (by decide +kernel) (by decide) ?_
    refine lv_aload_n hx hb (xb_d D_Reader_readOperands 73 rfl) rfl (lv_at hl 0 rfl) ?_
    refine lv_iload_n hx hb (xb_d D_Reader_readOperands 74 rfl) rfl (lv_at hl 2 rfl) ?_
    refine lv_aload_n hx hb (xb_d D_Reader_readOperands 75 rfl) rfl (lv_at hl 0 rfl) ?_
    refine lv_bipush (v := 8) hx hb (xb_d D_Reader_readOperands 76 rfl) (by decide) ?_
    obtain ⟨hk61, hw⟩ := hw
    refine xb_call (D := D) (A := A) (σ := σ) (h := h) (d := 3) (mc := bc) (ms := bs) (maxL := 5) (rest := [.int x2, .ref x0]) (av := [.ref x0, .int 8]) (fun T hT X => by obtain ⟨cb9, ra9, rb9, rc9⟩ := xb_recv (ci := 3) hR rfl hk61 (by decide); exact xt_invV X hx hown (hts _ m_a14af40f) (hts _ m_558b41ae) (hts _ m_a62fdb5c) (xt_sigOf (hts _ m_43b45542)) nm_Reader_plainBytes (by rw [hT]; exact ra9) rb9 rc9 (g := F0 m 175 ls [.int 8, .ref x0, .int x2, .ref x0]) rfl (argsL := [.int 8]) (rest := [.int x2, .ref x0]) rfl rfl (by rw [hb]; exact (xb_d D_Reader_readOperands 77 rfl))) (ok_Reader_plainBytes l hfl D A σ x0 8 h bc bs _ _ hw) (hml.trans hl.1.symm) (by rw [hb]; exact (xb_d D_Reader_readOperands 77 rfl)) (Nat.le_of_ble_eq_true rfl) (Nat.le_of_ble_eq_true rfl) (Nat.le_of_ble_eq_true rfl) (show k + bc ≤ MC by omega) (show n + bs ≤ MS by omega) (xt_w1 hB.1 m_43b45542) (xt_cdOf hB.1 m_43b45542) (hts _ m_938fcec4) hB hR hS hA (fun vv h62 bc63 bs63 kk63 nn63 H locs hk63 hn63 hq hEh62 hR hS => ?_) (fun XX ax h62 bc63 bs63 kk63 nn63 H locs hk63 hn63 hq hEh62 hex hR hS => ?_)
    · obtain ⟨r63, rfl, hw⟩ := hq
      have hw := hw hEh62
      have hE := hE.tr hEh62
      refine W.eq (g2 := F0 m 178 ls [.long r63, .int x2, .ref x0]) rfl ?_
      have hk61 : xb_k h62 x0 = 4 := hEh62.k hk61
      refine xb_call0 (D := D) (A := A) (σ := σ) (h := h62) (d := 2) (maxL := 4) (rest := []) (av := [.ref x0, .int x2, .long r63]) (fun T hT X => by obtain ⟨cb9, ra9, rb9, rc9⟩ := xb_recv (ci := 3) hR rfl hk61 (by decide); exact xt_invV X hx hown (hts _ m_dc270ec6) (hts _ m_c7891398) (hts _ m_c987b880) (xt_sigOf (hts _ m_3ca9c0e1)) nm_Reader_noteLong (by rw [hT]; exact ra9) rb9 rc9 (g := F0 m 178 ls [.long r63, .int x2, .ref x0]) rfl (argsL := [.int x2, .long r63]) (rest := []) rfl rfl (by rw [hb]; exact (xb_d D_Reader_readOperands 78 rfl))) (ok_Reader_noteLong l hfl D A σ x0 x2 r63 h62 _ hw) (hml.trans hl.1.symm) (by rw [hb]; exact (xb_d D_Reader_readOperands 78 rfl)) (Nat.le_of_ble_eq_true rfl) (Nat.le_of_ble_eq_true rfl) (Nat.le_of_ble_eq_true rfl) (show (k + kk63) ≤ MC by omega) (show (n + nn63) ≤ MS by omega) (xt_w1 hB.1 m_3ca9c0e1) (xt_cdOf hB.1 m_3ca9c0e1) (hts _ m_938fcec4) hB hR hS hA (fun vv h64 H locs hq hEh64 hR hS => ?_)
      obtain ⟨rfl, hw⟩ := hq
      have hw := hw hEh64
      have hE := hE.tr hEh64
      refine W.eq (g2 := F0 m 181 ls []) rfl ?_
      refine lv_goto (tgt := 193) hx hb (xb_d D_Reader_readOperands 79 rfl) rfl ?_
      exact am_Reader_readOperands_L193 l hfl D A σ MC MS h0 Qr Qt x0 x2 h64 bc63 bs63 hw p e s m args below meth c hC H locs ls (k + kk63) (n + nn63) hE (lv_sub hl [0, 2] rfl) hR hS (by omega) (by omega)
    · exact xb_pass hlocks (fun x hx9 => by rw [htab] at hx9; first | (cases hx9; done) | (simp [tableOf] at hx9; subst hx9; decide) | (simp [tableOf] at hx9; rcases hx9 with rfl | rfl <;> decide) | (simp [tableOf] at hx9; rcases hx9 with rfl | rfl | rfl <;> decide)) (show (k + kk63) + bc63 ≤ MC by omega) (show (n + nn63) + bs63 ≤ MS by omega) (hE.tr hEh62) hR hS hex hq
  have hw := hw.2
  have hw := hw hc1 hc9 hc10 hc20 hc34 hc38 hc46 hc52 hc60
  refine lv_tableOut (tgt := 184) hx hb (xb_d D_Reader_readOperands 1 rfl) (by have a0 := xb_nl (4) 4 (by decide) hc1; have a1 := xb_nl (5) 5 (by decide) hc9; have a2 := xb_nl (6) 6 (by decide) hc10; have a3 := xb_nl (7) 7 (by decide) hc20; have a4 := xb_nl (8) 8 (by decide) hc34; have a5 := xb_nl (9) 9 (by decide) hc38; have a6 := xb_nl (10) 10 (by decide) hc46; have a7 := xb_nl (11) 11 (by decide) hc52; have a8 := xb_nl (12) 12 (by decide) hc60; omega) (by decide) ?_
  exact am_Reader_readOperands_L184 l hfl D A σ MC MS h0 Qr Qt x0 x2 h bc bs hw p e s m args below meth c hC H locs ls k n hE (lv_sub hl [0, 2] rfl) hR hS (by omega) (by omega)

set_option maxRecDepth 100000 in
def T_Reader_valueType : List (Nat × Instr × Nat) := [(0, .aload_n 0, 1), (1, .invokevirtual 122, 3), (4, .istore_n 1, 1), (5, .iload_n 1, 1), (6, .bipush 124, 2), (8, .if_icmp .lt 9, 3), (11, .iload_n 1, 1), (12, .bipush 127, 2), (14, .if_icmp .le 17, 3), (17, .aload_n 0, 1), (18, .getfield 15, 3), (21, .iconst 5, 1), (22, .aload_n 0, 1), (23, .getfield 41, 3), (26, .iconst 1, 1), (27, .isub, 1), (28, .invokevirtual 37, 3), (31, .iload_n 1, 1), (32, .ireturn, 1)]
theorem D_Reader_valueType : ∀ q ∈ T_Reader_valueType, decode b_Reader_valueType q.1 = .ok (q.2.1, q.2.2) := by decide +kernel

set_option maxHeartbeats 4000000 in
set_option maxRecDepth 100000 in
theorem am_Reader_valueType_L31 (l : Launch) (hfl : l.flags = pinnedFlags ++ [noTraceFlag]) (D : va_G) (A : Nat → Prop) (σ MC MS : Nat) (h0 : xb_H) (Qr : Int32 → xb_H → Nat → Nat → Prop) (Qt : String → xb_H → Nat → Nat → Prop) (x1 : Int32) (h : xb_H) (bc : Nat) (bs : Nat) (hw : w_Reader_valueType_L31 Qr Qt x1 h bc bs) : xb_am l D A σ 4 MC MS h0 (fun v h bc bs => ∃ r, v = some (.int r) ∧ Qr r h bc bs) Qt y_Reader_valueType.cls y_Reader_valueType.name b_Reader_valueType 2 ([] : List ExceptionTableEntry) (some .int) 31 [(1, .int x1)] [] h bc bs := by
  unfold w_Reader_valueType_L31 at hw
  intro p e s m args below meth c hC H locs ls k n hE hl hR hS hk hn
  obtain ⟨hx, hb, hown, hlocks, htab, hml, hr, hB, hA, hnm⟩ := id hC
  have hts := hB.1.1.at args
  refine lv_iload_n hx hb (xb_d D_Reader_valueType 17 rfl) rfl (lv_at hl 0 rfl) ?_
  exact xb_iret bc bs hx hb hr hlocks (show k + bc ≤ MC by omega) (show n + bs ≤ MS by omega) hE hR hS (xb_d D_Reader_valueType 18 rfl) hw

set_option maxHeartbeats 4000000 in
set_option maxRecDepth 100000 in
theorem am_Reader_valueType_L17 (l : Launch) (hfl : l.flags = pinnedFlags ++ [noTraceFlag]) (D : va_G) (A : Nat → Prop) (σ MC MS : Nat) (h0 : xb_H) (Qr : Int32 → xb_H → Nat → Nat → Prop) (Qt : String → xb_H → Nat → Nat → Prop) (x0 : Nat) (x1 : Int32) (h : xb_H) (bc : Nat) (bs : Nat) (hw : w_Reader_valueType_L17 Qr Qt x0 x1 h bc bs) : xb_am l D A σ 4 MC MS h0 (fun v h bc bs => ∃ r, v = some (.int r) ∧ Qr r h bc bs) Qt y_Reader_valueType.cls y_Reader_valueType.name b_Reader_valueType 2 ([] : List ExceptionTableEntry) (some .int) 17 [(0, .ref x0), (1, .int x1)] [] h bc bs := by
  unfold w_Reader_valueType_L17 at hw
  intro p e s m args below meth c hC H locs ls k n hE hl hR hS hk hn
  obtain ⟨hx, hb, hown, hlocks, htab, hml, hr, hB, hA, hnm⟩ := id hC
  have hts := hB.1.1.at args
  refine lv_aload_n hx hb (xb_d D_Reader_valueType 9 rfl) rfl (lv_at hl 0 rfl) ?_
  obtain ⟨hk1, hw⟩ := hw
  refine xb_getP (C := R_Reader) (T := F_Reader) (N := 6) hx hb 3 0 hts fin_Reader hown hR hk1 (by decide) rfl (by decide) rfl (hts _ m_76d8349c) (fun _ h9 => h9) (xb_d D_Reader_valueType 10 rfl) ?_
  obtain ⟨b2, eb2, hw⟩ := hw
  refine xb_some eb2 ?_
  refine lv_iconst (v := 5) hx hb (xb_d D_Reader_valueType 11 rfl) (by decide) ?_
  refine lv_aload_n hx hb (xb_d D_Reader_valueType 12 rfl) rfl (lv_at hl 0 rfl) ?_
  refine xb_getI (C := R_Reader) (T := F_Reader) (N := 6) hx hb 3 3 hts fin_Reader hown hR hk1 (by decide) rfl (by decide) rfl (hts _ m_a9b84ac2) (fun _ h9 => h9) (xb_d D_Reader_valueType 13 rfl) ?_
  refine lv_iconst (v := 1) hx hb (xb_d D_Reader_valueType 14 rfl) (by decide) ?_
  refine lv_isub hx hb (xb_d D_Reader_valueType 15 rfl) ?_
  obtain ⟨hk3, hw⟩ := hw
  refine xb_call (D := D) (A := A) (σ := σ) (h := h) (d := 2) (mc := bc) (ms := bs) (maxL := 3) (rest := []) (av := [.ref b2, .int 5, .int ((xb_i h x0 3) - 1)]) (fun T hT X => by obtain ⟨cb9, ra9, rb9, rc9⟩ := xb_recv (ci := 2) hR rfl hk3 (by decide); exact xt_invV X hx hown (hts _ m_6fcde429) (hts _ m_865d5b07) (hts _ m_113f8f75) (xt_sigOf (hts _ m_73e65e5f)) nm_StackModule_fail (by rw [hT]; exact ra9) rb9 rc9 (g := F0 m 28 ls [.int ((xb_i h x0 3) - 1), .int 5, .ref b2]) rfl (argsL := [.int 5, .int ((xb_i h x0 3) - 1)]) (rest := []) rfl rfl (by rw [hb]; exact (xb_d D_Reader_valueType 16 rfl))) (ok_StackModule_fail l hfl D A σ b2 5 ((xb_i h x0 3) - 1) h bc bs _ _ hw) (hml.trans hl.1.symm) (by rw [hb]; exact (xb_d D_Reader_valueType 16 rfl)) (Nat.le_of_ble_eq_true rfl) (Nat.le_of_ble_eq_true rfl) (Nat.le_of_ble_eq_true rfl) (show k + bc ≤ MC by omega) (show n + bs ≤ MS by omega) (xt_w1 hB.1 m_73e65e5f) (xt_cdOf hB.1 m_73e65e5f) (hts _ m_9c375545) hB hR hS hA (fun vv h4 bc5 bs5 kk5 nn5 H locs hk5 hn5 hq hEh4 hR hS => ?_) (fun XX ax h4 bc5 bs5 kk5 nn5 H locs hk5 hn5 hq hEh4 hex hR hS => ?_)
  · obtain ⟨rfl, hw⟩ := hq
    have hw := hw hEh4
    have hE := hE.tr hEh4
    refine W.eq (g2 := F0 m 31 ls []) rfl ?_
    exact am_Reader_valueType_L31 l hfl D A σ MC MS h0 Qr Qt x1 h4 bc5 bs5 hw p e s m args below meth c hC H locs ls (k + kk5) (n + nn5) hE (lv_sub hl [1] rfl) hR hS (by omega) (by omega)
  · exact xb_pass hlocks (fun x hx9 => by rw [htab] at hx9; first | (cases hx9; done) | (simp [tableOf] at hx9; subst hx9; decide) | (simp [tableOf] at hx9; rcases hx9 with rfl | rfl <;> decide) | (simp [tableOf] at hx9; rcases hx9 with rfl | rfl | rfl <;> decide)) (show (k + kk5) + bc5 ≤ MC by omega) (show (n + nn5) + bs5 ≤ MS by omega) (hE.tr hEh4) hR hS hex hq

set_option maxHeartbeats 4000000 in
set_option maxRecDepth 100000 in
theorem ok_Reader_valueType (l : Launch) (hfl : l.flags = pinnedFlags ++ [noTraceFlag]) (D : va_G) (A : Nat → Prop) (σ : Nat) (x0 : Nat) (h : xb_H) (bc : Nat) (bs : Nat) (Qr : Int32 → xb_H → Nat → Nat → Prop) (Qt : String → xb_H → Nat → Nat → Prop) (hw : w_Reader_valueType x0 h bc bs Qr Qt) : xb_Met l y_Reader_valueType [.code y_Reader_valueType b_Reader_valueType 2 (some .int)] (xb_rm 4 bc bs) (xb_Pc D A σ h [.ref x0]) (xb_Qc D A h bc bs (fun v h bc bs => ∃ r, v = some (.int r) ∧ Qr r h bc bs) Qt) A := by
  refine xb_ofAm (cc := b_Reader_valueType) (by decide) (Nat.le_of_ble_eq_true rfl) ?_
  unfold w_Reader_valueType at hw
  show xb_am l D A σ 4 bc bs h (fun v h bc bs => ∃ r, v = some (.int r) ∧ Qr r h bc bs) Qt y_Reader_valueType.cls y_Reader_valueType.name b_Reader_valueType 2 ([] : List ExceptionTableEntry) (some .int) 0 [(0, .ref x0)] [] h bc bs
  obtain ⟨MC, hMC⟩ : ∃ x, x = bc := ⟨_, rfl⟩
  obtain ⟨MS, hMS⟩ : ∃ x, x = bs := ⟨_, rfl⟩
  rw [show xb_am l D A σ 4 bc bs = xb_am l D A σ 4 MC MS by rw [hMC, hMS]]
  obtain ⟨h0, hh0⟩ : ∃ x, x = h := ⟨_, rfl⟩
  rw [show xb_am l D A σ 4 MC MS h = xb_am l D A σ 4 MC MS h0 by rw [hh0]]
  intro p e s m args below meth c hC H locs ls k n hE hl hR hS hk hn
  obtain ⟨hx, hb, hown, hlocks, htab, hml, hr, hB, hA, hnm⟩ := id hC
  have hts := hB.1.1.at args
  refine lv_aload_n hx hb (xb_d D_Reader_valueType 0 rfl) rfl (lv_at hl 0 rfl) ?_
  obtain ⟨hk1, hw⟩ := hw
  refine xb_call (D := D) (A := A) (σ := σ) (h := h) (d := 3) (mc := bc) (ms := bs) (maxL := 1) (rest := []) (av := [.ref x0]) (fun T hT X => by obtain ⟨cb9, ra9, rb9, rc9⟩ := xb_recv (ci := 3) hR rfl hk1 (by decide); exact xt_invV X hx hown (hts _ m_16104bdc) (hts _ m_5816e59e) (hts _ m_447444c2) (xt_sigOf (hts _ m_a7435405)) nm_Reader_nextByte (by rw [hT]; exact ra9) rb9 rc9 (g := F0 m 1 ls [.ref x0]) rfl (argsL := []) (rest := []) rfl rfl (by rw [hb]; exact (xb_d D_Reader_valueType 1 rfl))) (ok_Reader_nextByte l hfl D A σ x0 h bc bs _ _ hw) (hml.trans hl.1.symm) (by rw [hb]; exact (xb_d D_Reader_valueType 1 rfl)) (Nat.le_of_ble_eq_true rfl) (Nat.le_of_ble_eq_true rfl) (Nat.le_of_ble_eq_true rfl) (show k + bc ≤ MC by omega) (show n + bs ≤ MS by omega) (xt_w1 hB.1 m_a7435405) (xt_cdOf hB.1 m_a7435405) (hts _ m_938fcec4) hB hR hS hA (fun vv h2 bc3 bs3 kk3 nn3 H locs hk3 hn3 hq hEh2 hR hS => ?_) (fun XX ax h2 bc3 bs3 kk3 nn3 H locs hk3 hn3 hq hEh2 hex hR hS => ?_)
  · obtain ⟨r3, rfl, hw⟩ := hq
    have hw := hw hEh2
    have hE := hE.tr hEh2
    refine W.eq (g2 := F0 m 4 ls [.int r3]) rfl ?_
    refine lv_istore_n hx hb (xb_d D_Reader_valueType 2 rfl) rfl hl (by decide) rfl (fun ls hl => ?_)
    have hl : lv_has ls 2 [(1, .int r3), (0, .ref x0)] := hl
    refine lv_iload_n hx hb (xb_d D_Reader_valueType 3 rfl) rfl (lv_at hl 0 rfl) ?_
    refine lv_bipush (v := 124) hx hb (xb_d D_Reader_valueType 4 rfl) (by decide) ?_
    refine lv_icmp_lt (tgt := 17) hx hb (xb_d D_Reader_valueType 5 rfl) rfl (fun hc4 => ?_) (fun hc4 => ?_)
    · have hw := hw.1 hc4
      exact am_Reader_valueType_L17 l hfl D A σ MC MS h0 Qr Qt x0 r3 h2 bc3 bs3 hw p e s m args below meth c hC H locs ls (k + kk3) (n + nn3) hE (lv_sub hl [1, 0] rfl) hR hS (by omega) (by omega)
    · have hw := hw.2 hc4
      refine lv_iload_n hx hb (xb_d D_Reader_valueType 6 rfl) rfl (lv_at hl 0 rfl) ?_
      refine lv_bipush (v := 127) hx hb (xb_d D_Reader_valueType 7 rfl) (by decide) ?_
      refine lv_icmp_le (tgt := 31) hx hb (xb_d D_Reader_valueType 8 rfl) rfl (fun hc5 => ?_) (fun hc5 => ?_)
      · have hw := hw.1 hc5
        exact am_Reader_valueType_L31 l hfl D A σ MC MS h0 Qr Qt r3 h2 bc3 bs3 hw p e s m args below meth c hC H locs ls (k + kk3) (n + nn3) hE (lv_sub hl [0] rfl) hR hS (by omega) (by omega)
      · have hw := hw.2 hc5
        exact am_Reader_valueType_L17 l hfl D A σ MC MS h0 Qr Qt x0 r3 h2 bc3 bs3 hw p e s m args below meth c hC H locs ls (k + kk3) (n + nn3) hE (lv_sub hl [1, 0] rfl) hR hS (by omega) (by omega)
  · exact xb_pass hlocks (fun x hx9 => by rw [htab] at hx9; first | (cases hx9; done) | (simp [tableOf] at hx9; subst hx9; decide) | (simp [tableOf] at hx9; rcases hx9 with rfl | rfl <;> decide) | (simp [tableOf] at hx9; rcases hx9 with rfl | rfl | rfl <;> decide)) (show (k + kk3) + bc3 ≤ MC by omega) (show (n + nn3) + bs3 ≤ MS by omega) (hE.tr hEh2) hR hS hex hq

theorem m_cbb6e9b1 : (.methodLink "StackHost$Row" 32 y_Row_makeRoom : Cond) ∈ xt_tbl := xt_in (xt_t3 (List.mem_of_getElem? (i := 228) (by decide +kernel))) (by decide +kernel)
theorem m_624132aa : (.instanceMethod y_Row_makeRoom : Cond) ∈ xt_tbl := xt_in (xt_t3 (List.mem_of_getElem? (i := 229) (by decide +kernel))) (by decide +kernel)
theorem m_74be88f7 : (.selects "StackHost$Row" y_Row_makeRoom y_Row_makeRoom : Cond) ∈ xt_tbl := xt_in (xt_t3 (List.mem_of_getElem? (i := 230) (by decide +kernel))) (by decide +kernel)
theorem m_8b494096 : (.code y_Row_makeRoom b_Row_makeRoom 2 none : Cond) ∈ xt_tbl := xt_in (xt_t3 (List.mem_of_getElem? (i := 231) (by decide +kernel))) (by decide +kernel)
theorem nm_Row_makeRoom : xt_nm y_Row_makeRoom 1 := ⟨by decide +kernel, by decide +kernel⟩
set_option maxRecDepth 100000 in
def T_Row_add : List (Nat × Instr × Nat) := [(0, .aload_n 0, 1), (1, .aload_n 0, 1), (2, .getfield 29, 3), (5, .iconst 1, 1), (6, .iadd, 1), (7, .invokevirtual 32, 3), (10, .aload_n 0, 1), (11, .getfield 13, 3), (14, .aload_n 0, 1), (15, .getfield 29, 3), (18, .lload_n 1, 1), (19, .lastore, 1), (20, .aload_n 0, 1), (21, .dup, 1), (22, .getfield 29, 3), (25, .iconst 1, 1), (26, .iadd, 1), (27, .putfield 29, 3), (30, .return_, 1)]
theorem D_Row_add : ∀ q ∈ T_Row_add, decode b_Row_add q.1 = .ok (q.2.1, q.2.2) := by decide +kernel

set_option maxHeartbeats 4000000 in
set_option maxRecDepth 100000 in
theorem ok_Row_add (l : Launch) (hfl : l.flags = pinnedFlags ++ [noTraceFlag]) (D : va_G) (A : Nat → Prop) (σ : Nat) (x0 : Nat) (x1 : Int64) (h : xb_H) (bc : Nat) (bs : Nat) (Qr : xb_H → Nat → Nat → Prop) (hw : w_Row_add x0 x1 h bc bs Qr) : xb_Met l y_Row_add [.code y_Row_add b_Row_add 3 none] (xb_rm 4 bc bs) (xb_Pc D A σ h [.ref x0, .long x1]) (xb_Qc D A h bc bs (fun v h bc bs => v = none ∧ Qr h bc bs) (fun _ _ _ _ => False)) A := by
  refine xb_ofAm (cc := b_Row_add) (by decide) (Nat.le_of_ble_eq_true rfl) ?_
  unfold w_Row_add at hw
  show xb_am l D A σ 4 bc bs h (fun v h bc bs => v = none ∧ Qr h bc bs) (fun _ _ _ _ => False) y_Row_add.cls y_Row_add.name b_Row_add 3 ([] : List ExceptionTableEntry) none 0 [(0, .ref x0), (1, .long x1)] [] h bc bs
  obtain ⟨MC, hMC⟩ : ∃ x, x = bc := ⟨_, rfl⟩
  obtain ⟨MS, hMS⟩ : ∃ x, x = bs := ⟨_, rfl⟩
  rw [show xb_am l D A σ 4 bc bs = xb_am l D A σ 4 MC MS by rw [hMC, hMS]]
  obtain ⟨h0, hh0⟩ : ∃ x, x = h := ⟨_, rfl⟩
  rw [show xb_am l D A σ 4 MC MS h = xb_am l D A σ 4 MC MS h0 by rw [hh0]]
  intro p e s m args below meth c hC H locs ls k n hE hl hR hS hk hn
  obtain ⟨hx, hb, hown, hlocks, htab, hml, hr, hB, hA, hnm⟩ := id hC
  have hts := hB.1.1.at args
  refine lv_aload_n hx hb (xb_d D_Row_add 0 rfl) rfl (lv_at hl 0 rfl) ?_
  refine lv_aload_n hx hb (xb_d D_Row_add 1 rfl) rfl (lv_at hl 0 rfl) ?_
  obtain ⟨hk1, hw⟩ := hw
  refine xb_getI (C := R_Row) (T := F_Row) (N := 3) hx hb 1 1 hts fin_Row hown hR hk1 (by decide) rfl (by decide) rfl (hts _ m_2c4f5cfd) (fun _ h9 => h9) (xb_d D_Row_add 2 rfl) ?_
  refine lv_iconst (v := 1) hx hb (xb_d D_Row_add 3 rfl) (by decide) ?_
  refine lv_iadd hx hb (xb_d D_Row_add 4 rfl) ?_
  refine xb_call (D := D) (A := A) (σ := σ) (h := h) (d := 3) (mc := bc) (ms := bs) (maxL := 2) (rest := []) (av := [.ref x0, .int ((xb_i h x0 1) + 1)]) (fun T hT X => by obtain ⟨cb9, ra9, rb9, rc9⟩ := xb_recv (ci := 1) hR rfl hk1 (by decide); exact xt_invV X hx hown (hts _ m_cbb6e9b1) (hts _ m_624132aa) (hts _ m_74be88f7) (xt_sigOf (hts _ m_8b494096)) nm_Row_makeRoom (by rw [hT]; exact ra9) rb9 rc9 (g := F0 m 7 ls [.int ((xb_i h x0 1) + 1), .ref x0]) rfl (argsL := [.int ((xb_i h x0 1) + 1)]) (rest := []) rfl rfl (by rw [hb]; exact (xb_d D_Row_add 5 rfl))) (ok_Row_makeRoom l hfl D A σ x0 ((xb_i h x0 1) + 1) h bc bs _ hw) (hml.trans hl.1.symm) (by rw [hb]; exact (xb_d D_Row_add 5 rfl)) (Nat.le_of_ble_eq_true rfl) (Nat.le_of_ble_eq_true rfl) (Nat.le_of_ble_eq_true rfl) (show k + bc ≤ MC by omega) (show n + bs ≤ MS by omega) (xt_w1 hB.1 m_8b494096) (xt_cdOf hB.1 m_8b494096) (hts _ m_c1bef504) hB hR hS hA (fun vv h2 bc3 bs3 kk3 nn3 H locs hk3 hn3 hq hEh2 hR hS => ?_) (fun XX ax h2 bc3 bs3 kk3 nn3 H locs hk3 hn3 hq hEh2 hex hR hS => ?_)
  · obtain ⟨rfl, hw⟩ := hq
    have hw := hw hEh2
    have hE := hE.tr hEh2
    refine W.eq (g2 := F0 m 10 ls []) rfl ?_
    refine lv_aload_n hx hb (xb_d D_Row_add 6 rfl) rfl (lv_at hl 0 rfl) ?_
    have hk1 : xb_k h2 x0 = 2 := hEh2.k hk1
    refine xb_getP (C := R_Row) (T := F_Row) (N := 3) hx hb 1 0 hts fin_Row hown hR hk1 (by decide) rfl (by decide) rfl (hts _ m_8e18d96c) (fun _ h9 => h9) (xb_d D_Row_add 7 rfl) ?_
    obtain ⟨b4, eb4, hw⟩ := hw
    refine xb_some eb4 ?_
    refine lv_aload_n hx hb (xb_d D_Row_add 8 rfl) rfl (lv_at hl 0 rfl) ?_
    refine xb_getI (C := R_Row) (T := F_Row) (N := 3) hx hb 1 1 hts fin_Row hown hR hk1 (by decide) rfl (by decide) rfl (hts _ m_2c4f5cfd) (fun _ h9 => h9) (xb_d D_Row_add 9 rfl) ?_
    refine lv_lload_n hx hb (xb_d D_Row_add 10 rfl) rfl (lv_at hl 1 rfl) ?_
    obtain ⟨hk5, hw⟩ := hw
    obtain ⟨hi6, hw⟩ := hw
    refine xb_last hx hb hR hS hk5 hi6 (xb_d D_Row_add 11 rfl) (fun H locs hR hS => ?_)
    obtain ⟨h7, eh7⟩ : ∃ x : xb_H, x = xb_L h2 b4 (Int32.toNatClampNeg (xb_i h2 x0 1)) x1 := ⟨_, rfl⟩
    rw [← eh7] at hR
    have hw := hw h7 eh7
    have hE : xb_ext h0 h7 := by rw [eh7]; exact hE
    refine lv_aload_n hx hb (xb_d D_Row_add 12 rfl) rfl (lv_at hl 0 rfl) ?_
    refine lv_dup hx hb (xb_d D_Row_add 13 rfl) rfl ?_
    have hk1 : xb_k h7 x0 = 2 := by rw [eh7]; exact hk1
    refine xb_getI (C := R_Row) (T := F_Row) (N := 3) hx hb 1 1 hts fin_Row hown hR hk1 (by decide) rfl (by decide) rfl (hts _ m_2c4f5cfd) (fun _ h9 => h9) (xb_d D_Row_add 14 rfl) ?_
    refine lv_iconst (v := 1) hx hb (xb_d D_Row_add 15 rfl) (by decide) ?_
    refine lv_iadd hx hb (xb_d D_Row_add 16 rfl) ?_
    refine xb_putI (C := R_Row) (T := F_Row) (N := 3) (ty := .int) (x := ((xb_i h7 x0 1) + 1)) hx hb 1 1 hts fin_Row t_Row t_Row_ok n_Row hown hR hS hk1 (by decide) rfl (by decide) rfl (hts _ m_2c4f5cfd) (fun _ h9 => h9) rfl (by decide +kernel) rfl rfl (xb_d D_Row_add 17 rfl) (fun H locs hR hS => ?_)
    obtain ⟨h8, eh8⟩ : ∃ x : xb_H, x = xb_I h7 x0 1 ((xb_i h7 x0 1) + 1) := ⟨_, rfl⟩
    rw [← eh8] at hR
    have hw := hw h8 eh8
    have hE : xb_ext h0 h8 := by rw [eh8]; exact hE
    exact xb_vret bc3 bs3 hx hb hr hlocks (show (k + kk3) + bc3 ≤ MC by omega) (show (n + nn3) + bs3 ≤ MS by omega) hE hR hS (xb_d D_Row_add 18 rfl) hw
  · exact False.elim hq

theorem m_a6f16d11 : (.methodLink "StackHost$Row" 36 y_Arrays_fill1 : Cond) ∈ xt_tbl := xt_in (xt_t7 (List.mem_of_getElem? (i := 41) (by decide +kernel))) (by decide +kernel)
theorem m_4775e2a5 : (.static y_Arrays_fill1 : Cond) ∈ xt_tbl := xt_in (xt_t7 (List.mem_of_getElem? (i := 42) (by decide +kernel))) (by decide +kernel)
theorem m_afc58b1e : (.code y_Arrays_fill1 b_Arrays_fill1 6 none : Cond) ∈ xt_tbl := xt_in (xt_t7 (List.mem_of_getElem? (i := 43) (by decide +kernel))) (by decide +kernel)
theorem nm_Arrays_fill1 : xt_nm y_Arrays_fill1 4 := ⟨by decide +kernel, by decide +kernel⟩
set_option maxRecDepth 100000 in
def T_Row_addMany : List (Nat × Instr × Nat) := [(0, .aload_n 0, 1), (1, .aload_n 0, 1), (2, .getfield 29, 3), (5, .iload_n 1, 1), (6, .iadd, 1), (7, .invokevirtual 32, 3), (10, .aload_n 0, 1), (11, .getfield 13, 3), (14, .aload_n 0, 1), (15, .getfield 29, 3), (18, .aload_n 0, 1), (19, .getfield 29, 3), (22, .iload_n 1, 1), (23, .iadd, 1), (24, .lload_n 2, 1), (25, .invokestatic 36, 3), (28, .aload_n 0, 1), (29, .dup, 1), (30, .getfield 29, 3), (33, .iload_n 1, 1), (34, .iadd, 1), (35, .putfield 29, 3), (38, .return_, 1)]
theorem D_Row_addMany : ∀ q ∈ T_Row_addMany, decode b_Row_addMany q.1 = .ok (q.2.1, q.2.2) := by decide +kernel

set_option maxHeartbeats 4000000 in
set_option maxRecDepth 100000 in
theorem ok_Row_addMany (l : Launch) (hfl : l.flags = pinnedFlags ++ [noTraceFlag]) (D : va_G) (A : Nat → Prop) (σ : Nat) (x0 : Nat) (x1 : Int32) (x2 : Int64) (h : xb_H) (bc : Nat) (bs : Nat) (Qr : xb_H → Nat → Nat → Prop) (hw : w_Row_addMany x0 x1 x2 h bc bs Qr) : xb_Met l y_Row_addMany [.code y_Row_addMany b_Row_addMany 4 none] (xb_rm 4 bc bs) (xb_Pc D A σ h [.ref x0, .int x1, .long x2]) (xb_Qc D A h bc bs (fun v h bc bs => v = none ∧ Qr h bc bs) (fun _ _ _ _ => False)) A := by
  refine xb_ofAm (cc := b_Row_addMany) (by decide) (Nat.le_of_ble_eq_true rfl) ?_
  unfold w_Row_addMany at hw
  show xb_am l D A σ 4 bc bs h (fun v h bc bs => v = none ∧ Qr h bc bs) (fun _ _ _ _ => False) y_Row_addMany.cls y_Row_addMany.name b_Row_addMany 4 ([] : List ExceptionTableEntry) none 0 [(0, .ref x0), (1, .int x1), (2, .long x2)] [] h bc bs
  obtain ⟨MC, hMC⟩ : ∃ x, x = bc := ⟨_, rfl⟩
  obtain ⟨MS, hMS⟩ : ∃ x, x = bs := ⟨_, rfl⟩
  rw [show xb_am l D A σ 4 bc bs = xb_am l D A σ 4 MC MS by rw [hMC, hMS]]
  obtain ⟨h0, hh0⟩ : ∃ x, x = h := ⟨_, rfl⟩
  rw [show xb_am l D A σ 4 MC MS h = xb_am l D A σ 4 MC MS h0 by rw [hh0]]
  intro p e s m args below meth c hC H locs ls k n hE hl hR hS hk hn
  obtain ⟨hx, hb, hown, hlocks, htab, hml, hr, hB, hA, hnm⟩ := id hC
  have hts := hB.1.1.at args
  refine lv_aload_n hx hb (xb_d D_Row_addMany 0 rfl) rfl (lv_at hl 0 rfl) ?_
  refine lv_aload_n hx hb (xb_d D_Row_addMany 1 rfl) rfl (lv_at hl 0 rfl) ?_
  obtain ⟨hk1, hw⟩ := hw
  refine xb_getI (C := R_Row) (T := F_Row) (N := 3) hx hb 1 1 hts fin_Row hown hR hk1 (by decide) rfl (by decide) rfl (hts _ m_2c4f5cfd) (fun _ h9 => h9) (xb_d D_Row_addMany 2 rfl) ?_
  refine lv_iload_n hx hb (xb_d D_Row_addMany 3 rfl) rfl (lv_at hl 1 rfl) ?_
  refine lv_iadd hx hb (xb_d D_Row_addMany 4 rfl) ?_
  refine xb_call (D := D) (A := A) (σ := σ) (h := h) (d := 3) (mc := bc) (ms := bs) (maxL := 2) (rest := []) (av := [.ref x0, .int ((xb_i h x0 1) + x1)]) (fun T hT X => by obtain ⟨cb9, ra9, rb9, rc9⟩ := xb_recv (ci := 1) hR rfl hk1 (by decide); exact xt_invV X hx hown (hts _ m_cbb6e9b1) (hts _ m_624132aa) (hts _ m_74be88f7) (xt_sigOf (hts _ m_8b494096)) nm_Row_makeRoom (by rw [hT]; exact ra9) rb9 rc9 (g := F0 m 7 ls [.int ((xb_i h x0 1) + x1), .ref x0]) rfl (argsL := [.int ((xb_i h x0 1) + x1)]) (rest := []) rfl rfl (by rw [hb]; exact (xb_d D_Row_addMany 5 rfl))) (ok_Row_makeRoom l hfl D A σ x0 ((xb_i h x0 1) + x1) h bc bs _ hw) (hml.trans hl.1.symm) (by rw [hb]; exact (xb_d D_Row_addMany 5 rfl)) (Nat.le_of_ble_eq_true rfl) (Nat.le_of_ble_eq_true rfl) (Nat.le_of_ble_eq_true rfl) (show k + bc ≤ MC by omega) (show n + bs ≤ MS by omega) (xt_w1 hB.1 m_8b494096) (xt_cdOf hB.1 m_8b494096) (hts _ m_c1bef504) hB hR hS hA (fun vv h2 bc3 bs3 kk3 nn3 H locs hk3 hn3 hq hEh2 hR hS => ?_) (fun XX ax h2 bc3 bs3 kk3 nn3 H locs hk3 hn3 hq hEh2 hex hR hS => ?_)
  · obtain ⟨rfl, hw⟩ := hq
    have hw := hw hEh2
    have hE := hE.tr hEh2
    refine W.eq (g2 := F0 m 10 ls []) rfl ?_
    refine lv_aload_n hx hb (xb_d D_Row_addMany 6 rfl) rfl (lv_at hl 0 rfl) ?_
    have hk1 : xb_k h2 x0 = 2 := hEh2.k hk1
    refine xb_getP (C := R_Row) (T := F_Row) (N := 3) hx hb 1 0 hts fin_Row hown hR hk1 (by decide) rfl (by decide) rfl (hts _ m_8e18d96c) (fun _ h9 => h9) (xb_d D_Row_addMany 7 rfl) ?_
    obtain ⟨b4, eb4, hw⟩ := hw
    refine xb_some eb4 ?_
    refine lv_aload_n hx hb (xb_d D_Row_addMany 8 rfl) rfl (lv_at hl 0 rfl) ?_
    refine xb_getI (C := R_Row) (T := F_Row) (N := 3) hx hb 1 1 hts fin_Row hown hR hk1 (by decide) rfl (by decide) rfl (hts _ m_2c4f5cfd) (fun _ h9 => h9) (xb_d D_Row_addMany 9 rfl) ?_
    refine lv_aload_n hx hb (xb_d D_Row_addMany 10 rfl) rfl (lv_at hl 0 rfl) ?_
    refine xb_getI (C := R_Row) (T := F_Row) (N := 3) hx hb 1 1 hts fin_Row hown hR hk1 (by decide) rfl (by decide) rfl (hts _ m_2c4f5cfd) (fun _ h9 => h9) (xb_d D_Row_addMany 11 rfl) ?_
    refine lv_iload_n hx hb (xb_d D_Row_addMany 12 rfl) rfl (lv_at hl 1 rfl) ?_
    refine lv_iadd hx hb (xb_d D_Row_addMany 13 rfl) ?_
    refine lv_lload_n hx hb (xb_d D_Row_addMany 14 rfl) rfl (lv_at hl 2 rfl) ?_
    refine xb_call0 (D := D) (A := A) (σ := σ) (h := h2) (d := 3) (maxL := 6) (rest := []) (av := [.ref b4, .int (xb_i h2 x0 1), .int ((xb_i h2 x0 1) + x1), .long x2]) (fun T hT X => xt_invS X hx hown (hts _ m_a6f16d11) (hts _ m_4775e2a5) (hts _ m_b999e92a) (xt_sgS (hts _ m_afc58b1e)).1 (xt_sgS (hts _ m_afc58b1e)).2 nm_Arrays_fill1 (g := F0 m 25 ls [.long x2, .int ((xb_i h2 x0 1) + x1), .int (xb_i h2 x0 1), .ref b4]) rfl (argsL := [.ref b4, .int (xb_i h2 x0 1), .int ((xb_i h2 x0 1) + x1), .long x2]) (rest := []) rfl rfl (by rw [hb]; exact (xb_d D_Row_addMany 15 rfl))) (ok_Arrays_fill1 l hfl D A σ b4 (xb_i h2 x0 1) ((xb_i h2 x0 1) + x1) x2 h2 _ hw) (hml.trans hl.1.symm) (by rw [hb]; exact (xb_d D_Row_addMany 15 rfl)) (Nat.le_of_ble_eq_true rfl) (Nat.le_of_ble_eq_true rfl) (Nat.le_of_ble_eq_true rfl) (show (k + kk3) ≤ MC by omega) (show (n + nn3) ≤ MS by omega) (xt_w1 hB.1 m_afc58b1e) (xt_cdOf hB.1 m_afc58b1e) (hts _ m_b999e92a) hB hR hS hA (fun vv h5 H locs hq hEh5 hR hS => ?_)
    obtain ⟨rfl, hw⟩ := hq
    have hw := hw hEh5
    have hE := hE.tr hEh5
    refine W.eq (g2 := F0 m 28 ls []) rfl ?_
    refine lv_aload_n hx hb (xb_d D_Row_addMany 16 rfl) rfl (lv_at hl 0 rfl) ?_
    refine lv_dup hx hb (xb_d D_Row_addMany 17 rfl) rfl ?_
    have hk1 : xb_k h5 x0 = 2 := hEh5.k hk1
    refine xb_getI (C := R_Row) (T := F_Row) (N := 3) hx hb 1 1 hts fin_Row hown hR hk1 (by decide) rfl (by decide) rfl (hts _ m_2c4f5cfd) (fun _ h9 => h9) (xb_d D_Row_addMany 18 rfl) ?_
    refine lv_iload_n hx hb (xb_d D_Row_addMany 19 rfl) rfl (lv_at hl 1 rfl) ?_
    refine lv_iadd hx hb (xb_d D_Row_addMany 20 rfl) ?_
    refine xb_putI (C := R_Row) (T := F_Row) (N := 3) (ty := .int) (x := ((xb_i h5 x0 1) + x1)) hx hb 1 1 hts fin_Row t_Row t_Row_ok n_Row hown hR hS hk1 (by decide) rfl (by decide) rfl (hts _ m_2c4f5cfd) (fun _ h9 => h9) rfl (by decide +kernel) rfl rfl (xb_d D_Row_addMany 21 rfl) (fun H locs hR hS => ?_)
    obtain ⟨h7, eh7⟩ : ∃ x : xb_H, x = xb_I h5 x0 1 ((xb_i h5 x0 1) + x1) := ⟨_, rfl⟩
    rw [← eh7] at hR
    have hw := hw h7 eh7
    have hE : xb_ext h0 h7 := by rw [eh7]; exact hE
    exact xb_vret bc3 bs3 hx hb hr hlocks (show (k + kk3) + bc3 ≤ MC by omega) (show (n + nn3) + bs3 ≤ MS by omega) hE hR hS (xb_d D_Row_addMany 22 rfl) hw
  · exact False.elim hq

