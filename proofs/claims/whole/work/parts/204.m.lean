theorem m_6a1d9b01 : (.fieldLink "StackHostModel" 33 "StackHostModel" "entry" "[I" : Cond) ∈ xt_tbl := xt_in (xt_t9 (List.mem_of_getElem? (i := 150) (by decide +kernel))) (by decide +kernel)
theorem m_d9ebb8df : (.fieldLink "StackHostModel" 272 "StackHostModel" "entries" "I" : Cond) ∈ xt_tbl := xt_in (xt_t9 (List.mem_of_getElem? (i := 152) (by decide +kernel))) (by decide +kernel)
theorem m_82208c1c : (.fieldLink "StackHostModel" 36 "StackHostModel" "room" "[I" : Cond) ∈ xt_tbl := xt_in (xt_t9 (List.mem_of_getElem? (i := 151) (by decide +kernel))) (by decide +kernel)
set_option maxRecDepth 100000 in
def T_M_note : List (Nat × Instr × Nat) := [(0, .aload_n 0, 1), (1, .getfield 272, 3), (4, .aload_n 0, 1), (5, .getfield 33, 3), (8, .arraylength, 1), (9, .if_icmp .ne 71, 3), (12, .iconst 2, 1), (13, .aload_n 0, 1), (14, .getfield 272, 3), (17, .imul, 1), (18, .newarray .int, 2), (20, .astore_n 2, 1), (21, .iconst 2, 1), (22, .aload_n 0, 1), (23, .getfield 272, 3), (26, .imul, 1), (27, .newarray .int, 2), (29, .astore_n 3, 1), (30, .iconst 0, 1), (31, .istore 4, 2), (33, .iload 4, 2), (35, .aload_n 0, 1), (36, .getfield 272, 3), (39, .if_icmp .ge 31, 3), (42, .aload_n 2, 1), (43, .iload 4, 2), (45, .aload_n 0, 1), (46, .getfield 33, 3), (49, .iload 4, 2), (51, .iaload, 1), (52, .iastore, 1), (53, .aload_n 3, 1), (54, .iload 4, 2), (56, .aload_n 0, 1), (57, .getfield 36, 3), (60, .iload 4, 2), (62, .iaload, 1), (63, .iastore, 1), (64, .iinc 4 1, 3), (67, .goto (-34), 3), (70, .aload_n 0, 1), (71, .aload_n 2, 1), (72, .putfield 33, 3), (75, .aload_n 0, 1), (76, .aload_n 3, 1), (77, .putfield 36, 3), (80, .aload_n 0, 1), (81, .getfield 33, 3), (84, .aload_n 0, 1), (85, .getfield 272, 3), (88, .aload_n 0, 1), (89, .getfield 202, 3), (92, .iastore, 1), (93, .aload_n 0, 1), (94, .dup, 1), (95, .getfield 272, 3), (98, .iconst 1, 1), (99, .iadd, 1), (100, .putfield 272, 3), (103, .aload_n 0, 1), (104, .getfield 27, 3), (107, .bipush 12, 2), (109, .aload_n 0, 1), (110, .getfield 275, 3), (113, .imul, 1), (114, .iload_n 1, 1), (115, .iadd, 1), (116, .dup2, 1), (117, .iaload, 1), (118, .iconst 1, 1), (119, .iadd, 1), (120, .iastore, 1), (121, .return_, 1)]
theorem D_M_note : ∀ q ∈ T_M_note, decode b_M_note q.1 = .ok (q.2.1, q.2.2) := by decide +kernel

set_option maxHeartbeats 4000000 in
set_option maxRecDepth 100000 in
theorem am_M_note_L80 (l : Launch) (hfl : l.flags = pinnedFlags ++ [noTraceFlag]) (D : va_G) (A : Nat → Prop) (σ MC MS : Nat) (h0 : xb_H) (Qr : xb_H → Nat → Nat → Prop) (x0 : Nat) (x1 : Int32) (h : xb_H) (bc : Nat) (bs : Nat) (hw : w_M_note_L80 Qr x0 x1 h bc bs) : xb_am l D A σ 2 MC MS h0 (fun v h bc bs => v = none ∧ Qr h bc bs) (fun _ _ _ _ => False) y_M_note.cls y_M_note.name b_M_note 5 ([] : List ExceptionTableEntry) none 80 [(0, .ref x0), (1, .int x1)] [] h bc bs := by
  unfold w_M_note_L80 at hw
  intro p e s m args below meth c hC H locs ls k n hE hl hR hS hk hn
  obtain ⟨hx, hb, hown, hlocks, htab, hml, hr, hB, hA, hnm⟩ := id hC
  have hts := hB.1.1.at args
  refine lv_aload_n hx hb (xb_d D_M_note 46 rfl) rfl (lv_at hl 0 rfl) ?_
  obtain ⟨hk1, hw⟩ := hw
  refine xb_getP (C := R_M) (T := F_M) (N := 97) hx hb 8 11 hts fin_M hown hR hk1 (by decide) rfl (by decide) rfl (hts _ m_6a1d9b01) (fun _ h9 => h9) (xb_d D_M_note 47 rfl) ?_
  obtain ⟨b2, eb2, hw⟩ := hw
  refine xb_some eb2 ?_
  refine lv_aload_n hx hb (xb_d D_M_note 48 rfl) rfl (lv_at hl 0 rfl) ?_
  refine xb_getI (C := R_M) (T := F_M) (N := 97) hx hb 8 13 hts fin_M hown hR hk1 (by decide) rfl (by decide) rfl (hts _ m_d9ebb8df) (fun _ h9 => h9) (xb_d D_M_note 49 rfl) ?_
  refine lv_aload_n hx hb (xb_d D_M_note 50 rfl) rfl (lv_at hl 0 rfl) ?_
  refine xb_getI (C := R_M) (T := F_M) (N := 97) hx hb 8 15 hts fin_M hown hR hk1 (by decide) rfl (by decide) rfl (hts _ m_6c2d27ad) (fun _ h9 => h9) (xb_d D_M_note 51 rfl) ?_
  obtain ⟨hk3, hw⟩ := hw
  obtain ⟨hi4, hw⟩ := hw
  refine xb_iast hx hb hR hS hk3 hi4 (xb_d D_M_note 52 rfl) (fun H locs hR hS => ?_)
  obtain ⟨h5, eh5⟩ : ∃ x : xb_H, x = xb_I h b2 (Int32.toNatClampNeg (xb_i h x0 13)) (xb_i h x0 15) := ⟨_, rfl⟩
  rw [← eh5] at hR
  have hw := hw h5 eh5
  have hE : xb_ext h0 h5 := by rw [eh5]; exact hE
  refine lv_aload_n hx hb (xb_d D_M_note 53 rfl) rfl (lv_at hl 0 rfl) ?_
  refine lv_dup hx hb (xb_d D_M_note 54 rfl) rfl ?_
  have hk1 : xb_k h5 x0 = 9 := by rw [eh5]; exact hk1
  refine xb_getI (C := R_M) (T := F_M) (N := 97) hx hb 8 13 hts fin_M hown hR hk1 (by decide) rfl (by decide) rfl (hts _ m_d9ebb8df) (fun _ h9 => h9) (xb_d D_M_note 55 rfl) ?_
  refine lv_iconst (v := 1) hx hb (xb_d D_M_note 56 rfl) (by decide) ?_
  refine lv_iadd hx hb (xb_d D_M_note 57 rfl) ?_
  refine xb_putI (C := R_M) (T := F_M) (N := 97) (ty := .int) (x := ((xb_i h5 x0 13) + 1)) hx hb 8 13 hts fin_M t_M t_M_ok n_M hown hR hS hk1 (by decide) rfl (by decide) rfl (hts _ m_d9ebb8df) (fun _ h9 => h9) rfl (by decide +kernel) rfl rfl (xb_d D_M_note 58 rfl) (fun H locs hR hS => ?_)
  obtain ⟨h6, eh6⟩ : ∃ x : xb_H, x = xb_I h5 x0 13 ((xb_i h5 x0 13) + 1) := ⟨_, rfl⟩
  rw [← eh6] at hR
  have hw := hw h6 eh6
  have hE : xb_ext h0 h6 := by rw [eh6]; exact hE
  refine lv_aload_n hx hb (xb_d D_M_note 59 rfl) rfl (lv_at hl 0 rfl) ?_
  have hk1 : xb_k h6 x0 = 9 := by rw [eh6]; exact hk1
  refine xb_getP (C := R_M) (T := F_M) (N := 97) hx hb 8 9 hts fin_M hown hR hk1 (by decide) rfl (by decide) rfl (hts _ m_fea26463) (fun _ h9 => h9) (xb_d D_M_note 60 rfl) ?_
  obtain ⟨b7, eb7, hw⟩ := hw
  refine xb_some eb7 ?_
  refine lv_bipush (v := 12) hx hb (xb_d D_M_note 61 rfl) (by decide) ?_
  refine lv_aload_n hx hb (xb_d D_M_note 62 rfl) rfl (lv_at hl 0 rfl) ?_
  refine xb_getI (C := R_M) (T := F_M) (N := 97) hx hb 8 5 hts fin_M hown hR hk1 (by decide) rfl (by decide) rfl (hts _ m_b0f42f6b) (fun _ h9 => h9) (xb_d D_M_note 63 rfl) ?_
  refine lv_imul hx hb (xb_d D_M_note 64 rfl) ?_
  refine lv_iload_n hx hb (xb_d D_M_note 65 rfl) rfl (lv_at hl 1 rfl) ?_
  refine lv_iadd hx hb (xb_d D_M_note 66 rfl) ?_
  refine lv_dup2_11 hx hb (xb_d D_M_note 67 rfl) rfl rfl ?_
  obtain ⟨hk9, hw⟩ := hw
  obtain ⟨hi8, hw⟩ := hw
  refine xb_iald hx hb hR hk9 hi8 (xb_d D_M_note 68 rfl) ?_
  refine lv_iconst (v := 1) hx hb (xb_d D_M_note 69 rfl) (by decide) ?_
  refine lv_iadd hx hb (xb_d D_M_note 70 rfl) ?_
  obtain ⟨hi10, hw⟩ := hw
  refine xb_iast hx hb hR hS hk9 hi10 (xb_d D_M_note 71 rfl) (fun H locs hR hS => ?_)
  obtain ⟨h11, eh11⟩ : ∃ x : xb_H, x = xb_I h6 b7 (Int32.toNatClampNeg ((12 * (xb_i h6 x0 5)) + x1)) ((xb_i h6 b7 (Int32.toNatClampNeg ((12 * (xb_i h6 x0 5)) + x1))) + 1) := ⟨_, rfl⟩
  rw [← eh11] at hR
  have hw := hw h11 eh11
  have hE : xb_ext h0 h11 := by rw [eh11]; exact hE
  exact xb_vret bc bs hx hb hr hlocks (show k + bc ≤ MC by omega) (show n + bs ≤ MS by omega) hE hR hS (xb_d D_M_note 72 rfl) hw

set_option maxHeartbeats 4000000 in
set_option maxRecDepth 100000 in
theorem am_M_note_L33 (l : Launch) (hfl : l.flags = pinnedFlags ++ [noTraceFlag]) (D : va_G) (A : Nat → Prop) (σ MC MS : Nat) (h0 : xb_H) (Qr : xb_H → Nat → Nat → Prop) (n9 : Nat) : ∀ (x0 : Nat) (x1 : Int32) (x2 : Nat) (x3 : Nat) (x4 : Int32) (h : xb_H) (bc : Nat) (bs : Nat), w_M_note_L33 Qr n9 x0 x1 x2 x3 x4 h bc bs → xb_am l D A σ 2 MC MS h0 (fun v h bc bs => v = none ∧ Qr h bc bs) (fun _ _ _ _ => False) y_M_note.cls y_M_note.name b_M_note 5 ([] : List ExceptionTableEntry) none 33 [(0, .ref x0), (1, .int x1), (2, .ref x2), (3, .ref x3), (4, .int x4)] [] h bc bs := by
  induction n9 with
  | zero => intro x0 x1 x2 x3 x4 h bc bs hw; exact False.elim hw
  | succ n9 ih =>
    intro x0 x1 x2 x3 x4 h bc bs hw
    unfold w_M_note_L33 at hw
    intro p e s m args below meth c hC H locs ls k n hE hl hR hS hk hn
    obtain ⟨hx, hb, hown, hlocks, htab, hml, hr, hB, hA, hnm⟩ := id hC
    have hts := hB.1.1.at args
    refine lv_iload hx hb (xb_d D_M_note 20 rfl) (lv_at hl 4 rfl) ?_
    refine lv_aload_n hx hb (xb_d D_M_note 21 rfl) rfl (lv_at hl 0 rfl) ?_
    obtain ⟨hk1, hw⟩ := hw
    refine xb_getI (C := R_M) (T := F_M) (N := 97) hx hb 8 13 hts fin_M hown hR hk1 (by decide) rfl (by decide) rfl (hts _ m_d9ebb8df) (fun _ h9 => h9) (xb_d D_M_note 22 rfl) ?_
    refine lv_icmp_ge (tgt := 70) hx hb (xb_d D_M_note 23 rfl) rfl (fun hc2 => ?_) (fun hc2 => ?_)
    · have hw := hw.1 hc2
      refine lv_aload_n hx hb (xb_d D_M_note 40 rfl) rfl (lv_at hl 0 rfl) ?_
      refine lv_aload_n hx hb (xb_d D_M_note 41 rfl) rfl (lv_at hl 2 rfl) ?_
      refine xb_putP (C := R_M) (T := F_M) (N := 97) (ty := .array .int) (x := (some x2)) hx hb 8 11 hts fin_M t_M t_M_ok n_M hown hR hS hk1 (by decide) rfl (by decide) rfl (hts _ m_6a1d9b01) (fun _ h9 => h9) rfl (by decide +kernel) (xb_pnA _ _).1 (xb_pnA _ _).2 (xb_d D_M_note 42 rfl) (fun H locs hR hS => ?_)
      obtain ⟨h3, eh3⟩ : ∃ x : xb_H, x = xb_P h x0 11 (some x2) := ⟨_, rfl⟩
      rw [← eh3] at hR
      have hw := hw h3 eh3
      have hE : xb_ext h0 h3 := by rw [eh3]; exact hE
      refine lv_aload_n hx hb (xb_d D_M_note 43 rfl) rfl (lv_at hl 0 rfl) ?_
      refine lv_aload_n hx hb (xb_d D_M_note 44 rfl) rfl (lv_at hl 3 rfl) ?_
      have hk1 : xb_k h3 x0 = 9 := by rw [eh3]; exact hk1
      refine xb_putP (C := R_M) (T := F_M) (N := 97) (ty := .array .int) (x := (some x3)) hx hb 8 12 hts fin_M t_M t_M_ok n_M hown hR hS hk1 (by decide) rfl (by decide) rfl (hts _ m_82208c1c) (fun _ h9 => h9) rfl (by decide +kernel) (xb_pnA _ _).1 (xb_pnA _ _).2 (xb_d D_M_note 45 rfl) (fun H locs hR hS => ?_)
      obtain ⟨h4, eh4⟩ : ∃ x : xb_H, x = xb_P h3 x0 12 (some x3) := ⟨_, rfl⟩
      rw [← eh4] at hR
      have hw := hw h4 eh4
      have hE : xb_ext h0 h4 := by rw [eh4]; exact hE
      exact am_M_note_L80 l hfl D A σ MC MS h0 Qr x0 x1 h4 bc bs hw p e s m args below meth c hC H locs ls k n hE (lv_sub hl [0, 1] rfl) hR hS (by omega) (by omega)
    · have hw := hw.2 hc2
      refine lv_aload_n hx hb (xb_d D_M_note 24 rfl) rfl (lv_at hl 2 rfl) ?_
      refine lv_iload hx hb (xb_d D_M_note 25 rfl) (lv_at hl 4 rfl) ?_
      refine lv_aload_n hx hb (xb_d D_M_note 26 rfl) rfl (lv_at hl 0 rfl) ?_
      refine xb_getP (C := R_M) (T := F_M) (N := 97) hx hb 8 11 hts fin_M hown hR hk1 (by decide) rfl (by decide) rfl (hts _ m_6a1d9b01) (fun _ h9 => h9) (xb_d D_M_note 27 rfl) ?_
      obtain ⟨b5, eb5, hw⟩ := hw
      refine xb_some eb5 ?_
      refine lv_iload hx hb (xb_d D_M_note 28 rfl) (lv_at hl 4 rfl) ?_
      obtain ⟨hk7, hw⟩ := hw
      obtain ⟨hi6, hw⟩ := hw
      refine xb_iald hx hb hR hk7 hi6 (xb_d D_M_note 29 rfl) ?_
      obtain ⟨hk8, hw⟩ := hw
      obtain ⟨hi9, hw⟩ := hw
      refine xb_iast hx hb hR hS hk8 hi9 (xb_d D_M_note 30 rfl) (fun H locs hR hS => ?_)
      obtain ⟨h10, eh10⟩ : ∃ x : xb_H, x = xb_I h x2 (Int32.toNatClampNeg x4) (xb_i h b5 (Int32.toNatClampNeg x4)) := ⟨_, rfl⟩
      rw [← eh10] at hR
      have hw := hw h10 eh10
      have hE : xb_ext h0 h10 := by rw [eh10]; exact hE
      refine lv_aload_n hx hb (xb_d D_M_note 31 rfl) rfl (lv_at hl 3 rfl) ?_
      refine lv_iload hx hb (xb_d D_M_note 32 rfl) (lv_at hl 4 rfl) ?_
      refine lv_aload_n hx hb (xb_d D_M_note 33 rfl) rfl (lv_at hl 0 rfl) ?_
      have hk1 : xb_k h10 x0 = 9 := by rw [eh10]; exact hk1
      refine xb_getP (C := R_M) (T := F_M) (N := 97) hx hb 8 12 hts fin_M hown hR hk1 (by decide) rfl (by decide) rfl (hts _ m_82208c1c) (fun _ h9 => h9) (xb_d D_M_note 34 rfl) ?_
      obtain ⟨b11, eb11, hw⟩ := hw
      refine xb_some eb11 ?_
      refine lv_iload hx hb (xb_d D_M_note 35 rfl) (lv_at hl 4 rfl) ?_
      obtain ⟨hk13, hw⟩ := hw
      obtain ⟨hi12, hw⟩ := hw
      refine xb_iald hx hb hR hk13 hi12 (xb_d D_M_note 36 rfl) ?_
      obtain ⟨hk14, hw⟩ := hw
      obtain ⟨hi15, hw⟩ := hw
      refine xb_iast hx hb hR hS hk14 hi15 (xb_d D_M_note 37 rfl) (fun H locs hR hS => ?_)
      obtain ⟨h16, eh16⟩ : ∃ x : xb_H, x = xb_I h10 x3 (Int32.toNatClampNeg x4) (xb_i h10 b11 (Int32.toNatClampNeg x4)) := ⟨_, rfl⟩
      rw [← eh16] at hR
      have hw := hw h16 eh16
      have hE : xb_ext h0 h16 := by rw [eh16]; exact hE
      refine lv_iinc (v := (x4 + 1)) (k := 4) hx hb (xb_d D_M_note 38 rfl) hl rfl (by first | rfl | decide) (by decide) rfl (fun ls hl => ?_)
      have hl : lv_has ls 5 [(4, .int (x4 + 1)), (0, .ref x0), (1, .int x1), (2, .ref x2), (3, .ref x3)] := hl
      refine lv_goto (tgt := 33) hx hb (xb_d D_M_note 39 rfl) rfl ?_
      exact ih x0 x1 x2 x3 (x4 + 1) h16 bc bs hw p e s m args below meth c hC H locs ls k n hE (lv_sub hl [1, 2, 3, 4, 0] rfl) hR hS (by omega) (by omega)

set_option maxHeartbeats 4000000 in
set_option maxRecDepth 100000 in
theorem ok_M_note (l : Launch) (hfl : l.flags = pinnedFlags ++ [noTraceFlag]) (D : va_G) (A : Nat → Prop) (σ : Nat) (x0 : Nat) (x1 : Int32) (h : xb_H) (bc : Nat) (bs : Nat) (Qr : xb_H → Nat → Nat → Prop) (hw : w_M_note x0 x1 h bc bs Qr) : xb_Met l y_M_note [.code y_M_note b_M_note 5 none] (xb_rm 2 bc bs) (xb_Pc D A σ h [.ref x0, .int x1]) (xb_Qc D A h bc bs (fun v h bc bs => v = none ∧ Qr h bc bs) (fun _ _ _ _ => False)) A := by
  refine xb_ofAm (cc := b_M_note) (by decide) (Nat.le_of_ble_eq_true rfl) ?_
  unfold w_M_note at hw
  show xb_am l D A σ 2 bc bs h (fun v h bc bs => v = none ∧ Qr h bc bs) (fun _ _ _ _ => False) y_M_note.cls y_M_note.name b_M_note 5 ([] : List ExceptionTableEntry) none 0 [(0, .ref x0), (1, .int x1)] [] h bc bs
  obtain ⟨MC, hMC⟩ : ∃ x, x = bc := ⟨_, rfl⟩
  obtain ⟨MS, hMS⟩ : ∃ x, x = bs := ⟨_, rfl⟩
  rw [show xb_am l D A σ 2 bc bs = xb_am l D A σ 2 MC MS by rw [hMC, hMS]]
  obtain ⟨h0, hh0⟩ : ∃ x, x = h := ⟨_, rfl⟩
  rw [show xb_am l D A σ 2 MC MS h = xb_am l D A σ 2 MC MS h0 by rw [hh0]]
  intro p e s m args below meth c hC H locs ls k n hE hl hR hS hk hn
  obtain ⟨hx, hb, hown, hlocks, htab, hml, hr, hB, hA, hnm⟩ := id hC
  have hts := hB.1.1.at args
  refine lv_aload_n hx hb (xb_d D_M_note 0 rfl) rfl (lv_at hl 0 rfl) ?_
  obtain ⟨hk1, hw⟩ := hw
  refine xb_getI (C := R_M) (T := F_M) (N := 97) hx hb 8 13 hts fin_M hown hR hk1 (by decide) rfl (by decide) rfl (hts _ m_d9ebb8df) (fun _ h9 => h9) (xb_d D_M_note 1 rfl) ?_
  refine lv_aload_n hx hb (xb_d D_M_note 2 rfl) rfl (lv_at hl 0 rfl) ?_
  refine xb_getP (C := R_M) (T := F_M) (N := 97) hx hb 8 11 hts fin_M hown hR hk1 (by decide) rfl (by decide) rfl (hts _ m_6a1d9b01) (fun _ h9 => h9) (xb_d D_M_note 3 rfl) ?_
  obtain ⟨b2, eb2, hw⟩ := hw
  refine xb_some eb2 ?_
  obtain ⟨hk3, hw⟩ := hw
  refine xb_alen hx hb hR hk3 (by decide) (xb_d D_M_note 4 rfl) ?_
  refine lv_icmp_ne (tgt := 80) hx hb (xb_d D_M_note 5 rfl) rfl (fun hc4 => ?_) (fun hc4 => ?_)
  · have hw := hw.1 hc4
    exact am_M_note_L80 l hfl D A σ MC MS h0 Qr x0 x1 h bc bs hw p e s m args below meth c hC H locs ls k n hE (lv_sub hl [0, 1] rfl) hR hS (by omega) (by omega)
  · have hw := hw.2 hc4
    refine lv_iconst (v := 2) hx hb (xb_d D_M_note 6 rfl) (by decide) ?_
    refine lv_aload_n hx hb (xb_d D_M_note 7 rfl) rfl (lv_at hl 0 rfl) ?_
    refine xb_getI (C := R_M) (T := F_M) (N := 97) hx hb 8 13 hts fin_M hown hR hk1 (by decide) rfl (by decide) rfl (hts _ m_d9ebb8df) (fun _ h9 => h9) (xb_d D_M_note 8 rfl) ?_
    refine lv_imul hx hb (xb_d D_M_note 9 rfl) ?_
    obtain ⟨hnq5, hbq5, hcq5, hsq5, hw⟩ := hw
    have enq5 : (Int32.toNatClampNeg (2 * (xb_i h x0 13))) = (Int32.toNatClampNeg (2 * (xb_i h x0 13))) := rfl
    refine xb_newa_i hx hb (hts _ m_d160d5ac) hR hS hA hnq5 hbq5 (show k + 1 ≤ MC by omega) (show n + _ ≤ MS by rw [enq5]; omega) (xb_d D_M_note 10 rfl) (fun q5 H hqq5 hR hS => ?_)
    rw [enq5] at hR ⊢
    have hw := hw q5 hqq5
    obtain ⟨h6, eh6⟩ : ∃ x : xb_H, x = xb_new h q5 102 (Int32.toNatClampNeg (2 * (xb_i h x0 13))) := ⟨_, rfl⟩
    rw [← eh6] at hR
    have hw := hw h6 eh6
    have hE : xb_ext h0 h6 := by rw [eh6]; exact hE.new _ _ hqq5
    have hk7 : xb_k h6 q5 = 102 := by rw [eh6]; exact xb_new_k _ _ _ _
    refine lv_astore_n hx hb (xb_d D_M_note 11 rfl) rfl hl (by decide) rfl (fun ls hl => ?_)
    have hl : lv_has ls 5 [(2, .ref q5), (0, .ref x0), (1, .int x1)] := hl
    refine lv_iconst (v := 2) hx hb (xb_d D_M_note 12 rfl) (by decide) ?_
    refine lv_aload_n hx hb (xb_d D_M_note 13 rfl) rfl (lv_at hl 1 rfl) ?_
    have hk1 : xb_k h6 x0 = 9 := by rw [eh6]; exact xb_nk hqq5 hk1
    refine xb_getI (C := R_M) (T := F_M) (N := 97) hx hb 8 13 hts fin_M hown hR hk1 (by decide) rfl (by decide) rfl (hts _ m_d9ebb8df) (fun _ h9 => h9) (xb_d D_M_note 14 rfl) ?_
    refine lv_imul hx hb (xb_d D_M_note 15 rfl) ?_
    obtain ⟨hnq8, hbq8, hcq8, hsq8, hw⟩ := hw
    have enq8 : (Int32.toNatClampNeg (2 * (xb_i h6 x0 13))) = (Int32.toNatClampNeg (2 * (xb_i h6 x0 13))) := rfl
    refine xb_newa_i hx hb (hts _ m_d160d5ac) hR hS hA hnq8 hbq8 (show (k + 1) + 1 ≤ MC by omega) (show (n + (Int32.toNatClampNeg (2 * (xb_i h x0 13)))) + _ ≤ MS by rw [enq8]; omega) (xb_d D_M_note 16 rfl) (fun q8 H hqq8 hR hS => ?_)
    rw [enq8] at hR ⊢
    have hw := hw q8 hqq8
    obtain ⟨h9, eh9⟩ : ∃ x : xb_H, x = xb_new h6 q8 102 (Int32.toNatClampNeg (2 * (xb_i h6 x0 13))) := ⟨_, rfl⟩
    rw [← eh9] at hR
    have hw := hw h9 eh9
    have hE : xb_ext h0 h9 := by rw [eh9]; exact hE.new _ _ hqq8
    have hk10 : xb_k h9 q8 = 102 := by rw [eh9]; exact xb_new_k _ _ _ _
    refine lv_astore_n hx hb (xb_d D_M_note 17 rfl) rfl hl (by decide) rfl (fun ls hl => ?_)
    have hl : lv_has ls 5 [(3, .ref q8), (2, .ref q5), (0, .ref x0), (1, .int x1)] := hl
    refine lv_iconst (v := 0) hx hb (xb_d D_M_note 18 rfl) (by decide) ?_
    refine lv_istore hx hb (xb_d D_M_note 19 rfl) hl (by decide) rfl (fun ls hl => ?_)
    have hl : lv_has ls 5 [(4, .int 0), (3, .ref q8), (2, .ref q5), (0, .ref x0), (1, .int x1)] := hl
    obtain ⟨n8, hw⟩ := hw
    exact am_M_note_L33 l hfl D A σ MC MS h0 Qr n8 x0 x1 q5 q8 0 h9 ((bc - 1) - 1) ((bs - (Int32.toNatClampNeg (2 * (xb_i h x0 13)))) - (Int32.toNatClampNeg (2 * (xb_i h6 x0 13)))) hw p e s m args below meth c hC H locs ls ((k + 1) + 1) ((n + (Int32.toNatClampNeg (2 * (xb_i h x0 13)))) + (Int32.toNatClampNeg (2 * (xb_i h6 x0 13)))) hE (lv_sub hl [3, 4, 2, 1, 0] rfl) hR hS (by omega) (by omega)

theorem m_70e943ac : (.fieldLink "StackHostModel" 139 "StackHostModel" "callFunction" "[I" : Cond) ∈ xt_tbl := xt_in (xt_t9 (List.mem_of_getElem? (i := 208) (by decide +kernel))) (by decide +kernel)
theorem m_691d5f47 : (.fieldLink "StackHostModel" 62 "StackHostModel" "moduleOf" "[I" : Cond) ∈ xt_tbl := xt_in (xt_t9 (List.mem_of_getElem? (i := 170) (by decide +kernel))) (by decide +kernel)
theorem m_ad0cc5a3 : (.fieldLink "StackHostModel" 92 "StackHostModel" "functionOf" "[I" : Cond) ∈ xt_tbl := xt_in (xt_t9 (List.mem_of_getElem? (i := 183) (by decide +kernel))) (by decide +kernel)
theorem m_6e1e432a : (.fieldLink "StackHostModel" 173 "StackHostModel" "trapped" "[I" : Cond) ∈ xt_tbl := xt_in (xt_t9 (List.mem_of_getElem? (i := 224) (by decide +kernel))) (by decide +kernel)
theorem m_01d0d957 : (.fieldLink "StackHostModel" 30 "StackHostModel" "imported" "[I" : Cond) ∈ xt_tbl := xt_in (xt_t9 (List.mem_of_getElem? (i := 149) (by decide +kernel))) (by decide +kernel)
theorem m_4c98e665 : (.fieldLink "StackHostModel" 95 "StackHostModel" "bodyOf" "[I" : Cond) ∈ xt_tbl := xt_in (xt_t9 (List.mem_of_getElem? (i := 184) (by decide +kernel))) (by decide +kernel)
theorem m_ad343437 : (.fieldLink "StackHostModel" 625 "StackHostModel" "trap" "I" : Cond) ∈ xt_tbl := xt_in (xt_t9 (List.mem_of_getElem? (i := 221) (by decide +kernel))) (by decide +kernel)
set_option maxRecDepth 100000 in
def T_M_noteTrap : List (Nat × Instr × Nat) := [(0, .aload_n 0, 1), (1, .getfield 625, 3), (4, .ifCond .ne 4, 3), (7, .return_, 1), (8, .aload_n 0, 1), (9, .getfield 173, 3), (12, .iconst 0, 1), (13, .aload_n 0, 1), (14, .getfield 625, 3), (17, .iastore, 1), (18, .iconst 1, 1), (19, .istore_n 2, 1), (20, .iload_n 2, 1), (21, .iconst 4, 1), (22, .if_icmp .ge 16, 3), (25, .aload_n 0, 1), (26, .getfield 173, 3), (29, .iload_n 2, 1), (30, .iconst (-1), 1), (31, .iastore, 1), (32, .iinc 2 1, 3), (35, .goto (-15), 3), (38, .aload_n 0, 1), (39, .getfield 616, 3), (42, .ifCond .le 74, 3), (45, .aload_n 0, 1), (46, .getfield 139, 3), (49, .aload_n 0, 1), (50, .getfield 616, 3), (53, .iconst 1, 1), (54, .isub, 1), (55, .iaload, 1), (56, .istore_n 2, 1), (57, .aload_n 0, 1), (58, .getfield 62, 3), (61, .aload_n 0, 1), (62, .getfield 92, 3), (65, .iload_n 2, 1), (66, .iaload, 1), (67, .iaload, 1), (68, .istore_n 3, 1), (69, .aload_n 0, 1), (70, .getfield 173, 3), (73, .iconst 1, 1), (74, .aload_n 0, 1), (75, .getfield 92, 3), (78, .iload_n 2, 1), (79, .iaload, 1), (80, .iastore, 1), (81, .aload_n 0, 1), (82, .getfield 173, 3), (85, .iconst 2, 1), (86, .aload_n 0, 1), (87, .getfield 30, 3), (90, .iconst 4, 1), (91, .iload_n 3, 1), (92, .imul, 1), (93, .iaload, 1), (94, .aload_n 0, 1), (95, .getfield 95, 3), (98, .iload_n 2, 1), (99, .iaload, 1), (100, .iadd, 1), (101, .iastore, 1), (102, .aload_n 0, 1), (103, .getfield 173, 3), (106, .iconst 3, 1), (107, .iload_n 1, 1), (108, .aload_n 0, 1), (109, .getfield 17, 3), (112, .iload_n 3, 1), (113, .iaload, 1), (114, .isub, 1), (115, .iastore, 1), (116, .return_, 1)]
theorem D_M_noteTrap : ∀ q ∈ T_M_noteTrap, decode b_M_noteTrap q.1 = .ok (q.2.1, q.2.2) := by decide +kernel

set_option maxHeartbeats 4000000 in
set_option maxRecDepth 100000 in
theorem am_M_noteTrap_L116 (l : Launch) (hfl : l.flags = pinnedFlags ++ [noTraceFlag]) (D : va_G) (A : Nat → Prop) (σ MC MS : Nat) (h0 : xb_H) (Qr : xb_H → Prop) (h : xb_H) (hw : w_M_noteTrap_L116 Qr h) : xb_am l D A σ 2 MC MS h0 (fun v h _ _ => v = none ∧ Qr h) (fun _ _ _ _ => False) y_M_noteTrap.cls y_M_noteTrap.name b_M_noteTrap 4 ([] : List ExceptionTableEntry) none 116 [] [] h 0 0 := by
  unfold w_M_noteTrap_L116 at hw
  intro p e s m args below meth c hC H locs ls k n hE hl hR hS hk hn
  obtain ⟨hx, hb, hown, hlocks, htab, hml, hr, hB, hA, hnm⟩ := id hC
  have hts := hB.1.1.at args
  exact xb_vret 0 0 hx hb hr hlocks (show k + 0 ≤ MC by omega) (show n + 0 ≤ MS by omega) hE hR hS (xb_d D_M_noteTrap 74 rfl) hw

set_option maxHeartbeats 4000000 in
set_option maxRecDepth 100000 in
theorem am_M_noteTrap_L20 (l : Launch) (hfl : l.flags = pinnedFlags ++ [noTraceFlag]) (D : va_G) (A : Nat → Prop) (σ MC MS : Nat) (h0 : xb_H) (Qr : xb_H → Prop) (n9 : Nat) : ∀ (x0 : Nat) (x1 : Int32) (x2 : Int32) (h : xb_H), w_M_noteTrap_L20 Qr n9 x0 x1 x2 h → xb_am l D A σ 2 MC MS h0 (fun v h _ _ => v = none ∧ Qr h) (fun _ _ _ _ => False) y_M_noteTrap.cls y_M_noteTrap.name b_M_noteTrap 4 ([] : List ExceptionTableEntry) none 20 [(0, .ref x0), (1, .int x1), (2, .int x2)] [] h 0 0 := by
  induction n9 with
  | zero => intro x0 x1 x2 h hw; exact False.elim hw
  | succ n9 ih =>
    intro x0 x1 x2 h hw
    unfold w_M_noteTrap_L20 at hw
    intro p e s m args below meth c hC H locs ls k n hE hl hR hS hk hn
    obtain ⟨hx, hb, hown, hlocks, htab, hml, hr, hB, hA, hnm⟩ := id hC
    have hts := hB.1.1.at args
    refine lv_iload_n hx hb (xb_d D_M_noteTrap 12 rfl) rfl (lv_at hl 2 rfl) ?_
    refine lv_iconst (v := 4) hx hb (xb_d D_M_noteTrap 13 rfl) (by decide) ?_
    refine lv_icmp_ge (tgt := 38) hx hb (xb_d D_M_noteTrap 14 rfl) rfl (fun hc1 => ?_) (fun hc1 => ?_)
    · have hw := hw.1 hc1
      refine lv_aload_n hx hb (xb_d D_M_noteTrap 22 rfl) rfl (lv_at hl 0 rfl) ?_
      obtain ⟨hk2, hw⟩ := hw
      refine xb_getI (C := R_M) (T := F_M) (N := 97) hx hb 8 68 hts fin_M hown hR hk2 (by decide) rfl (by decide) rfl (hts _ m_11712ae1) (fun _ h9 => h9) (xb_d D_M_noteTrap 23 rfl) ?_
      refine lv_if_le (tgt := 116) hx hb (xb_d D_M_noteTrap 24 rfl) rfl (fun hc3 => ?_) (fun hc3 => ?_)
      · have hw := hw.1 hc3
        exact am_M_noteTrap_L116 l hfl D A σ MC MS h0 Qr h hw p e s m args below meth c hC H locs ls k n hE (lv_sub hl [] rfl) hR hS (by omega) (by omega)
      · have hw := hw.2 hc3
        refine lv_aload_n hx hb (xb_d D_M_noteTrap 25 rfl) rfl (lv_at hl 0 rfl) ?_
        refine xb_getP (C := R_M) (T := F_M) (N := 97) hx hb 8 69 hts fin_M hown hR hk2 (by decide) rfl (by decide) rfl (hts _ m_70e943ac) (fun _ h9 => h9) (xb_d D_M_noteTrap 26 rfl) ?_
        obtain ⟨b4, eb4, hw⟩ := hw
        refine xb_some eb4 ?_
        refine lv_aload_n hx hb (xb_d D_M_noteTrap 27 rfl) rfl (lv_at hl 0 rfl) ?_
        refine xb_getI (C := R_M) (T := F_M) (N := 97) hx hb 8 68 hts fin_M hown hR hk2 (by decide) rfl (by decide) rfl (hts _ m_11712ae1) (fun _ h9 => h9) (xb_d D_M_noteTrap 28 rfl) ?_
        refine lv_iconst (v := 1) hx hb (xb_d D_M_noteTrap 29 rfl) (by decide) ?_
        refine lv_isub hx hb (xb_d D_M_noteTrap 30 rfl) ?_
        obtain ⟨hk6, hw⟩ := hw
        obtain ⟨hi5, hw⟩ := hw
        refine xb_iald hx hb hR hk6 hi5 (xb_d D_M_noteTrap 31 rfl) ?_
        obtain ⟨v7, ev7⟩ : ∃ x : Int32, x = (xb_i h b4 (Int32.toNatClampNeg ((xb_i h x0 68) - 1))) := ⟨_, rfl⟩
        have hw := hw v7 ev7
        refine xt_numi (y := v7) ev7.symm ?_
        refine lv_istore_n hx hb (xb_d D_M_noteTrap 32 rfl) rfl hl (by decide) rfl (fun ls hl => ?_)
        have hl : lv_has ls 4 [(2, .int v7), (0, .ref x0), (1, .int x1)] := hl
        refine lv_aload_n hx hb (xb_d D_M_noteTrap 33 rfl) rfl (lv_at hl 1 rfl) ?_
        refine xb_getP (C := R_M) (T := F_M) (N := 97) hx hb 8 31 hts fin_M hown hR hk2 (by decide) rfl (by decide) rfl (hts _ m_691d5f47) (fun _ h9 => h9) (xb_d D_M_noteTrap 34 rfl) ?_
        obtain ⟨b8, eb8, hw⟩ := hw
        refine xb_some eb8 ?_
        refine lv_aload_n hx hb (xb_d D_M_noteTrap 35 rfl) rfl (lv_at hl 1 rfl) ?_
        refine xb_getP (C := R_M) (T := F_M) (N := 97) hx hb 8 44 hts fin_M hown hR hk2 (by decide) rfl (by decide) rfl (hts _ m_ad0cc5a3) (fun _ h9 => h9) (xb_d D_M_noteTrap 36 rfl) ?_
        obtain ⟨b9, eb9, hw⟩ := hw
        refine xb_some eb9 ?_
        refine lv_iload_n hx hb (xb_d D_M_noteTrap 37 rfl) rfl (lv_at hl 0 rfl) ?_
        obtain ⟨hk11, hw⟩ := hw
        obtain ⟨hi10, hw⟩ := hw
        refine xb_iald hx hb hR hk11 hi10 (xb_d D_M_noteTrap 38 rfl) ?_
        obtain ⟨hk13, hw⟩ := hw
        obtain ⟨hi12, hw⟩ := hw
        refine xb_iald hx hb hR hk13 hi12 (xb_d D_M_noteTrap 39 rfl) ?_
        obtain ⟨v14, ev14⟩ : ∃ x : Int32, x = (xb_i h b8 (Int32.toNatClampNeg (xb_i h b9 (Int32.toNatClampNeg v7)))) := ⟨_, rfl⟩
        have hw := hw v14 ev14
        refine xt_numi (y := v14) ev14.symm ?_
        refine lv_istore_n hx hb (xb_d D_M_noteTrap 40 rfl) rfl hl (by decide) rfl (fun ls hl => ?_)
        have hl : lv_has ls 4 [(3, .int v14), (2, .int v7), (0, .ref x0), (1, .int x1)] := hl
        refine lv_aload_n hx hb (xb_d D_M_noteTrap 41 rfl) rfl (lv_at hl 2 rfl) ?_
        refine xb_getP (C := R_M) (T := F_M) (N := 97) hx hb 8 86 hts fin_M hown hR hk2 (by decide) rfl (by decide) rfl (hts _ m_6e1e432a) (fun _ h9 => h9) (xb_d D_M_noteTrap 42 rfl) ?_
        obtain ⟨b15, eb15, hw⟩ := hw
        refine xb_some eb15 ?_
        refine lv_iconst (v := 1) hx hb (xb_d D_M_noteTrap 43 rfl) (by decide) ?_
        refine lv_aload_n hx hb (xb_d D_M_noteTrap 44 rfl) rfl (lv_at hl 2 rfl) ?_
        refine xb_getP (C := R_M) (T := F_M) (N := 97) hx hb 8 44 hts fin_M hown hR hk2 (by decide) rfl (by decide) rfl (hts _ m_ad0cc5a3) (fun _ h9 => h9) (xb_d D_M_noteTrap 45 rfl) ?_
        obtain ⟨b16, eb16, hw⟩ := hw
        refine xb_some eb16 ?_
        refine lv_iload_n hx hb (xb_d D_M_noteTrap 46 rfl) rfl (lv_at hl 1 rfl) ?_
        obtain ⟨hk18, hw⟩ := hw
        obtain ⟨hi17, hw⟩ := hw
        refine xb_iald hx hb hR hk18 hi17 (xb_d D_M_noteTrap 47 rfl) ?_
        obtain ⟨hk19, hw⟩ := hw
        obtain ⟨hi20, hw⟩ := hw
        refine xb_iast hx hb hR hS hk19 hi20 (xb_d D_M_noteTrap 48 rfl) (fun H locs hR hS => ?_)
        obtain ⟨h21, eh21⟩ : ∃ x : xb_H, x = xb_I h b15 (Int32.toNatClampNeg 1) (xb_i h b16 (Int32.toNatClampNeg v7)) := ⟨_, rfl⟩
        rw [← eh21] at hR
        have hw := hw h21 eh21
        have hE : xb_ext h0 h21 := by rw [eh21]; exact hE
        refine lv_aload_n hx hb (xb_d D_M_noteTrap 49 rfl) rfl (lv_at hl 2 rfl) ?_
        have hk2 : xb_k h21 x0 = 9 := by rw [eh21]; exact hk2
        refine xb_getP (C := R_M) (T := F_M) (N := 97) hx hb 8 86 hts fin_M hown hR hk2 (by decide) rfl (by decide) rfl (hts _ m_6e1e432a) (fun _ h9 => h9) (xb_d D_M_noteTrap 50 rfl) ?_
        obtain ⟨b22, eb22, hw⟩ := hw
        refine xb_some eb22 ?_
        refine lv_iconst (v := 2) hx hb (xb_d D_M_noteTrap 51 rfl) (by decide) ?_
        refine lv_aload_n hx hb (xb_d D_M_noteTrap 52 rfl) rfl (lv_at hl 2 rfl) ?_
        refine xb_getP (C := R_M) (T := F_M) (N := 97) hx hb 8 10 hts fin_M hown hR hk2 (by decide) rfl (by decide) rfl (hts _ m_01d0d957) (fun _ h9 => h9) (xb_d D_M_noteTrap 53 rfl) ?_
        obtain ⟨b23, eb23, hw⟩ := hw
        refine xb_some eb23 ?_
        refine lv_iconst (v := 4) hx hb (xb_d D_M_noteTrap 54 rfl) (by decide) ?_
        refine lv_iload_n hx hb (xb_d D_M_noteTrap 55 rfl) rfl (lv_at hl 0 rfl) ?_
        refine lv_imul hx hb (xb_d D_M_noteTrap 56 rfl) ?_
        obtain ⟨hk25, hw⟩ := hw
        obtain ⟨hi24, hw⟩ := hw
        refine xb_iald hx hb hR hk25 hi24 (xb_d D_M_noteTrap 57 rfl) ?_
        refine lv_aload_n hx hb (xb_d D_M_noteTrap 58 rfl) rfl (lv_at hl 2 rfl) ?_
        refine xb_getP (C := R_M) (T := F_M) (N := 97) hx hb 8 45 hts fin_M hown hR hk2 (by decide) rfl (by decide) rfl (hts _ m_4c98e665) (fun _ h9 => h9) (xb_d D_M_noteTrap 59 rfl) ?_
        obtain ⟨b26, eb26, hw⟩ := hw
        refine xb_some eb26 ?_
        refine lv_iload_n hx hb (xb_d D_M_noteTrap 60 rfl) rfl (lv_at hl 1 rfl) ?_
        obtain ⟨hk28, hw⟩ := hw
        obtain ⟨hi27, hw⟩ := hw
        refine xb_iald hx hb hR hk28 hi27 (xb_d D_M_noteTrap 61 rfl) ?_
        refine lv_iadd hx hb (xb_d D_M_noteTrap 62 rfl) ?_
        obtain ⟨hk29, hw⟩ := hw
        obtain ⟨hi30, hw⟩ := hw
        refine xb_iast hx hb hR hS hk29 hi30 (xb_d D_M_noteTrap 63 rfl) (fun H locs hR hS => ?_)
        obtain ⟨h31, eh31⟩ : ∃ x : xb_H, x = xb_I h21 b22 (Int32.toNatClampNeg 2) ((xb_i h21 b23 (Int32.toNatClampNeg (4 * v14))) + (xb_i h21 b26 (Int32.toNatClampNeg v7))) := ⟨_, rfl⟩
        rw [← eh31] at hR
        have hw := hw h31 eh31
        have hE : xb_ext h0 h31 := by rw [eh31]; exact hE
        refine lv_aload_n hx hb (xb_d D_M_noteTrap 64 rfl) rfl (lv_at hl 2 rfl) ?_
        have hk2 : xb_k h31 x0 = 9 := by rw [eh31]; exact hk2
        refine xb_getP (C := R_M) (T := F_M) (N := 97) hx hb 8 86 hts fin_M hown hR hk2 (by decide) rfl (by decide) rfl (hts _ m_6e1e432a) (fun _ h9 => h9) (xb_d D_M_noteTrap 65 rfl) ?_
        obtain ⟨b32, eb32, hw⟩ := hw
        refine xb_some eb32 ?_
        refine lv_iconst (v := 3) hx hb (xb_d D_M_noteTrap 66 rfl) (by decide) ?_
        refine lv_iload_n hx hb (xb_d D_M_noteTrap 67 rfl) rfl (lv_at hl 3 rfl) ?_
        refine lv_aload_n hx hb (xb_d D_M_noteTrap 68 rfl) rfl (lv_at hl 2 rfl) ?_
        refine xb_getP (C := R_M) (T := F_M) (N := 97) hx hb 8 6 hts fin_M hown hR hk2 (by decide) rfl (by decide) rfl (hts _ m_2efec494) (fun _ h9 => h9) (xb_d D_M_noteTrap 69 rfl) ?_
        obtain ⟨b33, eb33, hw⟩ := hw
        refine xb_some eb33 ?_
        refine lv_iload_n hx hb (xb_d D_M_noteTrap 70 rfl) rfl (lv_at hl 0 rfl) ?_
        obtain ⟨hk35, hw⟩ := hw
        obtain ⟨hi34, hw⟩ := hw
        refine xb_iald hx hb hR hk35 hi34 (xb_d D_M_noteTrap 71 rfl) ?_
        refine lv_isub hx hb (xb_d D_M_noteTrap 72 rfl) ?_
        obtain ⟨hk36, hw⟩ := hw
        obtain ⟨hi37, hw⟩ := hw
        refine xb_iast hx hb hR hS hk36 hi37 (xb_d D_M_noteTrap 73 rfl) (fun H locs hR hS => ?_)
        obtain ⟨h38, eh38⟩ : ∃ x : xb_H, x = xb_I h31 b32 (Int32.toNatClampNeg 3) (x1 - (xb_i h31 b33 (Int32.toNatClampNeg v14))) := ⟨_, rfl⟩
        rw [← eh38] at hR
        have hw := hw h38 eh38
        have hE : xb_ext h0 h38 := by rw [eh38]; exact hE
        exact am_M_noteTrap_L116 l hfl D A σ MC MS h0 Qr h38 hw p e s m args below meth c hC H locs ls k n hE (lv_sub hl [] rfl) hR hS (by omega) (by omega)
    · have hw := hw.2 hc1
      refine lv_aload_n hx hb (xb_d D_M_noteTrap 15 rfl) rfl (lv_at hl 0 rfl) ?_
      obtain ⟨hk39, hw⟩ := hw
      refine xb_getP (C := R_M) (T := F_M) (N := 97) hx hb 8 86 hts fin_M hown hR hk39 (by decide) rfl (by decide) rfl (hts _ m_6e1e432a) (fun _ h9 => h9) (xb_d D_M_noteTrap 16 rfl) ?_
      obtain ⟨b40, eb40, hw⟩ := hw
      refine xb_some eb40 ?_
      refine lv_iload_n hx hb (xb_d D_M_noteTrap 17 rfl) rfl (lv_at hl 2 rfl) ?_
      refine lv_iconst (v := (-1)) hx hb (xb_d D_M_noteTrap 18 rfl) (by decide) ?_
      obtain ⟨hk41, hw⟩ := hw
      obtain ⟨hi42, hw⟩ := hw
      refine xb_iast hx hb hR hS hk41 hi42 (xb_d D_M_noteTrap 19 rfl) (fun H locs hR hS => ?_)
      obtain ⟨h43, eh43⟩ : ∃ x : xb_H, x = xb_I h b40 (Int32.toNatClampNeg x2) (-1) := ⟨_, rfl⟩
      rw [← eh43] at hR
      have hw := hw h43 eh43
      have hE : xb_ext h0 h43 := by rw [eh43]; exact hE
      refine lv_iinc (v := (x2 + 1)) (k := 2) hx hb (xb_d D_M_noteTrap 20 rfl) hl rfl (by first | rfl | decide) (by decide) rfl (fun ls hl => ?_)
      have hl : lv_has ls 4 [(2, .int (x2 + 1)), (0, .ref x0), (1, .int x1)] := hl
      refine lv_goto (tgt := 20) hx hb (xb_d D_M_noteTrap 21 rfl) rfl ?_
      exact ih x0 x1 (x2 + 1) h43 hw p e s m args below meth c hC H locs ls k n hE (lv_sub hl [1, 2, 0] rfl) hR hS (by omega) (by omega)

set_option maxHeartbeats 4000000 in
set_option maxRecDepth 100000 in
theorem ok_M_noteTrap (l : Launch) (hfl : l.flags = pinnedFlags ++ [noTraceFlag]) (D : va_G) (A : Nat → Prop) (σ : Nat) (x0 : Nat) (x1 : Int32) (h : xb_H) (Qr : xb_H → Prop) (hw : w_M_noteTrap x0 x1 h Qr) : xb_Met l y_M_noteTrap [.code y_M_noteTrap b_M_noteTrap 4 none] (xb_rm 2 0 0) (xb_Pc D A σ h [.ref x0, .int x1]) (xb_Qc D A h 0 0 (fun v h _ _ => v = none ∧ Qr h) (fun _ _ _ _ => False)) A := by
  refine xb_ofAm (cc := b_M_noteTrap) (by decide) (Nat.le_of_ble_eq_true rfl) ?_
  unfold w_M_noteTrap at hw
  show xb_am l D A σ 2 0 0 h (fun v h _ _ => v = none ∧ Qr h) (fun _ _ _ _ => False) y_M_noteTrap.cls y_M_noteTrap.name b_M_noteTrap 4 ([] : List ExceptionTableEntry) none 0 [(0, .ref x0), (1, .int x1)] [] h 0 0
  obtain ⟨MC, hMC⟩ : ∃ x, x = 0 := ⟨_, rfl⟩
  obtain ⟨MS, hMS⟩ : ∃ x, x = 0 := ⟨_, rfl⟩
  rw [show xb_am l D A σ 2 0 0 = xb_am l D A σ 2 MC MS by rw [hMC, hMS]]
  obtain ⟨h0, hh0⟩ : ∃ x, x = h := ⟨_, rfl⟩
  rw [show xb_am l D A σ 2 MC MS h = xb_am l D A σ 2 MC MS h0 by rw [hh0]]
  intro p e s m args below meth c hC H locs ls k n hE hl hR hS hk hn
  obtain ⟨hx, hb, hown, hlocks, htab, hml, hr, hB, hA, hnm⟩ := id hC
  have hts := hB.1.1.at args
  refine lv_aload_n hx hb (xb_d D_M_noteTrap 0 rfl) rfl (lv_at hl 0 rfl) ?_
  obtain ⟨hk1, hw⟩ := hw
  refine xb_getI (C := R_M) (T := F_M) (N := 97) hx hb 8 82 hts fin_M hown hR hk1 (by decide) rfl (by decide) rfl (hts _ m_ad343437) (fun _ h9 => h9) (xb_d D_M_noteTrap 1 rfl) ?_
  refine lv_if_ne (tgt := 8) hx hb (xb_d D_M_noteTrap 2 rfl) rfl (fun hc2 => ?_) (fun hc2 => ?_)
  · have hw := hw.1 hc2
    refine lv_aload_n hx hb (xb_d D_M_noteTrap 4 rfl) rfl (lv_at hl 0 rfl) ?_
    refine xb_getP (C := R_M) (T := F_M) (N := 97) hx hb 8 86 hts fin_M hown hR hk1 (by decide) rfl (by decide) rfl (hts _ m_6e1e432a) (fun _ h9 => h9) (xb_d D_M_noteTrap 5 rfl) ?_
    obtain ⟨b3, eb3, hw⟩ := hw
    refine xb_some eb3 ?_
    refine lv_iconst (v := 0) hx hb (xb_d D_M_noteTrap 6 rfl) (by decide) ?_
    refine lv_aload_n hx hb (xb_d D_M_noteTrap 7 rfl) rfl (lv_at hl 0 rfl) ?_
    refine xb_getI (C := R_M) (T := F_M) (N := 97) hx hb 8 82 hts fin_M hown hR hk1 (by decide) rfl (by decide) rfl (hts _ m_ad343437) (fun _ h9 => h9) (xb_d D_M_noteTrap 8 rfl) ?_
    obtain ⟨hk4, hw⟩ := hw
    obtain ⟨hi5, hw⟩ := hw
    refine xb_iast hx hb hR hS hk4 hi5 (xb_d D_M_noteTrap 9 rfl) (fun H locs hR hS => ?_)
    obtain ⟨h6, eh6⟩ : ∃ x : xb_H, x = xb_I h b3 (Int32.toNatClampNeg 0) (xb_i h x0 82) := ⟨_, rfl⟩
    rw [← eh6] at hR
    have hw := hw h6 eh6
    have hE : xb_ext h0 h6 := by rw [eh6]; exact hE
    refine lv_iconst (v := 1) hx hb (xb_d D_M_noteTrap 10 rfl) (by decide) ?_
    refine lv_istore_n hx hb (xb_d D_M_noteTrap 11 rfl) rfl hl (by decide) rfl (fun ls hl => ?_)
    have hl : lv_has ls 4 [(2, .int 1), (0, .ref x0), (1, .int x1)] := hl
    obtain ⟨n8, hw⟩ := hw
    exact am_M_noteTrap_L20 l hfl D A σ MC MS h0 Qr n8 x0 x1 1 h6 hw p e s m args below meth c hC H locs ls k n hE (lv_sub hl [1, 2, 0] rfl) hR hS (by omega) (by omega)
  · have hw := hw.2 hc2
    exact xb_vret 0 0 hx hb hr hlocks (show k + 0 ≤ MC by omega) (show n + 0 ≤ MS by omega) hE hR hS (xb_d D_M_noteTrap 3 rfl) hw

theorem m_4fda1f04 : (.constantLong "StackHostModel" 352 65536 : Cond) ∈ xt_tbl := xt_in (xt_t11 (List.mem_of_getElem? (i := 96) (by decide +kernel))) (by decide +kernel)
theorem m_36de59d5 : (.constant "StackHostModel" 7 65536 : Cond) ∈ xt_tbl := xt_in (xt_t9 (List.mem_of_getElem? (i := 94) (by decide +kernel))) (by decide +kernel)
theorem m_e7f615b2 : (.fieldLink "StackHostModel" 117 "StackHostModel" "pageAt" "[I" : Cond) ∈ xt_tbl := xt_in (xt_t9 (List.mem_of_getElem? (i := 195) (by decide +kernel))) (by decide +kernel)
set_option maxRecDepth 100000 in
def T_M_ofMemory : List (Nat × Instr × Nat) := [(0, .lload_n 2, 1), (1, .ldc2_w 352, 3), (4, .ldiv, 1), (5, .l2i, 1), (6, .istore 4, 2), (8, .ldc 7, 2), (10, .aload_n 0, 1), (11, .getfield 117, 3), (14, .bipush 16, 2), (16, .iload_n 1, 1), (17, .imul, 1), (18, .iload 4, 2), (20, .iadd, 1), (21, .iaload, 1), (22, .imul, 1), (23, .lload_n 2, 1), (24, .ldc2_w 352, 3), (27, .lrem, 1), (28, .l2i, 1), (29, .iadd, 1), (30, .ireturn, 1)]
theorem D_M_ofMemory : ∀ q ∈ T_M_ofMemory, decode b_M_ofMemory q.1 = .ok (q.2.1, q.2.2) := by decide +kernel

set_option maxHeartbeats 4000000 in
set_option maxRecDepth 100000 in
theorem ok_M_ofMemory (l : Launch) (hfl : l.flags = pinnedFlags ++ [noTraceFlag]) (D : va_G) (A : Nat → Prop) (σ : Nat) (x0 : Nat) (x1 : Int32) (x2 : Int64) (h : xb_H) (Qr : Int32 → xb_H → Prop) (hw : w_M_ofMemory x0 x1 x2 h Qr) : xb_Met l y_M_ofMemory [.code y_M_ofMemory b_M_ofMemory 5 (some .int)] (xb_rm 2 0 0) (xb_Pc D A σ h [.ref x0, .int x1, .long x2]) (xb_Qc D A h 0 0 (fun v h _ _ => ∃ r, v = some (.int r) ∧ Qr r h) (fun _ _ _ _ => False)) A := by
  refine xb_ofAm (cc := b_M_ofMemory) (by decide) (Nat.le_of_ble_eq_true rfl) ?_
  unfold w_M_ofMemory at hw
  show xb_am l D A σ 2 0 0 h (fun v h _ _ => ∃ r, v = some (.int r) ∧ Qr r h) (fun _ _ _ _ => False) y_M_ofMemory.cls y_M_ofMemory.name b_M_ofMemory 5 ([] : List ExceptionTableEntry) (some .int) 0 [(0, .ref x0), (1, .int x1), (2, .long x2)] [] h 0 0
  obtain ⟨MC, hMC⟩ : ∃ x, x = 0 := ⟨_, rfl⟩
  obtain ⟨MS, hMS⟩ : ∃ x, x = 0 := ⟨_, rfl⟩
  rw [show xb_am l D A σ 2 0 0 = xb_am l D A σ 2 MC MS by rw [hMC, hMS]]
  obtain ⟨h0, hh0⟩ : ∃ x, x = h := ⟨_, rfl⟩
  rw [show xb_am l D A σ 2 MC MS h = xb_am l D A σ 2 MC MS h0 by rw [hh0]]
  intro p e s m args below meth c hC H locs ls k n hE hl hR hS hk hn
  obtain ⟨hx, hb, hown, hlocks, htab, hml, hr, hB, hA, hnm⟩ := id hC
  have hts := hB.1.1.at args
  refine lv_lload_n hx hb (xb_d D_M_ofMemory 0 rfl) rfl (lv_at hl 2 rfl) ?_
  refine lv_ldc2 (v := 65536) hx hb hown (hts _ m_4fda1f04) (xb_d D_M_ofMemory 1 rfl) ?_
  refine lv_ldiv hx hb (xb_d D_M_ofMemory 2 rfl) (by decide) ?_
  refine lv_l2i hx hb (xb_d D_M_ofMemory 3 rfl) rfl ?_
  obtain ⟨v1, ev1⟩ : ∃ x : Int32, x = (Int64.toInt32 (x2 / 65536)) := ⟨_, rfl⟩
  have hw := hw v1 ev1
  refine xt_numi (y := v1) ev1.symm ?_
  refine lv_istore hx hb (xb_d D_M_ofMemory 4 rfl) hl (by decide) rfl (fun ls hl => ?_)
  have hl : lv_has ls 5 [(4, .int v1), (0, .ref x0), (1, .int x1), (2, .long x2)] := hl
  refine lv_ldc (v := 65536) hx hb hown (hts _ m_36de59d5) (xb_d D_M_ofMemory 5 rfl) ?_
  refine lv_aload_n hx hb (xb_d D_M_ofMemory 6 rfl) rfl (lv_at hl 1 rfl) ?_
  obtain ⟨hk2, hw⟩ := hw
  refine xb_getP (C := R_M) (T := F_M) (N := 97) hx hb 8 56 hts fin_M hown hR hk2 (by decide) rfl (by decide) rfl (hts _ m_e7f615b2) (fun _ h9 => h9) (xb_d D_M_ofMemory 7 rfl) ?_
  obtain ⟨b3, eb3, hw⟩ := hw
  refine xb_some eb3 ?_
  refine lv_bipush (v := 16) hx hb (xb_d D_M_ofMemory 8 rfl) (by decide) ?_
  refine lv_iload_n hx hb (xb_d D_M_ofMemory 9 rfl) rfl (lv_at hl 2 rfl) ?_
  refine lv_imul hx hb (xb_d D_M_ofMemory 10 rfl) ?_
  refine lv_iload hx hb (xb_d D_M_ofMemory 11 rfl) (lv_at hl 0 rfl) ?_
  refine lv_iadd hx hb (xb_d D_M_ofMemory 12 rfl) ?_
  obtain ⟨hk5, hw⟩ := hw
  obtain ⟨hi4, hw⟩ := hw
  refine xb_iald hx hb hR hk5 hi4 (xb_d D_M_ofMemory 13 rfl) ?_
  refine lv_imul hx hb (xb_d D_M_ofMemory 14 rfl) ?_
  refine lv_lload_n hx hb (xb_d D_M_ofMemory 15 rfl) rfl (lv_at hl 3 rfl) ?_
  refine lv_ldc2 (v := 65536) hx hb hown (hts _ m_4fda1f04) (xb_d D_M_ofMemory 16 rfl) ?_
  refine lv_lrem hx hb (xb_d D_M_ofMemory 17 rfl) (by decide) ?_
  refine lv_l2i hx hb (xb_d D_M_ofMemory 18 rfl) rfl ?_
  refine lv_iadd hx hb (xb_d D_M_ofMemory 19 rfl) ?_
  exact xb_iret 0 0 hx hb hr hlocks (show k + 0 ≤ MC by omega) (show n + 0 ≤ MS by omega) hE hR hS (xb_d D_M_ofMemory 20 rfl) hw

theorem m_3921a746 : (.fieldLink "StackHostModel" 161 "StackHostModel" "runKind" "[I" : Cond) ∈ xt_tbl := xt_in (xt_t9 (List.mem_of_getElem? (i := 216) (by decide +kernel))) (by decide +kernel)
theorem m_65743087 : (.fieldLink "StackHostModel" 610 "StackHostModel" "opens" "I" : Cond) ∈ xt_tbl := xt_in (xt_t9 (List.mem_of_getElem? (i := 220) (by decide +kernel))) (by decide +kernel)
theorem m_6fbbe4c1 : (.fieldLink "StackHostModel" 164 "StackHostModel" "runStart" "[I" : Cond) ∈ xt_tbl := xt_in (xt_t9 (List.mem_of_getElem? (i := 217) (by decide +kernel))) (by decide +kernel)
theorem m_0f6cf014 : (.fieldLink "StackHostModel" 167 "StackHostModel" "runLabel" "[I" : Cond) ∈ xt_tbl := xt_in (xt_t9 (List.mem_of_getElem? (i := 218) (by decide +kernel))) (by decide +kernel)
theorem m_24ba043b : (.fieldLink "StackHostModel" 170 "StackHostModel" "runHeight" "[I" : Cond) ∈ xt_tbl := xt_in (xt_t9 (List.mem_of_getElem? (i := 219) (by decide +kernel))) (by decide +kernel)
set_option maxRecDepth 100000 in
def T_M_open : List (Nat × Instr × Nat) := [(0, .aload_n 0, 1), (1, .getfield 161, 3), (4, .aload_n 0, 1), (5, .getfield 610, 3), (8, .iload_n 1, 1), (9, .iastore, 1), (10, .aload_n 0, 1), (11, .getfield 164, 3), (14, .aload_n 0, 1), (15, .getfield 610, 3), (18, .aload_n 0, 1), (19, .getfield 202, 3), (22, .iastore, 1), (23, .aload_n 0, 1), (24, .getfield 167, 3), (27, .aload_n 0, 1), (28, .getfield 610, 3), (31, .iload_n 2, 1), (32, .iastore, 1), (33, .aload_n 0, 1), (34, .getfield 170, 3), (37, .aload_n 0, 1), (38, .getfield 610, 3), (41, .aload_n 0, 1), (42, .getfield 607, 3), (45, .iastore, 1), (46, .aload_n 0, 1), (47, .dup, 1), (48, .getfield 610, 3), (51, .iconst 1, 1), (52, .iadd, 1), (53, .putfield 610, 3), (56, .return_, 1)]
theorem D_M_open : ∀ q ∈ T_M_open, decode b_M_open q.1 = .ok (q.2.1, q.2.2) := by decide +kernel

set_option maxHeartbeats 4000000 in
set_option maxRecDepth 100000 in
theorem ok_M_open (l : Launch) (hfl : l.flags = pinnedFlags ++ [noTraceFlag]) (D : va_G) (A : Nat → Prop) (σ : Nat) (x0 : Nat) (x1 : Int32) (x2 : Int32) (h : xb_H) (Qr : xb_H → Prop) (hw : w_M_open x0 x1 x2 h Qr) : xb_Met l y_M_open [.code y_M_open b_M_open 3 none] (xb_rm 2 0 0) (xb_Pc D A σ h [.ref x0, .int x1, .int x2]) (xb_Qc D A h 0 0 (fun v h _ _ => v = none ∧ Qr h) (fun _ _ _ _ => False)) A := by
  refine xb_ofAm (cc := b_M_open) (by decide) (Nat.le_of_ble_eq_true rfl) ?_
  unfold w_M_open at hw
  show xb_am l D A σ 2 0 0 h (fun v h _ _ => v = none ∧ Qr h) (fun _ _ _ _ => False) y_M_open.cls y_M_open.name b_M_open 3 ([] : List ExceptionTableEntry) none 0 [(0, .ref x0), (1, .int x1), (2, .int x2)] [] h 0 0
  obtain ⟨MC, hMC⟩ : ∃ x, x = 0 := ⟨_, rfl⟩
  obtain ⟨MS, hMS⟩ : ∃ x, x = 0 := ⟨_, rfl⟩
  rw [show xb_am l D A σ 2 0 0 = xb_am l D A σ 2 MC MS by rw [hMC, hMS]]
  obtain ⟨h0, hh0⟩ : ∃ x, x = h := ⟨_, rfl⟩
  rw [show xb_am l D A σ 2 MC MS h = xb_am l D A σ 2 MC MS h0 by rw [hh0]]
  intro p e s m args below meth c hC H locs ls k n hE hl hR hS hk hn
  obtain ⟨hx, hb, hown, hlocks, htab, hml, hr, hB, hA, hnm⟩ := id hC
  have hts := hB.1.1.at args
  refine lv_aload_n hx hb (xb_d D_M_open 0 rfl) rfl (lv_at hl 0 rfl) ?_
  obtain ⟨hk1, hw⟩ := hw
  refine xb_getP (C := R_M) (T := F_M) (N := 97) hx hb 8 77 hts fin_M hown hR hk1 (by decide) rfl (by decide) rfl (hts _ m_3921a746) (fun _ h9 => h9) (xb_d D_M_open 1 rfl) ?_
  obtain ⟨b2, eb2, hw⟩ := hw
  refine xb_some eb2 ?_
  refine lv_aload_n hx hb (xb_d D_M_open 2 rfl) rfl (lv_at hl 0 rfl) ?_
  refine xb_getI (C := R_M) (T := F_M) (N := 97) hx hb 8 81 hts fin_M hown hR hk1 (by decide) rfl (by decide) rfl (hts _ m_65743087) (fun _ h9 => h9) (xb_d D_M_open 3 rfl) ?_
  refine lv_iload_n hx hb (xb_d D_M_open 4 rfl) rfl (lv_at hl 1 rfl) ?_
  obtain ⟨hk3, hw⟩ := hw
  obtain ⟨hi4, hw⟩ := hw
  refine xb_iast hx hb hR hS hk3 hi4 (xb_d D_M_open 5 rfl) (fun H locs hR hS => ?_)
  obtain ⟨h5, eh5⟩ : ∃ x : xb_H, x = xb_I h b2 (Int32.toNatClampNeg (xb_i h x0 81)) x1 := ⟨_, rfl⟩
  rw [← eh5] at hR
  have hw := hw h5 eh5
  have hE : xb_ext h0 h5 := by rw [eh5]; exact hE
  refine lv_aload_n hx hb (xb_d D_M_open 6 rfl) rfl (lv_at hl 0 rfl) ?_
  have hk1 : xb_k h5 x0 = 9 := by rw [eh5]; exact hk1
  refine xb_getP (C := R_M) (T := F_M) (N := 97) hx hb 8 78 hts fin_M hown hR hk1 (by decide) rfl (by decide) rfl (hts _ m_6fbbe4c1) (fun _ h9 => h9) (xb_d D_M_open 7 rfl) ?_
  obtain ⟨b6, eb6, hw⟩ := hw
  refine xb_some eb6 ?_
  refine lv_aload_n hx hb (xb_d D_M_open 8 rfl) rfl (lv_at hl 0 rfl) ?_
  refine xb_getI (C := R_M) (T := F_M) (N := 97) hx hb 8 81 hts fin_M hown hR hk1 (by decide) rfl (by decide) rfl (hts _ m_65743087) (fun _ h9 => h9) (xb_d D_M_open 9 rfl) ?_
  refine lv_aload_n hx hb (xb_d D_M_open 10 rfl) rfl (lv_at hl 0 rfl) ?_
  refine xb_getI (C := R_M) (T := F_M) (N := 97) hx hb 8 15 hts fin_M hown hR hk1 (by decide) rfl (by decide) rfl (hts _ m_6c2d27ad) (fun _ h9 => h9) (xb_d D_M_open 11 rfl) ?_
  obtain ⟨hk7, hw⟩ := hw
  obtain ⟨hi8, hw⟩ := hw
  refine xb_iast hx hb hR hS hk7 hi8 (xb_d D_M_open 12 rfl) (fun H locs hR hS => ?_)
  obtain ⟨h9, eh9⟩ : ∃ x : xb_H, x = xb_I h5 b6 (Int32.toNatClampNeg (xb_i h5 x0 81)) (xb_i h5 x0 15) := ⟨_, rfl⟩
  rw [← eh9] at hR
  have hw := hw h9 eh9
  have hE : xb_ext h0 h9 := by rw [eh9]; exact hE
  refine lv_aload_n hx hb (xb_d D_M_open 13 rfl) rfl (lv_at hl 0 rfl) ?_
  have hk1 : xb_k h9 x0 = 9 := by rw [eh9]; exact hk1
  refine xb_getP (C := R_M) (T := F_M) (N := 97) hx hb 8 79 hts fin_M hown hR hk1 (by decide) rfl (by decide) rfl (hts _ m_0f6cf014) (fun _ h9 => h9) (xb_d D_M_open 14 rfl) ?_
  obtain ⟨b10, eb10, hw⟩ := hw
  refine xb_some eb10 ?_
  refine lv_aload_n hx hb (xb_d D_M_open 15 rfl) rfl (lv_at hl 0 rfl) ?_
  refine xb_getI (C := R_M) (T := F_M) (N := 97) hx hb 8 81 hts fin_M hown hR hk1 (by decide) rfl (by decide) rfl (hts _ m_65743087) (fun _ h9 => h9) (xb_d D_M_open 16 rfl) ?_
  refine lv_iload_n hx hb (xb_d D_M_open 17 rfl) rfl (lv_at hl 2 rfl) ?_
  obtain ⟨hk11, hw⟩ := hw
  obtain ⟨hi12, hw⟩ := hw
  refine xb_iast hx hb hR hS hk11 hi12 (xb_d D_M_open 18 rfl) (fun H locs hR hS => ?_)
  obtain ⟨h13, eh13⟩ : ∃ x : xb_H, x = xb_I h9 b10 (Int32.toNatClampNeg (xb_i h9 x0 81)) x2 := ⟨_, rfl⟩
  rw [← eh13] at hR
  have hw := hw h13 eh13
  have hE : xb_ext h0 h13 := by rw [eh13]; exact hE
  refine lv_aload_n hx hb (xb_d D_M_open 19 rfl) rfl (lv_at hl 0 rfl) ?_
  have hk1 : xb_k h13 x0 = 9 := by rw [eh13]; exact hk1
  refine xb_getP (C := R_M) (T := F_M) (N := 97) hx hb 8 80 hts fin_M hown hR hk1 (by decide) rfl (by decide) rfl (hts _ m_24ba043b) (fun _ h9 => h9) (xb_d D_M_open 20 rfl) ?_
  obtain ⟨b14, eb14, hw⟩ := hw
  refine xb_some eb14 ?_
  refine lv_aload_n hx hb (xb_d D_M_open 21 rfl) rfl (lv_at hl 0 rfl) ?_
  refine xb_getI (C := R_M) (T := F_M) (N := 97) hx hb 8 81 hts fin_M hown hR hk1 (by decide) rfl (by decide) rfl (hts _ m_65743087) (fun _ h9 => h9) (xb_d D_M_open 22 rfl) ?_
  refine lv_aload_n hx hb (xb_d D_M_open 23 rfl) rfl (lv_at hl 0 rfl) ?_
  refine xb_getI (C := R_M) (T := F_M) (N := 97) hx hb 8 76 hts fin_M hown hR hk1 (by decide) rfl (by decide) rfl (hts _ m_d6ddfcd8) (fun _ h9 => h9) (xb_d D_M_open 24 rfl) ?_
  obtain ⟨hk15, hw⟩ := hw
  obtain ⟨hi16, hw⟩ := hw
  refine xb_iast hx hb hR hS hk15 hi16 (xb_d D_M_open 25 rfl) (fun H locs hR hS => ?_)
  obtain ⟨h17, eh17⟩ : ∃ x : xb_H, x = xb_I h13 b14 (Int32.toNatClampNeg (xb_i h13 x0 81)) (xb_i h13 x0 76) := ⟨_, rfl⟩
  rw [← eh17] at hR
  have hw := hw h17 eh17
  have hE : xb_ext h0 h17 := by rw [eh17]; exact hE
  refine lv_aload_n hx hb (xb_d D_M_open 26 rfl) rfl (lv_at hl 0 rfl) ?_
  refine lv_dup hx hb (xb_d D_M_open 27 rfl) rfl ?_
  have hk1 : xb_k h17 x0 = 9 := by rw [eh17]; exact hk1
  refine xb_getI (C := R_M) (T := F_M) (N := 97) hx hb 8 81 hts fin_M hown hR hk1 (by decide) rfl (by decide) rfl (hts _ m_65743087) (fun _ h9 => h9) (xb_d D_M_open 28 rfl) ?_
  refine lv_iconst (v := 1) hx hb (xb_d D_M_open 29 rfl) (by decide) ?_
  refine lv_iadd hx hb (xb_d D_M_open 30 rfl) ?_
  refine xb_putI (C := R_M) (T := F_M) (N := 97) (ty := .int) (x := ((xb_i h17 x0 81) + 1)) hx hb 8 81 hts fin_M t_M t_M_ok n_M hown hR hS hk1 (by decide) rfl (by decide) rfl (hts _ m_65743087) (fun _ h9 => h9) rfl (by decide +kernel) rfl rfl (xb_d D_M_open 31 rfl) (fun H locs hR hS => ?_)
  obtain ⟨h18, eh18⟩ : ∃ x : xb_H, x = xb_I h17 x0 81 ((xb_i h17 x0 81) + 1) := ⟨_, rfl⟩
  rw [← eh18] at hR
  have hw := hw h18 eh18
  have hE : xb_ext h0 h18 := by rw [eh18]; exact hE
  exact xb_vret 0 0 hx hb hr hlocks (show k + 0 ≤ MC by omega) (show n + 0 ≤ MS by omega) hE hR hS (xb_d D_M_open 32 rfl) hw

theorem m_82d42698 : (.fieldLink "StackHostModel" 176 "StackHostModel" "out" "[J" : Cond) ∈ xt_tbl := xt_in (xt_t9 (List.mem_of_getElem? (i := 225) (by decide +kernel))) (by decide +kernel)
set_option maxRecDepth 100000 in
def T_M_out : List (Nat × Instr × Nat) := [(0, .aload_n 0, 1), (1, .iload_n 1, 1), (2, .ifCond .lt 15, 3), (5, .iload_n 1, 1), (6, .aload_n 0, 1), (7, .getfield 622, 3), (10, .if_icmp .ge 7, 3), (13, .iconst 0, 1), (14, .goto 4, 3), (17, .iconst 1, 1), (18, .putfield 189, 3), (21, .aload_n 0, 1), (22, .getfield 189, 3), (25, .ifCond .le 7, 3), (28, .lconst 0, 1), (29, .goto 9, 3), (32, .aload_n 0, 1), (33, .getfield 176, 3), (36, .iload_n 1, 1), (37, .laload, 1), (38, .lreturn, 1)]
theorem D_M_out : ∀ q ∈ T_M_out, decode b_M_out q.1 = .ok (q.2.1, q.2.2) := by decide +kernel

set_option maxHeartbeats 4000000 in
set_option maxRecDepth 100000 in
theorem am_M_out_L38 (l : Launch) (hfl : l.flags = pinnedFlags ++ [noTraceFlag]) (D : va_G) (A : Nat → Prop) (σ MC MS : Nat) (h0 : xb_H) (Qr : Int64 → xb_H → Prop) (y0 : Int64) (h : xb_H) (hw : w_M_out_L38 Qr y0 h) : xb_am l D A σ 2 MC MS h0 (fun v h _ _ => ∃ r, v = some (.long r) ∧ Qr r h) (fun _ _ _ _ => False) y_M_out.cls y_M_out.name b_M_out 2 ([] : List ExceptionTableEntry) (some .long) 38 [] [.long y0] h 0 0 := by
  unfold w_M_out_L38 at hw
  intro p e s m args below meth c hC H locs ls k n hE hl hR hS hk hn
  obtain ⟨hx, hb, hown, hlocks, htab, hml, hr, hB, hA, hnm⟩ := id hC
  have hts := hB.1.1.at args
  exact xb_lret 0 0 hx hb hr hlocks (show k + 0 ≤ MC by omega) (show n + 0 ≤ MS by omega) hE hR hS (xb_d D_M_out 20 rfl) hw

set_option maxHeartbeats 4000000 in
set_option maxRecDepth 100000 in
theorem am_M_out_L18 (l : Launch) (hfl : l.flags = pinnedFlags ++ [noTraceFlag]) (D : va_G) (A : Nat → Prop) (σ MC MS : Nat) (h0 : xb_H) (Qr : Int64 → xb_H → Prop) (x0 : Nat) (x1 : Int32) (y0 : Int32) (y1 : Nat) (h : xb_H) (hw : w_M_out_L18 Qr x0 x1 y0 y1 h) : xb_am l D A σ 2 MC MS h0 (fun v h _ _ => ∃ r, v = some (.long r) ∧ Qr r h) (fun _ _ _ _ => False) y_M_out.cls y_M_out.name b_M_out 2 ([] : List ExceptionTableEntry) (some .long) 18 [(0, .ref x0), (1, .int x1)] [.int y0, .ref y1] h 0 0 := by
  unfold w_M_out_L18 at hw
  intro p e s m args below meth c hC H locs ls k n hE hl hR hS hk hn
  obtain ⟨hx, hb, hown, hlocks, htab, hml, hr, hB, hA, hnm⟩ := id hC
  have hts := hB.1.1.at args
  obtain ⟨hk1, hw⟩ := hw
  refine xb_putI (C := R_M) (T := F_M) (N := 97) (ty := .int) (x := y0) hx hb 8 0 hts fin_M t_M t_M_ok n_M hown hR hS hk1 (by decide) rfl (by decide) rfl (hts _ m_afabd6a0) (fun _ h9 => h9) rfl (by decide +kernel) rfl rfl (xb_d D_M_out 10 rfl) (fun H locs hR hS => ?_)
  obtain ⟨h2, eh2⟩ : ∃ x : xb_H, x = xb_I h y1 0 y0 := ⟨_, rfl⟩
  rw [← eh2] at hR
  have hw := hw h2 eh2
  have hE : xb_ext h0 h2 := by rw [eh2]; exact hE
  refine lv_aload_n hx hb (xb_d D_M_out 11 rfl) rfl (lv_at hl 0 rfl) ?_
  obtain ⟨hk3, hw⟩ := hw
  refine xb_getI (C := R_M) (T := F_M) (N := 97) hx hb 8 0 hts fin_M hown hR hk3 (by decide) rfl (by decide) rfl (hts _ m_afabd6a0) (fun _ h9 => h9) (xb_d D_M_out 12 rfl) ?_
  refine lv_if_le (tgt := 32) hx hb (xb_d D_M_out 13 rfl) rfl (fun hc4 => ?_) (fun hc4 => ?_)
  · have hw := hw.1 hc4
    refine lv_aload_n hx hb (xb_d D_M_out 16 rfl) rfl (lv_at hl 0 rfl) ?_
    refine xb_getP (C := R_M) (T := F_M) (N := 97) hx hb 8 87 hts fin_M hown hR hk3 (by decide) rfl (by decide) rfl (hts _ m_82d42698) (fun _ h9 => h9) (xb_d D_M_out 17 rfl) ?_
    obtain ⟨b5, eb5, hw⟩ := hw
    refine xb_some eb5 ?_
    refine lv_iload_n hx hb (xb_d D_M_out 18 rfl) rfl (lv_at hl 1 rfl) ?_
    obtain ⟨hk7, hw⟩ := hw
    obtain ⟨hi6, hw⟩ := hw
    refine xb_lald hx hb hR hk7 hi6 (xb_d D_M_out 19 rfl) ?_
    exact am_M_out_L38 l hfl D A σ MC MS h0 Qr (xb_l h2 b5 (Int32.toNatClampNeg x1)) h2 hw p e s m args below meth c hC H locs ls k n hE (lv_sub hl [] rfl) hR hS (by omega) (by omega)
  · have hw := hw.2 hc4
    refine lv_lconst (v := 0) hx hb (xb_d D_M_out 14 rfl) (by decide) ?_
    refine lv_goto (tgt := 38) hx hb (xb_d D_M_out 15 rfl) rfl ?_
    exact am_M_out_L38 l hfl D A σ MC MS h0 Qr 0 h2 hw p e s m args below meth c hC H locs ls k n hE (lv_sub hl [] rfl) hR hS (by omega) (by omega)

set_option maxHeartbeats 4000000 in
set_option maxRecDepth 100000 in
theorem am_M_out_L17 (l : Launch) (hfl : l.flags = pinnedFlags ++ [noTraceFlag]) (D : va_G) (A : Nat → Prop) (σ MC MS : Nat) (h0 : xb_H) (Qr : Int64 → xb_H → Prop) (x0 : Nat) (x1 : Int32) (y0 : Nat) (h : xb_H) (hw : w_M_out_L17 Qr x0 x1 y0 h) : xb_am l D A σ 2 MC MS h0 (fun v h _ _ => ∃ r, v = some (.long r) ∧ Qr r h) (fun _ _ _ _ => False) y_M_out.cls y_M_out.name b_M_out 2 ([] : List ExceptionTableEntry) (some .long) 17 [(0, .ref x0), (1, .int x1)] [.ref y0] h 0 0 := by
  unfold w_M_out_L17 at hw
  intro p e s m args below meth c hC H locs ls k n hE hl hR hS hk hn
  obtain ⟨hx, hb, hown, hlocks, htab, hml, hr, hB, hA, hnm⟩ := id hC
  have hts := hB.1.1.at args
  refine lv_iconst (v := 1) hx hb (xb_d D_M_out 9 rfl) (by decide) ?_
  exact am_M_out_L18 l hfl D A σ MC MS h0 Qr x0 x1 1 y0 h hw p e s m args below meth c hC H locs ls k n hE (lv_sub hl [0, 1] rfl) hR hS (by omega) (by omega)

set_option maxHeartbeats 4000000 in
set_option maxRecDepth 100000 in
theorem ok_M_out (l : Launch) (hfl : l.flags = pinnedFlags ++ [noTraceFlag]) (D : va_G) (A : Nat → Prop) (σ : Nat) (x0 : Nat) (x1 : Int32) (h : xb_H) (Qr : Int64 → xb_H → Prop) (hw : w_M_out x0 x1 h Qr) : xb_Met l y_M_out [.code y_M_out b_M_out 2 (some .long)] (xb_rm 2 0 0) (xb_Pc D A σ h [.ref x0, .int x1]) (xb_Qc D A h 0 0 (fun v h _ _ => ∃ r, v = some (.long r) ∧ Qr r h) (fun _ _ _ _ => False)) A := by
  refine xb_ofAm (cc := b_M_out) (by decide) (Nat.le_of_ble_eq_true rfl) ?_
  unfold w_M_out at hw
  show xb_am l D A σ 2 0 0 h (fun v h _ _ => ∃ r, v = some (.long r) ∧ Qr r h) (fun _ _ _ _ => False) y_M_out.cls y_M_out.name b_M_out 2 ([] : List ExceptionTableEntry) (some .long) 0 [(0, .ref x0), (1, .int x1)] [] h 0 0
  obtain ⟨MC, hMC⟩ : ∃ x, x = 0 := ⟨_, rfl⟩
  obtain ⟨MS, hMS⟩ : ∃ x, x = 0 := ⟨_, rfl⟩
  rw [show xb_am l D A σ 2 0 0 = xb_am l D A σ 2 MC MS by rw [hMC, hMS]]
  obtain ⟨h0, hh0⟩ : ∃ x, x = h := ⟨_, rfl⟩
  rw [show xb_am l D A σ 2 MC MS h = xb_am l D A σ 2 MC MS h0 by rw [hh0]]
  intro p e s m args below meth c hC H locs ls k n hE hl hR hS hk hn
  obtain ⟨hx, hb, hown, hlocks, htab, hml, hr, hB, hA, hnm⟩ := id hC
  have hts := hB.1.1.at args
  refine lv_aload_n hx hb (xb_d D_M_out 0 rfl) rfl (lv_at hl 0 rfl) ?_
  refine lv_iload_n hx hb (xb_d D_M_out 1 rfl) rfl (lv_at hl 1 rfl) ?_
  refine lv_if_lt (tgt := 17) hx hb (xb_d D_M_out 2 rfl) rfl (fun hc1 => ?_) (fun hc1 => ?_)
  · have hw := hw.1 hc1
    exact am_M_out_L17 l hfl D A σ MC MS h0 Qr x0 x1 x0 h hw p e s m args below meth c hC H locs ls k n hE (lv_sub hl [0, 1] rfl) hR hS (by omega) (by omega)
  · have hw := hw.2 hc1
    refine lv_iload_n hx hb (xb_d D_M_out 3 rfl) rfl (lv_at hl 1 rfl) ?_
    refine lv_aload_n hx hb (xb_d D_M_out 4 rfl) rfl (lv_at hl 0 rfl) ?_
    obtain ⟨hk2, hw⟩ := hw
    refine xb_getI (C := R_M) (T := F_M) (N := 97) hx hb 8 88 hts fin_M hown hR hk2 (by decide) rfl (by decide) rfl (hts _ m_e2832a78) (fun _ h9 => h9) (xb_d D_M_out 5 rfl) ?_
    refine lv_icmp_ge (tgt := 17) hx hb (xb_d D_M_out 6 rfl) rfl (fun hc3 => ?_) (fun hc3 => ?_)
    · have hw := hw.1 hc3
      exact am_M_out_L17 l hfl D A σ MC MS h0 Qr x0 x1 x0 h hw p e s m args below meth c hC H locs ls k n hE (lv_sub hl [0, 1] rfl) hR hS (by omega) (by omega)
    · have hw := hw.2 hc3
      refine lv_iconst (v := 0) hx hb (xb_d D_M_out 7 rfl) (by decide) ?_
      refine lv_goto (tgt := 18) hx hb (xb_d D_M_out 8 rfl) rfl ?_
      exact am_M_out_L18 l hfl D A σ MC MS h0 Qr x0 x1 0 x0 h hw p e s m args below meth c hC H locs ls k n hE (lv_sub hl [0, 1] rfl) hR hS (by omega) (by omega)

set_option maxRecDepth 100000 in
def T_M_outs : List (Nat × Instr × Nat) := [(0, .aload_n 0, 1), (1, .iconst 0, 1), (2, .putfield 189, 3), (5, .aload_n 0, 1), (6, .getfield 622, 3), (9, .ireturn, 1)]
theorem D_M_outs : ∀ q ∈ T_M_outs, decode b_M_outs q.1 = .ok (q.2.1, q.2.2) := by decide +kernel

set_option maxHeartbeats 4000000 in
set_option maxRecDepth 100000 in
theorem ok_M_outs (l : Launch) (hfl : l.flags = pinnedFlags ++ [noTraceFlag]) (D : va_G) (A : Nat → Prop) (σ : Nat) (x0 : Nat) (h : xb_H) (Qr : Int32 → xb_H → Prop) (hw : w_M_outs x0 h Qr) : xb_Met l y_M_outs [.code y_M_outs b_M_outs 1 (some .int)] (xb_rm 2 0 0) (xb_Pc D A σ h [.ref x0]) (xb_Qc D A h 0 0 (fun v h _ _ => ∃ r, v = some (.int r) ∧ Qr r h) (fun _ _ _ _ => False)) A := by
  refine xb_ofAm (cc := b_M_outs) (by decide) (Nat.le_of_ble_eq_true rfl) ?_
  unfold w_M_outs at hw
  show xb_am l D A σ 2 0 0 h (fun v h _ _ => ∃ r, v = some (.int r) ∧ Qr r h) (fun _ _ _ _ => False) y_M_outs.cls y_M_outs.name b_M_outs 1 ([] : List ExceptionTableEntry) (some .int) 0 [(0, .ref x0)] [] h 0 0
  obtain ⟨MC, hMC⟩ : ∃ x, x = 0 := ⟨_, rfl⟩
  obtain ⟨MS, hMS⟩ : ∃ x, x = 0 := ⟨_, rfl⟩
  rw [show xb_am l D A σ 2 0 0 = xb_am l D A σ 2 MC MS by rw [hMC, hMS]]
  obtain ⟨h0, hh0⟩ : ∃ x, x = h := ⟨_, rfl⟩
  rw [show xb_am l D A σ 2 MC MS h = xb_am l D A σ 2 MC MS h0 by rw [hh0]]
  intro p e s m args below meth c hC H locs ls k n hE hl hR hS hk hn
  obtain ⟨hx, hb, hown, hlocks, htab, hml, hr, hB, hA, hnm⟩ := id hC
  have hts := hB.1.1.at args
  refine lv_aload_n hx hb (xb_d D_M_outs 0 rfl) rfl (lv_at hl 0 rfl) ?_
  refine lv_iconst (v := 0) hx hb (xb_d D_M_outs 1 rfl) (by decide) ?_
  obtain ⟨hk1, hw⟩ := hw
  refine xb_putI (C := R_M) (T := F_M) (N := 97) (ty := .int) (x := 0) hx hb 8 0 hts fin_M t_M t_M_ok n_M hown hR hS hk1 (by decide) rfl (by decide) rfl (hts _ m_afabd6a0) (fun _ h9 => h9) rfl (by decide +kernel) rfl rfl (xb_d D_M_outs 2 rfl) (fun H locs hR hS => ?_)
  obtain ⟨h2, eh2⟩ : ∃ x : xb_H, x = xb_I h x0 0 0 := ⟨_, rfl⟩
  rw [← eh2] at hR
  have hw := hw h2 eh2
  have hE : xb_ext h0 h2 := by rw [eh2]; exact hE
  refine lv_aload_n hx hb (xb_d D_M_outs 3 rfl) rfl (lv_at hl 0 rfl) ?_
  have hk1 : xb_k h2 x0 = 9 := by rw [eh2]; exact hk1
  refine xb_getI (C := R_M) (T := F_M) (N := 97) hx hb 8 88 hts fin_M hown hR hk1 (by decide) rfl (by decide) rfl (hts _ m_e2832a78) (fun _ h9 => h9) (xb_d D_M_outs 4 rfl) ?_
  exact xb_iret 0 0 hx hb hr hlocks (show k + 0 ≤ MC by omega) (show n + 0 ≤ MS by omega) hE hR hS (xb_d D_M_outs 5 rfl) hw

theorem m_7cc4ea11 : (.fieldLink "StackHostModel" 24 "StackHostModel" "first" "[I" : Cond) ∈ xt_tbl := xt_in (xt_t9 (List.mem_of_getElem? (i := 147) (by decide +kernel))) (by decide +kernel)
set_option maxRecDepth 100000 in
def T_M_placeOf : List (Nat × Instr × Nat) := [(0, .aload_n 0, 1), (1, .getfield 33, 3), (4, .aload_n 0, 1), (5, .getfield 24, 3), (8, .bipush 12, 2), (10, .iload_n 1, 1), (11, .imul, 1), (12, .iload_n 2, 1), (13, .iadd, 1), (14, .iaload, 1), (15, .iload_n 3, 1), (16, .iadd, 1), (17, .iaload, 1), (18, .ireturn, 1)]
theorem D_M_placeOf : ∀ q ∈ T_M_placeOf, decode b_M_placeOf q.1 = .ok (q.2.1, q.2.2) := by decide +kernel

set_option maxHeartbeats 4000000 in
set_option maxRecDepth 100000 in
theorem ok_M_placeOf (l : Launch) (hfl : l.flags = pinnedFlags ++ [noTraceFlag]) (D : va_G) (A : Nat → Prop) (σ : Nat) (x0 : Nat) (x1 : Int32) (x2 : Int32) (x3 : Int32) (h : xb_H) (Qr : Int32 → xb_H → Prop) (hw : w_M_placeOf x0 x1 x2 x3 h Qr) : xb_Met l y_M_placeOf [.code y_M_placeOf b_M_placeOf 4 (some .int)] (xb_rm 2 0 0) (xb_Pc D A σ h [.ref x0, .int x1, .int x2, .int x3]) (xb_Qc D A h 0 0 (fun v h _ _ => ∃ r, v = some (.int r) ∧ Qr r h) (fun _ _ _ _ => False)) A := by
  refine xb_ofAm (cc := b_M_placeOf) (by decide) (Nat.le_of_ble_eq_true rfl) ?_
  unfold w_M_placeOf at hw
  show xb_am l D A σ 2 0 0 h (fun v h _ _ => ∃ r, v = some (.int r) ∧ Qr r h) (fun _ _ _ _ => False) y_M_placeOf.cls y_M_placeOf.name b_M_placeOf 4 ([] : List ExceptionTableEntry) (some .int) 0 [(0, .ref x0), (1, .int x1), (2, .int x2), (3, .int x3)] [] h 0 0
  obtain ⟨MC, hMC⟩ : ∃ x, x = 0 := ⟨_, rfl⟩
  obtain ⟨MS, hMS⟩ : ∃ x, x = 0 := ⟨_, rfl⟩
  rw [show xb_am l D A σ 2 0 0 = xb_am l D A σ 2 MC MS by rw [hMC, hMS]]
  obtain ⟨h0, hh0⟩ : ∃ x, x = h := ⟨_, rfl⟩
  rw [show xb_am l D A σ 2 MC MS h = xb_am l D A σ 2 MC MS h0 by rw [hh0]]
  intro p e s m args below meth c hC H locs ls k n hE hl hR hS hk hn
  obtain ⟨hx, hb, hown, hlocks, htab, hml, hr, hB, hA, hnm⟩ := id hC
  have hts := hB.1.1.at args
  refine lv_aload_n hx hb (xb_d D_M_placeOf 0 rfl) rfl (lv_at hl 0 rfl) ?_
  obtain ⟨hk1, hw⟩ := hw
  refine xb_getP (C := R_M) (T := F_M) (N := 97) hx hb 8 11 hts fin_M hown hR hk1 (by decide) rfl (by decide) rfl (hts _ m_6a1d9b01) (fun _ h9 => h9) (xb_d D_M_placeOf 1 rfl) ?_
  obtain ⟨b2, eb2, hw⟩ := hw
  refine xb_some eb2 ?_
  refine lv_aload_n hx hb (xb_d D_M_placeOf 2 rfl) rfl (lv_at hl 0 rfl) ?_
  refine xb_getP (C := R_M) (T := F_M) (N := 97) hx hb 8 8 hts fin_M hown hR hk1 (by decide) rfl (by decide) rfl (hts _ m_7cc4ea11) (fun _ h9 => h9) (xb_d D_M_placeOf 3 rfl) ?_
  obtain ⟨b3, eb3, hw⟩ := hw
  refine xb_some eb3 ?_
  refine lv_bipush (v := 12) hx hb (xb_d D_M_placeOf 4 rfl) (by decide) ?_
  refine lv_iload_n hx hb (xb_d D_M_placeOf 5 rfl) rfl (lv_at hl 1 rfl) ?_
  refine lv_imul hx hb (xb_d D_M_placeOf 6 rfl) ?_
  refine lv_iload_n hx hb (xb_d D_M_placeOf 7 rfl) rfl (lv_at hl 2 rfl) ?_
  refine lv_iadd hx hb (xb_d D_M_placeOf 8 rfl) ?_
  obtain ⟨hk5, hw⟩ := hw
  obtain ⟨hi4, hw⟩ := hw
  refine xb_iald hx hb hR hk5 hi4 (xb_d D_M_placeOf 9 rfl) ?_
  refine lv_iload_n hx hb (xb_d D_M_placeOf 10 rfl) rfl (lv_at hl 3 rfl) ?_
  refine lv_iadd hx hb (xb_d D_M_placeOf 11 rfl) ?_
  obtain ⟨hk7, hw⟩ := hw
  obtain ⟨hi6, hw⟩ := hw
  refine xb_iald hx hb hR hk7 hi6 (xb_d D_M_placeOf 12 rfl) ?_
  exact xb_iret 0 0 hx hb hr hlocks (show k + 0 ≤ MC by omega) (show n + 0 ≤ MS by omega) hE hR hS (xb_d D_M_placeOf 13 rfl) hw

theorem m_8158dce5 : (.fieldLink "StackHostModel" 613 "StackHostModel" "bad" "Z" : Cond) ∈ xt_tbl := xt_in (xt_t9 (List.mem_of_getElem? (i := 232) (by decide +kernel))) (by decide +kernel)
set_option maxRecDepth 100000 in
def T_M_pop : List (Nat × Instr × Nat) := [(0, .aload_n 0, 1), (1, .getfield 610, 3), (4, .ifCond .le 21, 3), (7, .aload_n 0, 1), (8, .getfield 607, 3), (11, .aload_n 0, 1), (12, .getfield 170, 3), (15, .aload_n 0, 1), (16, .getfield 610, 3), (19, .iconst 1, 1), (20, .isub, 1), (21, .iaload, 1), (22, .if_icmp .le 10, 3), (25, .aload_n 0, 1), (26, .getfield 607, 3), (29, .ifCond .ne 10, 3), (32, .aload_n 0, 1), (33, .iconst 1, 1), (34, .putfield 613, 3), (37, .lconst 0, 1), (38, .lreturn, 1), (39, .aload_n 0, 1), (40, .dup, 1), (41, .getfield 607, 3), (44, .iconst 1, 1), (45, .isub, 1), (46, .putfield 607, 3), (49, .aload_n 0, 1), (50, .aload_n 0, 1), (51, .getfield 613, 3), (54, .ifCond .ne 20, 3), (57, .iload_n 1, 1), (58, .ifCond .eq 20, 3), (61, .aload_n 0, 1), (62, .getfield 157, 3), (65, .aload_n 0, 1), (66, .getfield 607, 3), (69, .baload, 1), (70, .iload_n 1, 1), (71, .if_icmp .eq 7, 3), (74, .iconst 1, 1), (75, .goto 4, 3), (78, .iconst 0, 1), (79, .putfield 613, 3), (82, .aload_n 0, 1), (83, .getfield 154, 3), (86, .aload_n 0, 1), (87, .getfield 607, 3), (90, .laload, 1), (91, .lreturn, 1)]
theorem D_M_pop : ∀ q ∈ T_M_pop, decode b_M_pop q.1 = .ok (q.2.1, q.2.2) := by decide +kernel

set_option maxHeartbeats 4000000 in
set_option maxRecDepth 100000 in
theorem am_M_pop_L79 (l : Launch) (hfl : l.flags = pinnedFlags ++ [noTraceFlag]) (D : va_G) (A : Nat → Prop) (σ MC MS : Nat) (h0 : xb_H) (Qr : Int64 → xb_H → Prop) (x0 : Nat) (y0 : Int32) (y1 : Nat) (h : xb_H) (hw : w_M_pop_L79 Qr x0 y0 y1 h) : xb_am l D A σ 2 MC MS h0 (fun v h _ _ => ∃ r, v = some (.long r) ∧ Qr r h) (fun _ _ _ _ => False) y_M_pop.cls y_M_pop.name b_M_pop 2 ([] : List ExceptionTableEntry) (some .long) 79 [(0, .ref x0)] [.int y0, .ref y1] h 0 0 := by
  unfold w_M_pop_L79 at hw
  intro p e s m args below meth c hC H locs ls k n hE hl hR hS hk hn
  obtain ⟨hx, hb, hown, hlocks, htab, hml, hr, hB, hA, hnm⟩ := id hC
  have hts := hB.1.1.at args
  obtain ⟨hk1, hw⟩ := hw
  obtain ⟨hz2, hw⟩ := hw
  refine xb_putI (C := R_M) (T := F_M) (N := 97) (ty := .boolean) (x := y0) hx hb 8 94 hts fin_M t_M t_M_ok n_M hown hR hS hk1 (by decide) rfl (by decide) rfl (hts _ m_8158dce5) (fun _ h9 => h9) rfl (by decide +kernel) (xb_bn hz2).1 (xb_bn hz2).2 (xb_d D_M_pop 43 rfl) (fun H locs hR hS => ?_)
  obtain ⟨h3, eh3⟩ : ∃ x : xb_H, x = xb_I h y1 94 y0 := ⟨_, rfl⟩
  rw [← eh3] at hR
  have hw := hw h3 eh3
  have hE : xb_ext h0 h3 := by rw [eh3]; exact hE
  refine lv_aload_n hx hb (xb_d D_M_pop 44 rfl) rfl (lv_at hl 0 rfl) ?_
  obtain ⟨hk4, hw⟩ := hw
  refine xb_getP (C := R_M) (T := F_M) (N := 97) hx hb 8 74 hts fin_M hown hR hk4 (by decide) rfl (by decide) rfl (hts _ m_f82105f7) (fun _ h9 => h9) (xb_d D_M_pop 45 rfl) ?_
  obtain ⟨b5, eb5, hw⟩ := hw
  refine xb_some eb5 ?_
  refine lv_aload_n hx hb (xb_d D_M_pop 46 rfl) rfl (lv_at hl 0 rfl) ?_
  refine xb_getI (C := R_M) (T := F_M) (N := 97) hx hb 8 76 hts fin_M hown hR hk4 (by decide) rfl (by decide) rfl (hts _ m_d6ddfcd8) (fun _ h9 => h9) (xb_d D_M_pop 47 rfl) ?_
  obtain ⟨hk7, hw⟩ := hw
  obtain ⟨hi6, hw⟩ := hw
  refine xb_lald hx hb hR hk7 hi6 (xb_d D_M_pop 48 rfl) ?_
  exact xb_lret 0 0 hx hb hr hlocks (show k + 0 ≤ MC by omega) (show n + 0 ≤ MS by omega) hE hR hS (xb_d D_M_pop 49 rfl) hw

set_option maxHeartbeats 4000000 in
set_option maxRecDepth 100000 in
theorem am_M_pop_L78 (l : Launch) (hfl : l.flags = pinnedFlags ++ [noTraceFlag]) (D : va_G) (A : Nat → Prop) (σ MC MS : Nat) (h0 : xb_H) (Qr : Int64 → xb_H → Prop) (x0 : Nat) (y0 : Nat) (h : xb_H) (hw : w_M_pop_L78 Qr x0 y0 h) : xb_am l D A σ 2 MC MS h0 (fun v h _ _ => ∃ r, v = some (.long r) ∧ Qr r h) (fun _ _ _ _ => False) y_M_pop.cls y_M_pop.name b_M_pop 2 ([] : List ExceptionTableEntry) (some .long) 78 [(0, .ref x0)] [.ref y0] h 0 0 := by
  unfold w_M_pop_L78 at hw
  intro p e s m args below meth c hC H locs ls k n hE hl hR hS hk hn
  obtain ⟨hx, hb, hown, hlocks, htab, hml, hr, hB, hA, hnm⟩ := id hC
  have hts := hB.1.1.at args
  refine lv_iconst (v := 0) hx hb (xb_d D_M_pop 42 rfl) (by decide) ?_
  exact am_M_pop_L79 l hfl D A σ MC MS h0 Qr x0 0 y0 h hw p e s m args below meth c hC H locs ls k n hE (lv_sub hl [0] rfl) hR hS (by omega) (by omega)

set_option maxHeartbeats 4000000 in
set_option maxRecDepth 100000 in
theorem am_M_pop_L74 (l : Launch) (hfl : l.flags = pinnedFlags ++ [noTraceFlag]) (D : va_G) (A : Nat → Prop) (σ MC MS : Nat) (h0 : xb_H) (Qr : Int64 → xb_H → Prop) (x0 : Nat) (y0 : Nat) (h : xb_H) (hw : w_M_pop_L74 Qr x0 y0 h) : xb_am l D A σ 2 MC MS h0 (fun v h _ _ => ∃ r, v = some (.long r) ∧ Qr r h) (fun _ _ _ _ => False) y_M_pop.cls y_M_pop.name b_M_pop 2 ([] : List ExceptionTableEntry) (some .long) 74 [(0, .ref x0)] [.ref y0] h 0 0 := by
  unfold w_M_pop_L74 at hw
  intro p e s m args below meth c hC H locs ls k n hE hl hR hS hk hn
  obtain ⟨hx, hb, hown, hlocks, htab, hml, hr, hB, hA, hnm⟩ := id hC
  have hts := hB.1.1.at args
  refine lv_iconst (v := 1) hx hb (xb_d D_M_pop 40 rfl) (by decide) ?_
  refine lv_goto (tgt := 79) hx hb (xb_d D_M_pop 41 rfl) rfl ?_
  exact am_M_pop_L79 l hfl D A σ MC MS h0 Qr x0 1 y0 h hw p e s m args below meth c hC H locs ls k n hE (lv_sub hl [0] rfl) hR hS (by omega) (by omega)

set_option maxHeartbeats 4000000 in
set_option maxRecDepth 100000 in
theorem am_M_pop_L32 (l : Launch) (hfl : l.flags = pinnedFlags ++ [noTraceFlag]) (D : va_G) (A : Nat → Prop) (σ MC MS : Nat) (h0 : xb_H) (Qr : Int64 → xb_H → Prop) (x0 : Nat) (h : xb_H) (hw : w_M_pop_L32 Qr x0 h) : xb_am l D A σ 2 MC MS h0 (fun v h _ _ => ∃ r, v = some (.long r) ∧ Qr r h) (fun _ _ _ _ => False) y_M_pop.cls y_M_pop.name b_M_pop 2 ([] : List ExceptionTableEntry) (some .long) 32 [(0, .ref x0)] [] h 0 0 := by
  unfold w_M_pop_L32 at hw
  intro p e s m args below meth c hC H locs ls k n hE hl hR hS hk hn
  obtain ⟨hx, hb, hown, hlocks, htab, hml, hr, hB, hA, hnm⟩ := id hC
  have hts := hB.1.1.at args
  refine lv_aload_n hx hb (xb_d D_M_pop 16 rfl) rfl (lv_at hl 0 rfl) ?_
  refine lv_iconst (v := 1) hx hb (xb_d D_M_pop 17 rfl) (by decide) ?_
  obtain ⟨hk1, hw⟩ := hw
  refine xb_putI (C := R_M) (T := F_M) (N := 97) (ty := .boolean) (x := 1) hx hb 8 94 hts fin_M t_M t_M_ok n_M hown hR hS hk1 (by decide) rfl (by decide) rfl (hts _ m_8158dce5) (fun _ h9 => h9) rfl (by decide +kernel) (by decide) (by decide) (xb_d D_M_pop 18 rfl) (fun H locs hR hS => ?_)
  obtain ⟨h2, eh2⟩ : ∃ x : xb_H, x = xb_I h x0 94 1 := ⟨_, rfl⟩
  rw [← eh2] at hR
  have hw := hw h2 eh2
  have hE : xb_ext h0 h2 := by rw [eh2]; exact hE
  refine lv_lconst (v := 0) hx hb (xb_d D_M_pop 19 rfl) (by decide) ?_
  exact xb_lret 0 0 hx hb hr hlocks (show k + 0 ≤ MC by omega) (show n + 0 ≤ MS by omega) hE hR hS (xb_d D_M_pop 20 rfl) hw

set_option maxHeartbeats 4000000 in
set_option maxRecDepth 100000 in
theorem am_M_pop_L25 (l : Launch) (hfl : l.flags = pinnedFlags ++ [noTraceFlag]) (D : va_G) (A : Nat → Prop) (σ MC MS : Nat) (h0 : xb_H) (Qr : Int64 → xb_H → Prop) (x0 : Nat) (x1 : Int32) (h : xb_H) (hw : w_M_pop_L25 Qr x0 x1 h) : xb_am l D A σ 2 MC MS h0 (fun v h _ _ => ∃ r, v = some (.long r) ∧ Qr r h) (fun _ _ _ _ => False) y_M_pop.cls y_M_pop.name b_M_pop 2 ([] : List ExceptionTableEntry) (some .long) 25 [(0, .ref x0), (1, .int x1)] [] h 0 0 := by
  unfold w_M_pop_L25 at hw
  intro p e s m args below meth c hC H locs ls k n hE hl hR hS hk hn
  obtain ⟨hx, hb, hown, hlocks, htab, hml, hr, hB, hA, hnm⟩ := id hC
  have hts := hB.1.1.at args
  refine lv_aload_n hx hb (xb_d D_M_pop 13 rfl) rfl (lv_at hl 0 rfl) ?_
  obtain ⟨hk1, hw⟩ := hw
  refine xb_getI (C := R_M) (T := F_M) (N := 97) hx hb 8 76 hts fin_M hown hR hk1 (by decide) rfl (by decide) rfl (hts _ m_d6ddfcd8) (fun _ h9 => h9) (xb_d D_M_pop 14 rfl) ?_
  refine lv_if_ne (tgt := 39) hx hb (xb_d D_M_pop 15 rfl) rfl (fun hc2 => ?_) (fun hc2 => ?_)
  · have hw := hw.1 hc2
    refine lv_aload_n hx hb (xb_d D_M_pop 21 rfl) rfl (lv_at hl 0 rfl) ?_
    refine lv_dup hx hb (xb_d D_M_pop 22 rfl) rfl ?_
    refine xb_getI (C := R_M) (T := F_M) (N := 97) hx hb 8 76 hts fin_M hown hR hk1 (by decide) rfl (by decide) rfl (hts _ m_d6ddfcd8) (fun _ h9 => h9) (xb_d D_M_pop 23 rfl) ?_
    refine lv_iconst (v := 1) hx hb (xb_d D_M_pop 24 rfl) (by decide) ?_
    refine lv_isub hx hb (xb_d D_M_pop 25 rfl) ?_
    refine xb_putI (C := R_M) (T := F_M) (N := 97) (ty := .int) (x := ((xb_i h x0 76) - 1)) hx hb 8 76 hts fin_M t_M t_M_ok n_M hown hR hS hk1 (by decide) rfl (by decide) rfl (hts _ m_d6ddfcd8) (fun _ h9 => h9) rfl (by decide +kernel) rfl rfl (xb_d D_M_pop 26 rfl) (fun H locs hR hS => ?_)
    obtain ⟨h3, eh3⟩ : ∃ x : xb_H, x = xb_I h x0 76 ((xb_i h x0 76) - 1) := ⟨_, rfl⟩
    rw [← eh3] at hR
    have hw := hw h3 eh3
    have hE : xb_ext h0 h3 := by rw [eh3]; exact hE
    refine lv_aload_n hx hb (xb_d D_M_pop 27 rfl) rfl (lv_at hl 0 rfl) ?_
    refine lv_aload_n hx hb (xb_d D_M_pop 28 rfl) rfl (lv_at hl 0 rfl) ?_
    have hk1 : xb_k h3 x0 = 9 := by rw [eh3]; exact hk1
    refine xb_getI (C := R_M) (T := F_M) (N := 97) hx hb 8 94 hts fin_M hown hR hk1 (by decide) rfl (by decide) rfl (hts _ m_8158dce5) (fun _ h9 => h9) (xb_d D_M_pop 29 rfl) ?_
    refine lv_if_ne (tgt := 74) hx hb (xb_d D_M_pop 30 rfl) rfl (fun hc4 => ?_) (fun hc4 => ?_)
    · have hw := hw.1 hc4
      exact am_M_pop_L74 l hfl D A σ MC MS h0 Qr x0 x0 h3 hw p e s m args below meth c hC H locs ls k n hE (lv_sub hl [0] rfl) hR hS (by omega) (by omega)
    · have hw := hw.2 hc4
      refine lv_iload_n hx hb (xb_d D_M_pop 31 rfl) rfl (lv_at hl 1 rfl) ?_
      refine lv_if_eq (tgt := 78) hx hb (xb_d D_M_pop 32 rfl) rfl (fun hc5 => ?_) (fun hc5 => ?_)
      · have hw := hw.1 hc5
        exact am_M_pop_L78 l hfl D A σ MC MS h0 Qr x0 x0 h3 hw p e s m args below meth c hC H locs ls k n hE (lv_sub hl [0] rfl) hR hS (by omega) (by omega)
      · have hw := hw.2 hc5
        refine lv_aload_n hx hb (xb_d D_M_pop 33 rfl) rfl (lv_at hl 0 rfl) ?_
        refine xb_getP (C := R_M) (T := F_M) (N := 97) hx hb 8 75 hts fin_M hown hR hk1 (by decide) rfl (by decide) rfl (hts _ m_6b215119) (fun _ h9 => h9) (xb_d D_M_pop 34 rfl) ?_
        obtain ⟨b6, eb6, hw⟩ := hw
        refine xb_some eb6 ?_
        refine lv_aload_n hx hb (xb_d D_M_pop 35 rfl) rfl (lv_at hl 0 rfl) ?_
        refine xb_getI (C := R_M) (T := F_M) (N := 97) hx hb 8 76 hts fin_M hown hR hk1 (by decide) rfl (by decide) rfl (hts _ m_d6ddfcd8) (fun _ h9 => h9) (xb_d D_M_pop 36 rfl) ?_
        obtain ⟨hk8, hw⟩ := hw
        obtain ⟨hi7, hw⟩ := hw
        refine xb_bald hx hb hR hk8 hi7 (xb_d D_M_pop 37 rfl) ?_
        refine lv_iload_n hx hb (xb_d D_M_pop 38 rfl) rfl (lv_at hl 1 rfl) ?_
        refine lv_icmp_eq (tgt := 78) hx hb (xb_d D_M_pop 39 rfl) rfl (fun hc9 => ?_) (fun hc9 => ?_)
        · have hw := hw.1 hc9
          exact am_M_pop_L78 l hfl D A σ MC MS h0 Qr x0 x0 h3 hw p e s m args below meth c hC H locs ls k n hE (lv_sub hl [0] rfl) hR hS (by omega) (by omega)
        · have hw := hw.2 hc9
          exact am_M_pop_L74 l hfl D A σ MC MS h0 Qr x0 x0 h3 hw p e s m args below meth c hC H locs ls k n hE (lv_sub hl [0] rfl) hR hS (by omega) (by omega)
  · have hw := hw.2 hc2
    exact am_M_pop_L32 l hfl D A σ MC MS h0 Qr x0 h hw p e s m args below meth c hC H locs ls k n hE (lv_sub hl [0] rfl) hR hS (by omega) (by omega)

set_option maxHeartbeats 4000000 in
set_option maxRecDepth 100000 in
theorem ok_M_pop (l : Launch) (hfl : l.flags = pinnedFlags ++ [noTraceFlag]) (D : va_G) (A : Nat → Prop) (σ : Nat) (x0 : Nat) (x1 : Int32) (h : xb_H) (Qr : Int64 → xb_H → Prop) (hw : w_M_pop x0 x1 h Qr) : xb_Met l y_M_pop [.code y_M_pop b_M_pop 2 (some .long)] (xb_rm 2 0 0) (xb_Pc D A σ h [.ref x0, .int x1]) (xb_Qc D A h 0 0 (fun v h _ _ => ∃ r, v = some (.long r) ∧ Qr r h) (fun _ _ _ _ => False)) A := by
  refine xb_ofAm (cc := b_M_pop) (by decide) (Nat.le_of_ble_eq_true rfl) ?_
  unfold w_M_pop at hw
  show xb_am l D A σ 2 0 0 h (fun v h _ _ => ∃ r, v = some (.long r) ∧ Qr r h) (fun _ _ _ _ => False) y_M_pop.cls y_M_pop.name b_M_pop 2 ([] : List ExceptionTableEntry) (some .long) 0 [(0, .ref x0), (1, .int x1)] [] h 0 0
  obtain ⟨MC, hMC⟩ : ∃ x, x = 0 := ⟨_, rfl⟩
  obtain ⟨MS, hMS⟩ : ∃ x, x = 0 := ⟨_, rfl⟩
  rw [show xb_am l D A σ 2 0 0 = xb_am l D A σ 2 MC MS by rw [hMC, hMS]]
  obtain ⟨h0, hh0⟩ : ∃ x, x = h := ⟨_, rfl⟩
  rw [show xb_am l D A σ 2 MC MS h = xb_am l D A σ 2 MC MS h0 by rw [hh0]]
  intro p e s m args below meth c hC H locs ls k n hE hl hR hS hk hn
  obtain ⟨hx, hb, hown, hlocks, htab, hml, hr, hB, hA, hnm⟩ := id hC
  have hts := hB.1.1.at args
  refine lv_aload_n hx hb (xb_d D_M_pop 0 rfl) rfl (lv_at hl 0 rfl) ?_
  obtain ⟨hk1, hw⟩ := hw
  refine xb_getI (C := R_M) (T := F_M) (N := 97) hx hb 8 81 hts fin_M hown hR hk1 (by decide) rfl (by decide) rfl (hts _ m_65743087) (fun _ h9 => h9) (xb_d D_M_pop 1 rfl) ?_
  refine lv_if_le (tgt := 25) hx hb (xb_d D_M_pop 2 rfl) rfl (fun hc2 => ?_) (fun hc2 => ?_)
  · have hw := hw.1 hc2
    exact am_M_pop_L25 l hfl D A σ MC MS h0 Qr x0 x1 h hw p e s m args below meth c hC H locs ls k n hE (lv_sub hl [0, 1] rfl) hR hS (by omega) (by omega)
  · have hw := hw.2 hc2
    refine lv_aload_n hx hb (xb_d D_M_pop 3 rfl) rfl (lv_at hl 0 rfl) ?_
    refine xb_getI (C := R_M) (T := F_M) (N := 97) hx hb 8 76 hts fin_M hown hR hk1 (by decide) rfl (by decide) rfl (hts _ m_d6ddfcd8) (fun _ h9 => h9) (xb_d D_M_pop 4 rfl) ?_
    refine lv_aload_n hx hb (xb_d D_M_pop 5 rfl) rfl (lv_at hl 0 rfl) ?_
    refine xb_getP (C := R_M) (T := F_M) (N := 97) hx hb 8 80 hts fin_M hown hR hk1 (by decide) rfl (by decide) rfl (hts _ m_24ba043b) (fun _ h9 => h9) (xb_d D_M_pop 6 rfl) ?_
    obtain ⟨b3, eb3, hw⟩ := hw
    refine xb_some eb3 ?_
    refine lv_aload_n hx hb (xb_d D_M_pop 7 rfl) rfl (lv_at hl 0 rfl) ?_
    refine xb_getI (C := R_M) (T := F_M) (N := 97) hx hb 8 81 hts fin_M hown hR hk1 (by decide) rfl (by decide) rfl (hts _ m_65743087) (fun _ h9 => h9) (xb_d D_M_pop 8 rfl) ?_
    refine lv_iconst (v := 1) hx hb (xb_d D_M_pop 9 rfl) (by decide) ?_
    refine lv_isub hx hb (xb_d D_M_pop 10 rfl) ?_
    obtain ⟨hk5, hw⟩ := hw
    obtain ⟨hi4, hw⟩ := hw
    refine xb_iald hx hb hR hk5 hi4 (xb_d D_M_pop 11 rfl) ?_
    refine lv_icmp_le (tgt := 32) hx hb (xb_d D_M_pop 12 rfl) rfl (fun hc6 => ?_) (fun hc6 => ?_)
    · have hw := hw.1 hc6
      exact am_M_pop_L32 l hfl D A σ MC MS h0 Qr x0 h hw p e s m args below meth c hC H locs ls k n hE (lv_sub hl [0] rfl) hR hS (by omega) (by omega)
    · have hw := hw.2 hc6
      exact am_M_pop_L25 l hfl D A σ MC MS h0 Qr x0 x1 h hw p e s m args below meth c hC H locs ls k n hE (lv_sub hl [0, 1] rfl) hR hS (by omega) (by omega)

theorem m_37875847 : (.fieldLink "StackHostModel" 133 "StackHostModel" "arguments" "[J" : Cond) ∈ xt_tbl := xt_in (xt_t9 (List.mem_of_getElem? (i := 204) (by decide +kernel))) (by decide +kernel)
theorem m_d42439d2 : (.fieldLink "StackHostModel" 604 "StackHostModel" "argumentCount" "I" : Cond) ∈ xt_tbl := xt_in (xt_t9 (List.mem_of_getElem? (i := 205) (by decide +kernel))) (by decide +kernel)
set_option maxRecDepth 100000 in
def T_M_push : List (Nat × Instr × Nat) := [(0, .aload_n 0, 1), (1, .aload_n 0, 1), (2, .getfield 604, 3), (5, .sipush 1000, 3), (8, .if_icmp .ne 7, 3), (11, .iconst 1, 1), (12, .goto 4, 3), (15, .iconst 0, 1), (16, .putfield 189, 3), (19, .aload_n 0, 1), (20, .getfield 189, 3), (23, .ifCond .le 5, 3), (26, .iconst 0, 1), (27, .ireturn, 1), (28, .aload_n 0, 1), (29, .getfield 133, 3), (32, .aload_n 0, 1), (33, .getfield 604, 3), (36, .lload_n 1, 1), (37, .lastore, 1), (38, .aload_n 0, 1), (39, .dup, 1), (40, .getfield 604, 3), (43, .iconst 1, 1), (44, .iadd, 1), (45, .putfield 604, 3), (48, .aload_n 0, 1), (49, .getfield 604, 3), (52, .ireturn, 1)]
theorem D_M_push : ∀ q ∈ T_M_push, decode b_M_push q.1 = .ok (q.2.1, q.2.2) := by decide +kernel

set_option maxHeartbeats 4000000 in
set_option maxRecDepth 100000 in
theorem am_M_push_L16 (l : Launch) (hfl : l.flags = pinnedFlags ++ [noTraceFlag]) (D : va_G) (A : Nat → Prop) (σ MC MS : Nat) (h0 : xb_H) (Qr : Int32 → xb_H → Prop) (x0 : Nat) (x1 : Int64) (y0 : Int32) (y1 : Nat) (h : xb_H) (hw : w_M_push_L16 Qr x0 x1 y0 y1 h) : xb_am l D A σ 2 MC MS h0 (fun v h _ _ => ∃ r, v = some (.int r) ∧ Qr r h) (fun _ _ _ _ => False) y_M_push.cls y_M_push.name b_M_push 3 ([] : List ExceptionTableEntry) (some .int) 16 [(0, .ref x0), (1, .long x1)] [.int y0, .ref y1] h 0 0 := by
  unfold w_M_push_L16 at hw
  intro p e s m args below meth c hC H locs ls k n hE hl hR hS hk hn
  obtain ⟨hx, hb, hown, hlocks, htab, hml, hr, hB, hA, hnm⟩ := id hC
  have hts := hB.1.1.at args
  obtain ⟨hk1, hw⟩ := hw
  refine xb_putI (C := R_M) (T := F_M) (N := 97) (ty := .int) (x := y0) hx hb 8 0 hts fin_M t_M t_M_ok n_M hown hR hS hk1 (by decide) rfl (by decide) rfl (hts _ m_afabd6a0) (fun _ h9 => h9) rfl (by decide +kernel) rfl rfl (xb_d D_M_push 8 rfl) (fun H locs hR hS => ?_)
  obtain ⟨h2, eh2⟩ : ∃ x : xb_H, x = xb_I h y1 0 y0 := ⟨_, rfl⟩
  rw [← eh2] at hR
  have hw := hw h2 eh2
  have hE : xb_ext h0 h2 := by rw [eh2]; exact hE
  refine lv_aload_n hx hb (xb_d D_M_push 9 rfl) rfl (lv_at hl 0 rfl) ?_
  obtain ⟨hk3, hw⟩ := hw
  refine xb_getI (C := R_M) (T := F_M) (N := 97) hx hb 8 0 hts fin_M hown hR hk3 (by decide) rfl (by decide) rfl (hts _ m_afabd6a0) (fun _ h9 => h9) (xb_d D_M_push 10 rfl) ?_
  refine lv_if_le (tgt := 28) hx hb (xb_d D_M_push 11 rfl) rfl (fun hc4 => ?_) (fun hc4 => ?_)
  · have hw := hw.1 hc4
    refine lv_aload_n hx hb (xb_d D_M_push 14 rfl) rfl (lv_at hl 0 rfl) ?_
    refine xb_getP (C := R_M) (T := F_M) (N := 97) hx hb 8 65 hts fin_M hown hR hk3 (by decide) rfl (by decide) rfl (hts _ m_37875847) (fun _ h9 => h9) (xb_d D_M_push 15 rfl) ?_
    obtain ⟨b5, eb5, hw⟩ := hw
    refine xb_some eb5 ?_
    refine lv_aload_n hx hb (xb_d D_M_push 16 rfl) rfl (lv_at hl 0 rfl) ?_
    refine xb_getI (C := R_M) (T := F_M) (N := 97) hx hb 8 66 hts fin_M hown hR hk3 (by decide) rfl (by decide) rfl (hts _ m_d42439d2) (fun _ h9 => h9) (xb_d D_M_push 17 rfl) ?_
    refine lv_lload_n hx hb (xb_d D_M_push 18 rfl) rfl (lv_at hl 1 rfl) ?_
    obtain ⟨hk6, hw⟩ := hw
    obtain ⟨hi7, hw⟩ := hw
    refine xb_last hx hb hR hS hk6 hi7 (xb_d D_M_push 19 rfl) (fun H locs hR hS => ?_)
    obtain ⟨h8, eh8⟩ : ∃ x : xb_H, x = xb_L h2 b5 (Int32.toNatClampNeg (xb_i h2 x0 66)) x1 := ⟨_, rfl⟩
    rw [← eh8] at hR
    have hw := hw h8 eh8
    have hE : xb_ext h0 h8 := by rw [eh8]; exact hE
    refine lv_aload_n hx hb (xb_d D_M_push 20 rfl) rfl (lv_at hl 0 rfl) ?_
    refine lv_dup hx hb (xb_d D_M_push 21 rfl) rfl ?_
    have hk3 : xb_k h8 x0 = 9 := by rw [eh8]; exact hk3
    refine xb_getI (C := R_M) (T := F_M) (N := 97) hx hb 8 66 hts fin_M hown hR hk3 (by decide) rfl (by decide) rfl (hts _ m_d42439d2) (fun _ h9 => h9) (xb_d D_M_push 22 rfl) ?_
    refine lv_iconst (v := 1) hx hb (xb_d D_M_push 23 rfl) (by decide) ?_
    refine lv_iadd hx hb (xb_d D_M_push 24 rfl) ?_
    refine xb_putI (C := R_M) (T := F_M) (N := 97) (ty := .int) (x := ((xb_i h8 x0 66) + 1)) hx hb 8 66 hts fin_M t_M t_M_ok n_M hown hR hS hk3 (by decide) rfl (by decide) rfl (hts _ m_d42439d2) (fun _ h9 => h9) rfl (by decide +kernel) rfl rfl (xb_d D_M_push 25 rfl) (fun H locs hR hS => ?_)
    obtain ⟨h9, eh9⟩ : ∃ x : xb_H, x = xb_I h8 x0 66 ((xb_i h8 x0 66) + 1) := ⟨_, rfl⟩
    rw [← eh9] at hR
    have hw := hw h9 eh9
    have hE : xb_ext h0 h9 := by rw [eh9]; exact hE
    refine lv_aload_n hx hb (xb_d D_M_push 26 rfl) rfl (lv_at hl 0 rfl) ?_
    have hk3 : xb_k h9 x0 = 9 := by rw [eh9]; exact hk3
    refine xb_getI (C := R_M) (T := F_M) (N := 97) hx hb 8 66 hts fin_M hown hR hk3 (by decide) rfl (by decide) rfl (hts _ m_d42439d2) (fun _ h9 => h9) (xb_d D_M_push 27 rfl) ?_
    exact xb_iret 0 0 hx hb hr hlocks (show k + 0 ≤ MC by omega) (show n + 0 ≤ MS by omega) hE hR hS (xb_d D_M_push 28 rfl) hw
  · have hw := hw.2 hc4
    refine lv_iconst (v := 0) hx hb (xb_d D_M_push 12 rfl) (by decide) ?_
    exact xb_iret 0 0 hx hb hr hlocks (show k + 0 ≤ MC by omega) (show n + 0 ≤ MS by omega) hE hR hS (xb_d D_M_push 13 rfl) hw

set_option maxHeartbeats 4000000 in
set_option maxRecDepth 100000 in
theorem ok_M_push (l : Launch) (hfl : l.flags = pinnedFlags ++ [noTraceFlag]) (D : va_G) (A : Nat → Prop) (σ : Nat) (x0 : Nat) (x1 : Int64) (h : xb_H) (Qr : Int32 → xb_H → Prop) (hw : w_M_push x0 x1 h Qr) : xb_Met l y_M_push [.code y_M_push b_M_push 3 (some .int)] (xb_rm 2 0 0) (xb_Pc D A σ h [.ref x0, .long x1]) (xb_Qc D A h 0 0 (fun v h _ _ => ∃ r, v = some (.int r) ∧ Qr r h) (fun _ _ _ _ => False)) A := by
  refine xb_ofAm (cc := b_M_push) (by decide) (Nat.le_of_ble_eq_true rfl) ?_
  unfold w_M_push at hw
  show xb_am l D A σ 2 0 0 h (fun v h _ _ => ∃ r, v = some (.int r) ∧ Qr r h) (fun _ _ _ _ => False) y_M_push.cls y_M_push.name b_M_push 3 ([] : List ExceptionTableEntry) (some .int) 0 [(0, .ref x0), (1, .long x1)] [] h 0 0
  obtain ⟨MC, hMC⟩ : ∃ x, x = 0 := ⟨_, rfl⟩
  obtain ⟨MS, hMS⟩ : ∃ x, x = 0 := ⟨_, rfl⟩
  rw [show xb_am l D A σ 2 0 0 = xb_am l D A σ 2 MC MS by rw [hMC, hMS]]
  obtain ⟨h0, hh0⟩ : ∃ x, x = h := ⟨_, rfl⟩
  rw [show xb_am l D A σ 2 MC MS h = xb_am l D A σ 2 MC MS h0 by rw [hh0]]
  intro p e s m args below meth c hC H locs ls k n hE hl hR hS hk hn
  obtain ⟨hx, hb, hown, hlocks, htab, hml, hr, hB, hA, hnm⟩ := id hC
  have hts := hB.1.1.at args
  refine lv_aload_n hx hb (xb_d D_M_push 0 rfl) rfl (lv_at hl 0 rfl) ?_
  refine lv_aload_n hx hb (xb_d D_M_push 1 rfl) rfl (lv_at hl 0 rfl) ?_
  obtain ⟨hk1, hw⟩ := hw
  refine xb_getI (C := R_M) (T := F_M) (N := 97) hx hb 8 66 hts fin_M hown hR hk1 (by decide) rfl (by decide) rfl (hts _ m_d42439d2) (fun _ h9 => h9) (xb_d D_M_push 2 rfl) ?_
  refine lv_sipush (v := 1000) hx hb (xb_d D_M_push 3 rfl) (by decide) ?_
  refine lv_icmp_ne (tgt := 15) hx hb (xb_d D_M_push 4 rfl) rfl (fun hc2 => ?_) (fun hc2 => ?_)
  · have hw := hw.1 hc2
    refine lv_iconst (v := 0) hx hb (xb_d D_M_push 7 rfl) (by decide) ?_
    exact am_M_push_L16 l hfl D A σ MC MS h0 Qr x0 x1 0 x0 h hw p e s m args below meth c hC H locs ls k n hE (lv_sub hl [0, 1] rfl) hR hS (by omega) (by omega)
  · have hw := hw.2 hc2
    refine lv_iconst (v := 1) hx hb (xb_d D_M_push 5 rfl) (by decide) ?_
    refine lv_goto (tgt := 16) hx hb (xb_d D_M_push 6 rfl) rfl ?_
    exact am_M_push_L16 l hfl D A σ MC MS h0 Qr x0 x1 1 x0 h hw p e s m args below meth c hC H locs ls k n hE (lv_sub hl [0, 1] rfl) hR hS (by omega) (by omega)

theorem m_bee2a5e5 : (.fieldLink "StackHostModel" 393 "StackHostModel" "most" "I" : Cond) ∈ xt_tbl := xt_in (xt_t9 (List.mem_of_getElem? (i := 162) (by decide +kernel))) (by decide +kernel)
theorem m_a8b072e8 : (.fieldLink "StackHostModel" 43 "StackHostModel" "operands" "[B" : Cond) ∈ xt_tbl := xt_in (xt_t9 (List.mem_of_getElem? (i := 160) (by decide +kernel))) (by decide +kernel)
set_option maxRecDepth 100000 in
def T_M_put : List (Nat × Instr × Nat) := [(0, .aload_n 0, 1), (1, .getfield 43, 3), (4, .aload_n 0, 1), (5, .getfield 390, 3), (8, .iload_n 1, 1), (9, .i2b, 1), (10, .bastore, 1), (11, .aload_n 0, 1), (12, .dup, 1), (13, .getfield 390, 3), (16, .iconst 1, 1), (17, .iadd, 1), (18, .putfield 390, 3), (21, .aload_n 0, 1), (22, .aload_n 0, 1), (23, .getfield 390, 3), (26, .aload_n 0, 1), (27, .getfield 393, 3), (30, .if_icmp .le 10, 3), (33, .aload_n 0, 1), (34, .getfield 390, 3), (37, .goto 7, 3), (40, .aload_n 0, 1), (41, .getfield 393, 3), (44, .putfield 393, 3), (47, .return_, 1)]
theorem D_M_put : ∀ q ∈ T_M_put, decode b_M_put q.1 = .ok (q.2.1, q.2.2) := by decide +kernel

set_option maxHeartbeats 4000000 in
set_option maxRecDepth 100000 in
theorem am_M_put_L44 (l : Launch) (hfl : l.flags = pinnedFlags ++ [noTraceFlag]) (D : va_G) (A : Nat → Prop) (σ MC MS : Nat) (h0 : xb_H) (Qr : xb_H → Prop) (y0 : Int32) (y1 : Nat) (h : xb_H) (hw : w_M_put_L44 Qr y0 y1 h) : xb_am l D A σ 2 MC MS h0 (fun v h _ _ => v = none ∧ Qr h) (fun _ _ _ _ => False) y_M_put.cls y_M_put.name b_M_put 2 ([] : List ExceptionTableEntry) none 44 [] [.int y0, .ref y1] h 0 0 := by
  unfold w_M_put_L44 at hw
  intro p e s m args below meth c hC H locs ls k n hE hl hR hS hk hn
  obtain ⟨hx, hb, hown, hlocks, htab, hml, hr, hB, hA, hnm⟩ := id hC
  have hts := hB.1.1.at args
  obtain ⟨hk1, hw⟩ := hw
  refine xb_putI (C := R_M) (T := F_M) (N := 97) (ty := .int) (x := y0) hx hb 8 23 hts fin_M t_M t_M_ok n_M hown hR hS hk1 (by decide) rfl (by decide) rfl (hts _ m_bee2a5e5) (fun _ h9 => h9) rfl (by decide +kernel) rfl rfl (xb_d D_M_put 24 rfl) (fun H locs hR hS => ?_)
  obtain ⟨h2, eh2⟩ : ∃ x : xb_H, x = xb_I h y1 23 y0 := ⟨_, rfl⟩
  rw [← eh2] at hR
  have hw := hw h2 eh2
  have hE : xb_ext h0 h2 := by rw [eh2]; exact hE
  exact xb_vret 0 0 hx hb hr hlocks (show k + 0 ≤ MC by omega) (show n + 0 ≤ MS by omega) hE hR hS (xb_d D_M_put 25 rfl) hw

set_option maxHeartbeats 4000000 in
set_option maxRecDepth 100000 in
theorem ok_M_put (l : Launch) (hfl : l.flags = pinnedFlags ++ [noTraceFlag]) (D : va_G) (A : Nat → Prop) (σ : Nat) (x0 : Nat) (x1 : Int32) (h : xb_H) (Qr : xb_H → Prop) (hw : w_M_put x0 x1 h Qr) : xb_Met l y_M_put [.code y_M_put b_M_put 2 none] (xb_rm 2 0 0) (xb_Pc D A σ h [.ref x0, .int x1]) (xb_Qc D A h 0 0 (fun v h _ _ => v = none ∧ Qr h) (fun _ _ _ _ => False)) A := by
  refine xb_ofAm (cc := b_M_put) (by decide) (Nat.le_of_ble_eq_true rfl) ?_
  unfold w_M_put at hw
  show xb_am l D A σ 2 0 0 h (fun v h _ _ => v = none ∧ Qr h) (fun _ _ _ _ => False) y_M_put.cls y_M_put.name b_M_put 2 ([] : List ExceptionTableEntry) none 0 [(0, .ref x0), (1, .int x1)] [] h 0 0
  obtain ⟨MC, hMC⟩ : ∃ x, x = 0 := ⟨_, rfl⟩
  obtain ⟨MS, hMS⟩ : ∃ x, x = 0 := ⟨_, rfl⟩
  rw [show xb_am l D A σ 2 0 0 = xb_am l D A σ 2 MC MS by rw [hMC, hMS]]
  obtain ⟨h0, hh0⟩ : ∃ x, x = h := ⟨_, rfl⟩
  rw [show xb_am l D A σ 2 MC MS h = xb_am l D A σ 2 MC MS h0 by rw [hh0]]
  intro p e s m args below meth c hC H locs ls k n hE hl hR hS hk hn
  obtain ⟨hx, hb, hown, hlocks, htab, hml, hr, hB, hA, hnm⟩ := id hC
  have hts := hB.1.1.at args
  refine lv_aload_n hx hb (xb_d D_M_put 0 rfl) rfl (lv_at hl 0 rfl) ?_
  obtain ⟨hk1, hw⟩ := hw
  refine xb_getP (C := R_M) (T := F_M) (N := 97) hx hb 8 21 hts fin_M hown hR hk1 (by decide) rfl (by decide) rfl (hts _ m_a8b072e8) (fun _ h9 => h9) (xb_d D_M_put 1 rfl) ?_
  obtain ⟨b2, eb2, hw⟩ := hw
  refine xb_some eb2 ?_
  refine lv_aload_n hx hb (xb_d D_M_put 2 rfl) rfl (lv_at hl 0 rfl) ?_
  refine xb_getI (C := R_M) (T := F_M) (N := 97) hx hb 8 22 hts fin_M hown hR hk1 (by decide) rfl (by decide) rfl (hts _ m_01d0a072) (fun _ h9 => h9) (xb_d D_M_put 3 rfl) ?_
  refine lv_iload_n hx hb (xb_d D_M_put 4 rfl) rfl (lv_at hl 1 rfl) ?_
  refine lv_i2b hx hb (xb_d D_M_put 5 rfl) rfl ?_
  obtain ⟨hk3, hw⟩ := hw
  obtain ⟨hi4, hw⟩ := hw
  refine xb_bast hx hb hR hS hk3 hi4 (xb_d D_M_put 6 rfl) (fun H locs hR hS => ?_)
  obtain ⟨h5, eh5⟩ : ∃ x : xb_H, x = xb_I h b2 (Int32.toNatClampNeg (xb_i h x0 22)) (vp_nar .byte ((Int32.toInt8 x1).toInt32)) := ⟨_, rfl⟩
  rw [← eh5] at hR
  have hw := hw h5 eh5
  have hE : xb_ext h0 h5 := by rw [eh5]; exact hE
  refine lv_aload_n hx hb (xb_d D_M_put 7 rfl) rfl (lv_at hl 0 rfl) ?_
  refine lv_dup hx hb (xb_d D_M_put 8 rfl) rfl ?_
  have hk1 : xb_k h5 x0 = 9 := by rw [eh5]; exact hk1
  refine xb_getI (C := R_M) (T := F_M) (N := 97) hx hb 8 22 hts fin_M hown hR hk1 (by decide) rfl (by decide) rfl (hts _ m_01d0a072) (fun _ h9 => h9) (xb_d D_M_put 9 rfl) ?_
  refine lv_iconst (v := 1) hx hb (xb_d D_M_put 10 rfl) (by decide) ?_
  refine lv_iadd hx hb (xb_d D_M_put 11 rfl) ?_
  refine xb_putI (C := R_M) (T := F_M) (N := 97) (ty := .int) (x := ((xb_i h5 x0 22) + 1)) hx hb 8 22 hts fin_M t_M t_M_ok n_M hown hR hS hk1 (by decide) rfl (by decide) rfl (hts _ m_01d0a072) (fun _ h9 => h9) rfl (by decide +kernel) rfl rfl (xb_d D_M_put 12 rfl) (fun H locs hR hS => ?_)
  obtain ⟨h6, eh6⟩ : ∃ x : xb_H, x = xb_I h5 x0 22 ((xb_i h5 x0 22) + 1) := ⟨_, rfl⟩
  rw [← eh6] at hR
  have hw := hw h6 eh6
  have hE : xb_ext h0 h6 := by rw [eh6]; exact hE
  refine lv_aload_n hx hb (xb_d D_M_put 13 rfl) rfl (lv_at hl 0 rfl) ?_
  refine lv_aload_n hx hb (xb_d D_M_put 14 rfl) rfl (lv_at hl 0 rfl) ?_
  have hk1 : xb_k h6 x0 = 9 := by rw [eh6]; exact hk1
  refine xb_getI (C := R_M) (T := F_M) (N := 97) hx hb 8 22 hts fin_M hown hR hk1 (by decide) rfl (by decide) rfl (hts _ m_01d0a072) (fun _ h9 => h9) (xb_d D_M_put 15 rfl) ?_
  refine lv_aload_n hx hb (xb_d D_M_put 16 rfl) rfl (lv_at hl 0 rfl) ?_
  refine xb_getI (C := R_M) (T := F_M) (N := 97) hx hb 8 23 hts fin_M hown hR hk1 (by decide) rfl (by decide) rfl (hts _ m_bee2a5e5) (fun _ h9 => h9) (xb_d D_M_put 17 rfl) ?_
  refine lv_icmp_le (tgt := 40) hx hb (xb_d D_M_put 18 rfl) rfl (fun hc7 => ?_) (fun hc7 => ?_)
  · have hw := hw.1 hc7
    refine lv_aload_n hx hb (xb_d D_M_put 22 rfl) rfl (lv_at hl 0 rfl) ?_
    refine xb_getI (C := R_M) (T := F_M) (N := 97) hx hb 8 23 hts fin_M hown hR hk1 (by decide) rfl (by decide) rfl (hts _ m_bee2a5e5) (fun _ h9 => h9) (xb_d D_M_put 23 rfl) ?_
    exact am_M_put_L44 l hfl D A σ MC MS h0 Qr (xb_i h6 x0 23) x0 h6 hw p e s m args below meth c hC H locs ls k n hE (lv_sub hl [] rfl) hR hS (by omega) (by omega)
  · have hw := hw.2 hc7
    refine lv_aload_n hx hb (xb_d D_M_put 19 rfl) rfl (lv_at hl 0 rfl) ?_
    refine xb_getI (C := R_M) (T := F_M) (N := 97) hx hb 8 22 hts fin_M hown hR hk1 (by decide) rfl (by decide) rfl (hts _ m_01d0a072) (fun _ h9 => h9) (xb_d D_M_put 20 rfl) ?_
    refine lv_goto (tgt := 44) hx hb (xb_d D_M_put 21 rfl) rfl ?_
    exact am_M_put_L44 l hfl D A σ MC MS h0 Qr (xb_i h6 x0 22) x0 h6 hw p e s m args below meth c hC H locs ls k n hE (lv_sub hl [] rfl) hR hS (by omega) (by omega)

set_option maxRecDepth 100000 in
def T_M_refuse : List (Nat × Instr × Nat) := [(0, .aload_n 0, 1), (1, .getfield 179, 3), (4, .iconst 0, 1), (5, .iload_n 1, 1), (6, .iastore, 1), (7, .aload_n 0, 1), (8, .getfield 179, 3), (11, .iconst 1, 1), (12, .iload_n 2, 1), (13, .iastore, 1), (14, .iconst (-1), 1), (15, .ireturn, 1)]
theorem D_M_refuse : ∀ q ∈ T_M_refuse, decode b_M_refuse q.1 = .ok (q.2.1, q.2.2) := by decide +kernel

set_option maxHeartbeats 4000000 in
set_option maxRecDepth 100000 in
theorem ok_M_refuse (l : Launch) (hfl : l.flags = pinnedFlags ++ [noTraceFlag]) (D : va_G) (A : Nat → Prop) (σ : Nat) (x0 : Nat) (x1 : Int32) (x2 : Int32) (h : xb_H) (Qr : Int32 → xb_H → Prop) (hw : w_M_refuse x0 x1 x2 h Qr) : xb_Met l y_M_refuse [.code y_M_refuse b_M_refuse 3 (some .int)] (xb_rm 2 0 0) (xb_Pc D A σ h [.ref x0, .int x1, .int x2]) (xb_Qc D A h 0 0 (fun v h _ _ => ∃ r, v = some (.int r) ∧ Qr r h) (fun _ _ _ _ => False)) A := by
  refine xb_ofAm (cc := b_M_refuse) (by decide) (Nat.le_of_ble_eq_true rfl) ?_
  unfold w_M_refuse at hw
  show xb_am l D A σ 2 0 0 h (fun v h _ _ => ∃ r, v = some (.int r) ∧ Qr r h) (fun _ _ _ _ => False) y_M_refuse.cls y_M_refuse.name b_M_refuse 3 ([] : List ExceptionTableEntry) (some .int) 0 [(0, .ref x0), (1, .int x1), (2, .int x2)] [] h 0 0
  obtain ⟨MC, hMC⟩ : ∃ x, x = 0 := ⟨_, rfl⟩
  obtain ⟨MS, hMS⟩ : ∃ x, x = 0 := ⟨_, rfl⟩
  rw [show xb_am l D A σ 2 0 0 = xb_am l D A σ 2 MC MS by rw [hMC, hMS]]
  obtain ⟨h0, hh0⟩ : ∃ x, x = h := ⟨_, rfl⟩
  rw [show xb_am l D A σ 2 MC MS h = xb_am l D A σ 2 MC MS h0 by rw [hh0]]
  intro p e s m args below meth c hC H locs ls k n hE hl hR hS hk hn
  obtain ⟨hx, hb, hown, hlocks, htab, hml, hr, hB, hA, hnm⟩ := id hC
  have hts := hB.1.1.at args
  refine lv_aload_n hx hb (xb_d D_M_refuse 0 rfl) rfl (lv_at hl 0 rfl) ?_
  obtain ⟨hk1, hw⟩ := hw
  refine xb_getP (C := R_M) (T := F_M) (N := 97) hx hb 8 89 hts fin_M hown hR hk1 (by decide) rfl (by decide) rfl (hts _ m_8367c681) (fun _ h9 => h9) (xb_d D_M_refuse 1 rfl) ?_
  obtain ⟨b2, eb2, hw⟩ := hw
  refine xb_some eb2 ?_
  refine lv_iconst (v := 0) hx hb (xb_d D_M_refuse 2 rfl) (by decide) ?_
  refine lv_iload_n hx hb (xb_d D_M_refuse 3 rfl) rfl (lv_at hl 1 rfl) ?_
  obtain ⟨hk3, hw⟩ := hw
  obtain ⟨hi4, hw⟩ := hw
  refine xb_iast hx hb hR hS hk3 hi4 (xb_d D_M_refuse 4 rfl) (fun H locs hR hS => ?_)
  obtain ⟨h5, eh5⟩ : ∃ x : xb_H, x = xb_I h b2 (Int32.toNatClampNeg 0) x1 := ⟨_, rfl⟩
  rw [← eh5] at hR
  have hw := hw h5 eh5
  have hE : xb_ext h0 h5 := by rw [eh5]; exact hE
  refine lv_aload_n hx hb (xb_d D_M_refuse 5 rfl) rfl (lv_at hl 0 rfl) ?_
  have hk1 : xb_k h5 x0 = 9 := by rw [eh5]; exact hk1
  refine xb_getP (C := R_M) (T := F_M) (N := 97) hx hb 8 89 hts fin_M hown hR hk1 (by decide) rfl (by decide) rfl (hts _ m_8367c681) (fun _ h9 => h9) (xb_d D_M_refuse 6 rfl) ?_
  obtain ⟨b6, eb6, hw⟩ := hw
  refine xb_some eb6 ?_
  refine lv_iconst (v := 1) hx hb (xb_d D_M_refuse 7 rfl) (by decide) ?_
  refine lv_iload_n hx hb (xb_d D_M_refuse 8 rfl) rfl (lv_at hl 2 rfl) ?_
  obtain ⟨hk7, hw⟩ := hw
  obtain ⟨hi8, hw⟩ := hw
  refine xb_iast hx hb hR hS hk7 hi8 (xb_d D_M_refuse 9 rfl) (fun H locs hR hS => ?_)
  obtain ⟨h9, eh9⟩ : ∃ x : xb_H, x = xb_I h5 b6 (Int32.toNatClampNeg 1) x2 := ⟨_, rfl⟩
  rw [← eh9] at hR
  have hw := hw h9 eh9
  have hE : xb_ext h0 h9 := by rw [eh9]; exact hE
  refine lv_iconst (v := (-1)) hx hb (xb_d D_M_refuse 10 rfl) (by decide) ?_
  exact xb_iret 0 0 hx hb hr hlocks (show k + 0 ≤ MC by omega) (show n + 0 ≤ MS by omega) hE hR hS (xb_d D_M_refuse 11 rfl) hw

theorem m_a4223f90 : (.fieldLink "StackHostModel" 262 "StackHostModel" "stored" "I" : Cond) ∈ xt_tbl := xt_in (xt_t9 (List.mem_of_getElem? (i := 143) (by decide +kernel))) (by decide +kernel)
set_option maxRecDepth 100000 in
def T_M_reserve : List (Nat × Instr × Nat) := [(0, .aload_n 0, 1), (1, .getfield 262, 3), (4, .iload_n 1, 1), (5, .iadd, 1), (6, .aload_n 0, 1), (7, .getfield 14, 3), (10, .arraylength, 1), (11, .if_icmp .le 44, 3), (14, .iconst 2, 1), (15, .aload_n 0, 1), (16, .getfield 262, 3), (19, .iload_n 1, 1), (20, .iadd, 1), (21, .imul, 1), (22, .newarray .byte, 2), (24, .astore_n 2, 1), (25, .iconst 0, 1), (26, .istore_n 3, 1), (27, .iload_n 3, 1), (28, .aload_n 0, 1), (29, .getfield 262, 3), (32, .if_icmp .ge 18, 3), (35, .aload_n 2, 1), (36, .iload_n 3, 1), (37, .aload_n 0, 1), (38, .getfield 14, 3), (41, .iload_n 3, 1), (42, .baload, 1), (43, .bastore, 1), (44, .iinc 3 1, 3), (47, .goto (-20), 3), (50, .aload_n 0, 1), (51, .aload_n 2, 1), (52, .putfield 14, 3), (55, .return_, 1)]
theorem D_M_reserve : ∀ q ∈ T_M_reserve, decode b_M_reserve q.1 = .ok (q.2.1, q.2.2) := by decide +kernel

set_option maxHeartbeats 4000000 in
set_option maxRecDepth 100000 in
theorem am_M_reserve_L55 (l : Launch) (hfl : l.flags = pinnedFlags ++ [noTraceFlag]) (D : va_G) (A : Nat → Prop) (σ MC MS : Nat) (h0 : xb_H) (Qr : xb_H → Nat → Nat → Prop) (h : xb_H) (bc : Nat) (bs : Nat) (hw : w_M_reserve_L55 Qr h bc bs) : xb_am l D A σ 2 MC MS h0 (fun v h bc bs => v = none ∧ Qr h bc bs) (fun _ _ _ _ => False) y_M_reserve.cls y_M_reserve.name b_M_reserve 4 ([] : List ExceptionTableEntry) none 55 [] [] h bc bs := by
  unfold w_M_reserve_L55 at hw
  intro p e s m args below meth c hC H locs ls k n hE hl hR hS hk hn
  obtain ⟨hx, hb, hown, hlocks, htab, hml, hr, hB, hA, hnm⟩ := id hC
  have hts := hB.1.1.at args
  exact xb_vret bc bs hx hb hr hlocks (show k + bc ≤ MC by omega) (show n + bs ≤ MS by omega) hE hR hS (xb_d D_M_reserve 34 rfl) hw

set_option maxHeartbeats 4000000 in
set_option maxRecDepth 100000 in
theorem am_M_reserve_L27 (l : Launch) (hfl : l.flags = pinnedFlags ++ [noTraceFlag]) (D : va_G) (A : Nat → Prop) (σ MC MS : Nat) (h0 : xb_H) (Qr : xb_H → Nat → Nat → Prop) (n9 : Nat) : ∀ (x0 : Nat) (x2 : Nat) (x3 : Int32) (h : xb_H) (bc : Nat) (bs : Nat), w_M_reserve_L27 Qr n9 x0 x2 x3 h bc bs → xb_am l D A σ 2 MC MS h0 (fun v h bc bs => v = none ∧ Qr h bc bs) (fun _ _ _ _ => False) y_M_reserve.cls y_M_reserve.name b_M_reserve 4 ([] : List ExceptionTableEntry) none 27 [(0, .ref x0), (2, .ref x2), (3, .int x3)] [] h bc bs := by
  induction n9 with
  | zero => intro x0 x2 x3 h bc bs hw; exact False.elim hw
  | succ n9 ih =>
    intro x0 x2 x3 h bc bs hw
    unfold w_M_reserve_L27 at hw
    intro p e s m args below meth c hC H locs ls k n hE hl hR hS hk hn
    obtain ⟨hx, hb, hown, hlocks, htab, hml, hr, hB, hA, hnm⟩ := id hC
    have hts := hB.1.1.at args
    refine lv_iload_n hx hb (xb_d D_M_reserve 18 rfl) rfl (lv_at hl 2 rfl) ?_
    refine lv_aload_n hx hb (xb_d D_M_reserve 19 rfl) rfl (lv_at hl 0 rfl) ?_
    obtain ⟨hk1, hw⟩ := hw
    refine xb_getI (C := R_M) (T := F_M) (N := 97) hx hb 8 4 hts fin_M hown hR hk1 (by decide) rfl (by decide) rfl (hts _ m_a4223f90) (fun _ h9 => h9) (xb_d D_M_reserve 20 rfl) ?_
    refine lv_icmp_ge (tgt := 50) hx hb (xb_d D_M_reserve 21 rfl) rfl (fun hc2 => ?_) (fun hc2 => ?_)
    · have hw := hw.1 hc2
      refine lv_aload_n hx hb (xb_d D_M_reserve 31 rfl) rfl (lv_at hl 0 rfl) ?_
      refine lv_aload_n hx hb (xb_d D_M_reserve 32 rfl) rfl (lv_at hl 1 rfl) ?_
      refine xb_putP (C := R_M) (T := F_M) (N := 97) (ty := .array .byte) (x := (some x2)) hx hb 8 3 hts fin_M t_M t_M_ok n_M hown hR hS hk1 (by decide) rfl (by decide) rfl (hts _ m_4f0568af) (fun _ h9 => h9) rfl (by decide +kernel) (xb_pnA _ _).1 (xb_pnA _ _).2 (xb_d D_M_reserve 33 rfl) (fun H locs hR hS => ?_)
      obtain ⟨h3, eh3⟩ : ∃ x : xb_H, x = xb_P h x0 3 (some x2) := ⟨_, rfl⟩
      rw [← eh3] at hR
      have hw := hw h3 eh3
      have hE : xb_ext h0 h3 := by rw [eh3]; exact hE
      exact am_M_reserve_L55 l hfl D A σ MC MS h0 Qr h3 bc bs hw p e s m args below meth c hC H locs ls k n hE (lv_sub hl [] rfl) hR hS (by omega) (by omega)
    · have hw := hw.2 hc2
      refine lv_aload_n hx hb (xb_d D_M_reserve 22 rfl) rfl (lv_at hl 1 rfl) ?_
      refine lv_iload_n hx hb (xb_d D_M_reserve 23 rfl) rfl (lv_at hl 2 rfl) ?_
      refine lv_aload_n hx hb (xb_d D_M_reserve 24 rfl) rfl (lv_at hl 0 rfl) ?_
      refine xb_getP (C := R_M) (T := F_M) (N := 97) hx hb 8 3 hts fin_M hown hR hk1 (by decide) rfl (by decide) rfl (hts _ m_4f0568af) (fun _ h9 => h9) (xb_d D_M_reserve 25 rfl) ?_
      obtain ⟨b4, eb4, hw⟩ := hw
      refine xb_some eb4 ?_
      refine lv_iload_n hx hb (xb_d D_M_reserve 26 rfl) rfl (lv_at hl 2 rfl) ?_
      obtain ⟨hk6, hw⟩ := hw
      obtain ⟨hi5, hw⟩ := hw
      refine xb_bald hx hb hR hk6 hi5 (xb_d D_M_reserve 27 rfl) ?_
      obtain ⟨hk7, hw⟩ := hw
      obtain ⟨hi8, hw⟩ := hw
      refine xb_bast hx hb hR hS hk7 hi8 (xb_d D_M_reserve 28 rfl) (fun H locs hR hS => ?_)
      obtain ⟨h9, eh9⟩ : ∃ x : xb_H, x = xb_I h x2 (Int32.toNatClampNeg x3) (vp_nar .byte (xb_i h b4 (Int32.toNatClampNeg x3))) := ⟨_, rfl⟩
      rw [← eh9] at hR
      have hw := hw h9 eh9
      have hE : xb_ext h0 h9 := by rw [eh9]; exact hE
      refine lv_iinc (v := (x3 + 1)) (k := 2) hx hb (xb_d D_M_reserve 29 rfl) hl rfl (by first | rfl | decide) (by decide) rfl (fun ls hl => ?_)
      have hl : lv_has ls 4 [(3, .int (x3 + 1)), (0, .ref x0), (2, .ref x2)] := hl
      refine lv_goto (tgt := 27) hx hb (xb_d D_M_reserve 30 rfl) rfl ?_
      exact ih x0 x2 (x3 + 1) h9 bc bs hw p e s m args below meth c hC H locs ls k n hE (lv_sub hl [1, 2, 0] rfl) hR hS (by omega) (by omega)

set_option maxHeartbeats 4000000 in
set_option maxRecDepth 100000 in
theorem ok_M_reserve (l : Launch) (hfl : l.flags = pinnedFlags ++ [noTraceFlag]) (D : va_G) (A : Nat → Prop) (σ : Nat) (x0 : Nat) (x1 : Int32) (h : xb_H) (bc : Nat) (bs : Nat) (Qr : xb_H → Nat → Nat → Prop) (hw : w_M_reserve x0 x1 h bc bs Qr) : xb_Met l y_M_reserve [.code y_M_reserve b_M_reserve 4 none] (xb_rm 2 bc bs) (xb_Pc D A σ h [.ref x0, .int x1]) (xb_Qc D A h bc bs (fun v h bc bs => v = none ∧ Qr h bc bs) (fun _ _ _ _ => False)) A := by
  refine xb_ofAm (cc := b_M_reserve) (by decide) (Nat.le_of_ble_eq_true rfl) ?_
  unfold w_M_reserve at hw
  show xb_am l D A σ 2 bc bs h (fun v h bc bs => v = none ∧ Qr h bc bs) (fun _ _ _ _ => False) y_M_reserve.cls y_M_reserve.name b_M_reserve 4 ([] : List ExceptionTableEntry) none 0 [(0, .ref x0), (1, .int x1)] [] h bc bs
  obtain ⟨MC, hMC⟩ : ∃ x, x = bc := ⟨_, rfl⟩
  obtain ⟨MS, hMS⟩ : ∃ x, x = bs := ⟨_, rfl⟩
  rw [show xb_am l D A σ 2 bc bs = xb_am l D A σ 2 MC MS by rw [hMC, hMS]]
  obtain ⟨h0, hh0⟩ : ∃ x, x = h := ⟨_, rfl⟩
  rw [show xb_am l D A σ 2 MC MS h = xb_am l D A σ 2 MC MS h0 by rw [hh0]]
  intro p e s m args below meth c hC H locs ls k n hE hl hR hS hk hn
  obtain ⟨hx, hb, hown, hlocks, htab, hml, hr, hB, hA, hnm⟩ := id hC
  have hts := hB.1.1.at args
  refine lv_aload_n hx hb (xb_d D_M_reserve 0 rfl) rfl (lv_at hl 0 rfl) ?_
  obtain ⟨hk1, hw⟩ := hw
  refine xb_getI (C := R_M) (T := F_M) (N := 97) hx hb 8 4 hts fin_M hown hR hk1 (by decide) rfl (by decide) rfl (hts _ m_a4223f90) (fun _ h9 => h9) (xb_d D_M_reserve 1 rfl) ?_
  refine lv_iload_n hx hb (xb_d D_M_reserve 2 rfl) rfl (lv_at hl 1 rfl) ?_
  refine lv_iadd hx hb (xb_d D_M_reserve 3 rfl) ?_
  refine lv_aload_n hx hb (xb_d D_M_reserve 4 rfl) rfl (lv_at hl 0 rfl) ?_
  refine xb_getP (C := R_M) (T := F_M) (N := 97) hx hb 8 3 hts fin_M hown hR hk1 (by decide) rfl (by decide) rfl (hts _ m_4f0568af) (fun _ h9 => h9) (xb_d D_M_reserve 5 rfl) ?_
  obtain ⟨b2, eb2, hw⟩ := hw
  refine xb_some eb2 ?_
  obtain ⟨hk3, hw⟩ := hw
  refine xb_alen hx hb hR hk3 (by decide) (xb_d D_M_reserve 6 rfl) ?_
  refine lv_icmp_le (tgt := 55) hx hb (xb_d D_M_reserve 7 rfl) rfl (fun hc4 => ?_) (fun hc4 => ?_)
  · have hw := hw.1 hc4
    exact am_M_reserve_L55 l hfl D A σ MC MS h0 Qr h bc bs hw p e s m args below meth c hC H locs ls k n hE (lv_sub hl [] rfl) hR hS (by omega) (by omega)
  · have hw := hw.2 hc4
    refine lv_iconst (v := 2) hx hb (xb_d D_M_reserve 8 rfl) (by decide) ?_
    refine lv_aload_n hx hb (xb_d D_M_reserve 9 rfl) rfl (lv_at hl 0 rfl) ?_
    refine xb_getI (C := R_M) (T := F_M) (N := 97) hx hb 8 4 hts fin_M hown hR hk1 (by decide) rfl (by decide) rfl (hts _ m_a4223f90) (fun _ h9 => h9) (xb_d D_M_reserve 10 rfl) ?_
    refine lv_iload_n hx hb (xb_d D_M_reserve 11 rfl) rfl (lv_at hl 1 rfl) ?_
    refine lv_iadd hx hb (xb_d D_M_reserve 12 rfl) ?_
    refine lv_imul hx hb (xb_d D_M_reserve 13 rfl) ?_
    obtain ⟨hnq5, hbq5, hcq5, hsq5, hw⟩ := hw
    have enq5 : (Int32.toNatClampNeg (2 * ((xb_i h x0 4) + x1))) = (Int32.toNatClampNeg (2 * ((xb_i h x0 4) + x1))) := rfl
    refine xb_newa_b hx hb (hts _ m_2503b19f) hR hS hA hnq5 hbq5 (show k + 1 ≤ MC by omega) (show n + _ ≤ MS by rw [enq5]; omega) (xb_d D_M_reserve 14 rfl) (fun q5 H hqq5 hR hS => ?_)
    rw [enq5] at hR ⊢
    have hw := hw q5 hqq5
    obtain ⟨h6, eh6⟩ : ∃ x : xb_H, x = xb_new h q5 100 (Int32.toNatClampNeg (2 * ((xb_i h x0 4) + x1))) := ⟨_, rfl⟩
    rw [← eh6] at hR
    have hw := hw h6 eh6
    have hE : xb_ext h0 h6 := by rw [eh6]; exact hE.new _ _ hqq5
    have hk7 : xb_k h6 q5 = 100 := by rw [eh6]; exact xb_new_k _ _ _ _
    refine lv_astore_n hx hb (xb_d D_M_reserve 15 rfl) rfl hl (by decide) rfl (fun ls hl => ?_)
    have hl : lv_has ls 4 [(2, .ref q5), (0, .ref x0), (1, .int x1)] := hl
    refine lv_iconst (v := 0) hx hb (xb_d D_M_reserve 16 rfl) (by decide) ?_
    refine lv_istore_n hx hb (xb_d D_M_reserve 17 rfl) rfl hl (by decide) rfl (fun ls hl => ?_)
    have hl : lv_has ls 4 [(3, .int 0), (2, .ref q5), (0, .ref x0), (1, .int x1)] := hl
    obtain ⟨n8, hw⟩ := hw
    exact am_M_reserve_L27 l hfl D A σ MC MS h0 Qr n8 x0 q5 0 h6 (bc - 1) (bs - (Int32.toNatClampNeg (2 * ((xb_i h x0 4) + x1)))) hw p e s m args below meth c hC H locs ls (k + 1) (n + (Int32.toNatClampNeg (2 * ((xb_i h x0 4) + x1)))) hE (lv_sub hl [2, 1, 0] rfl) hR hS (by omega) (by omega)

theorem m_82d2871e : (.fieldLink "StackHostModel" 519 "StackHostModel" "resolvedCount" "I" : Cond) ∈ xt_tbl := xt_in (xt_t9 (List.mem_of_getElem? (i := 173) (by decide +kernel))) (by decide +kernel)
theorem m_e6997b7a : (.fieldLink "StackHostModel" 68 "StackHostModel" "resolved" "[I" : Cond) ∈ xt_tbl := xt_in (xt_t9 (List.mem_of_getElem? (i := 172) (by decide +kernel))) (by decide +kernel)
set_option maxRecDepth 100000 in
def T_M_reserveImports : List (Nat × Instr × Nat) := [(0, .aload_n 0, 1), (1, .getfield 519, 3), (4, .iload_n 1, 1), (5, .iadd, 1), (6, .aload_n 0, 1), (7, .getfield 68, 3), (10, .arraylength, 1), (11, .if_icmp .le 44, 3), (14, .iconst 2, 1), (15, .aload_n 0, 1), (16, .getfield 519, 3), (19, .iload_n 1, 1), (20, .iadd, 1), (21, .imul, 1), (22, .newarray .int, 2), (24, .astore_n 2, 1), (25, .iconst 0, 1), (26, .istore_n 3, 1), (27, .iload_n 3, 1), (28, .aload_n 0, 1), (29, .getfield 519, 3), (32, .if_icmp .ge 18, 3), (35, .aload_n 2, 1), (36, .iload_n 3, 1), (37, .aload_n 0, 1), (38, .getfield 68, 3), (41, .iload_n 3, 1), (42, .iaload, 1), (43, .iastore, 1), (44, .iinc 3 1, 3), (47, .goto (-20), 3), (50, .aload_n 0, 1), (51, .aload_n 2, 1), (52, .putfield 68, 3), (55, .return_, 1)]
theorem D_M_reserveImports : ∀ q ∈ T_M_reserveImports, decode b_M_reserveImports q.1 = .ok (q.2.1, q.2.2) := by decide +kernel

set_option maxHeartbeats 4000000 in
set_option maxRecDepth 100000 in
theorem am_M_reserveImports_L55 (l : Launch) (hfl : l.flags = pinnedFlags ++ [noTraceFlag]) (D : va_G) (A : Nat → Prop) (σ MC MS : Nat) (h0 : xb_H) (Qr : xb_H → Nat → Nat → Prop) (h : xb_H) (bc : Nat) (bs : Nat) (hw : w_M_reserveImports_L55 Qr h bc bs) : xb_am l D A σ 2 MC MS h0 (fun v h bc bs => v = none ∧ Qr h bc bs) (fun _ _ _ _ => False) y_M_reserveImports.cls y_M_reserveImports.name b_M_reserveImports 4 ([] : List ExceptionTableEntry) none 55 [] [] h bc bs := by
  unfold w_M_reserveImports_L55 at hw
  intro p e s m args below meth c hC H locs ls k n hE hl hR hS hk hn
  obtain ⟨hx, hb, hown, hlocks, htab, hml, hr, hB, hA, hnm⟩ := id hC
  have hts := hB.1.1.at args
  exact xb_vret bc bs hx hb hr hlocks (show k + bc ≤ MC by omega) (show n + bs ≤ MS by omega) hE hR hS (xb_d D_M_reserveImports 34 rfl) hw

set_option maxHeartbeats 4000000 in
set_option maxRecDepth 100000 in
theorem am_M_reserveImports_L27 (l : Launch) (hfl : l.flags = pinnedFlags ++ [noTraceFlag]) (D : va_G) (A : Nat → Prop) (σ MC MS : Nat) (h0 : xb_H) (Qr : xb_H → Nat → Nat → Prop) (n9 : Nat) : ∀ (x0 : Nat) (x2 : Nat) (x3 : Int32) (h : xb_H) (bc : Nat) (bs : Nat), w_M_reserveImports_L27 Qr n9 x0 x2 x3 h bc bs → xb_am l D A σ 2 MC MS h0 (fun v h bc bs => v = none ∧ Qr h bc bs) (fun _ _ _ _ => False) y_M_reserveImports.cls y_M_reserveImports.name b_M_reserveImports 4 ([] : List ExceptionTableEntry) none 27 [(0, .ref x0), (2, .ref x2), (3, .int x3)] [] h bc bs := by
  induction n9 with
  | zero => intro x0 x2 x3 h bc bs hw; exact False.elim hw
  | succ n9 ih =>
    intro x0 x2 x3 h bc bs hw
    unfold w_M_reserveImports_L27 at hw
    intro p e s m args below meth c hC H locs ls k n hE hl hR hS hk hn
    obtain ⟨hx, hb, hown, hlocks, htab, hml, hr, hB, hA, hnm⟩ := id hC
    have hts := hB.1.1.at args
    refine lv_iload_n hx hb (xb_d D_M_reserveImports 18 rfl) rfl (lv_at hl 2 rfl) ?_
    refine lv_aload_n hx hb (xb_d D_M_reserveImports 19 rfl) rfl (lv_at hl 0 rfl) ?_
    obtain ⟨hk1, hw⟩ := hw
    refine xb_getI (C := R_M) (T := F_M) (N := 97) hx hb 8 34 hts fin_M hown hR hk1 (by decide) rfl (by decide) rfl (hts _ m_82d2871e) (fun _ h9 => h9) (xb_d D_M_reserveImports 20 rfl) ?_
    refine lv_icmp_ge (tgt := 50) hx hb (xb_d D_M_reserveImports 21 rfl) rfl (fun hc2 => ?_) (fun hc2 => ?_)
    · have hw := hw.1 hc2
      refine lv_aload_n hx hb (xb_d D_M_reserveImports 31 rfl) rfl (lv_at hl 0 rfl) ?_
      refine lv_aload_n hx hb (xb_d D_M_reserveImports 32 rfl) rfl (lv_at hl 1 rfl) ?_
      refine xb_putP (C := R_M) (T := F_M) (N := 97) (ty := .array .int) (x := (some x2)) hx hb 8 33 hts fin_M t_M t_M_ok n_M hown hR hS hk1 (by decide) rfl (by decide) rfl (hts _ m_e6997b7a) (fun _ h9 => h9) rfl (by decide +kernel) (xb_pnA _ _).1 (xb_pnA _ _).2 (xb_d D_M_reserveImports 33 rfl) (fun H locs hR hS => ?_)
      obtain ⟨h3, eh3⟩ : ∃ x : xb_H, x = xb_P h x0 33 (some x2) := ⟨_, rfl⟩
      rw [← eh3] at hR
      have hw := hw h3 eh3
      have hE : xb_ext h0 h3 := by rw [eh3]; exact hE
      exact am_M_reserveImports_L55 l hfl D A σ MC MS h0 Qr h3 bc bs hw p e s m args below meth c hC H locs ls k n hE (lv_sub hl [] rfl) hR hS (by omega) (by omega)
    · have hw := hw.2 hc2
      refine lv_aload_n hx hb (xb_d D_M_reserveImports 22 rfl) rfl (lv_at hl 1 rfl) ?_
      refine lv_iload_n hx hb (xb_d D_M_reserveImports 23 rfl) rfl (lv_at hl 2 rfl) ?_
      refine lv_aload_n hx hb (xb_d D_M_reserveImports 24 rfl) rfl (lv_at hl 0 rfl) ?_
      refine xb_getP (C := R_M) (T := F_M) (N := 97) hx hb 8 33 hts fin_M hown hR hk1 (by decide) rfl (by decide) rfl (hts _ m_e6997b7a) (fun _ h9 => h9) (xb_d D_M_reserveImports 25 rfl) ?_
      obtain ⟨b4, eb4, hw⟩ := hw
      refine xb_some eb4 ?_
      refine lv_iload_n hx hb (xb_d D_M_reserveImports 26 rfl) rfl (lv_at hl 2 rfl) ?_
      obtain ⟨hk6, hw⟩ := hw
      obtain ⟨hi5, hw⟩ := hw
      refine xb_iald hx hb hR hk6 hi5 (xb_d D_M_reserveImports 27 rfl) ?_
      obtain ⟨hk7, hw⟩ := hw
      obtain ⟨hi8, hw⟩ := hw
      refine xb_iast hx hb hR hS hk7 hi8 (xb_d D_M_reserveImports 28 rfl) (fun H locs hR hS => ?_)
      obtain ⟨h9, eh9⟩ : ∃ x : xb_H, x = xb_I h x2 (Int32.toNatClampNeg x3) (xb_i h b4 (Int32.toNatClampNeg x3)) := ⟨_, rfl⟩
      rw [← eh9] at hR
      have hw := hw h9 eh9
      have hE : xb_ext h0 h9 := by rw [eh9]; exact hE
      refine lv_iinc (v := (x3 + 1)) (k := 2) hx hb (xb_d D_M_reserveImports 29 rfl) hl rfl (by first | rfl | decide) (by decide) rfl (fun ls hl => ?_)
      have hl : lv_has ls 4 [(3, .int (x3 + 1)), (0, .ref x0), (2, .ref x2)] := hl
      refine lv_goto (tgt := 27) hx hb (xb_d D_M_reserveImports 30 rfl) rfl ?_
      exact ih x0 x2 (x3 + 1) h9 bc bs hw p e s m args below meth c hC H locs ls k n hE (lv_sub hl [1, 2, 0] rfl) hR hS (by omega) (by omega)

set_option maxHeartbeats 4000000 in
set_option maxRecDepth 100000 in
theorem ok_M_reserveImports (l : Launch) (hfl : l.flags = pinnedFlags ++ [noTraceFlag]) (D : va_G) (A : Nat → Prop) (σ : Nat) (x0 : Nat) (x1 : Int32) (h : xb_H) (bc : Nat) (bs : Nat) (Qr : xb_H → Nat → Nat → Prop) (hw : w_M_reserveImports x0 x1 h bc bs Qr) : xb_Met l y_M_reserveImports [.code y_M_reserveImports b_M_reserveImports 4 none] (xb_rm 2 bc bs) (xb_Pc D A σ h [.ref x0, .int x1]) (xb_Qc D A h bc bs (fun v h bc bs => v = none ∧ Qr h bc bs) (fun _ _ _ _ => False)) A := by
  refine xb_ofAm (cc := b_M_reserveImports) (by decide) (Nat.le_of_ble_eq_true rfl) ?_
  unfold w_M_reserveImports at hw
  show xb_am l D A σ 2 bc bs h (fun v h bc bs => v = none ∧ Qr h bc bs) (fun _ _ _ _ => False) y_M_reserveImports.cls y_M_reserveImports.name b_M_reserveImports 4 ([] : List ExceptionTableEntry) none 0 [(0, .ref x0), (1, .int x1)] [] h bc bs
  obtain ⟨MC, hMC⟩ : ∃ x, x = bc := ⟨_, rfl⟩
  obtain ⟨MS, hMS⟩ : ∃ x, x = bs := ⟨_, rfl⟩
  rw [show xb_am l D A σ 2 bc bs = xb_am l D A σ 2 MC MS by rw [hMC, hMS]]
  obtain ⟨h0, hh0⟩ : ∃ x, x = h := ⟨_, rfl⟩
  rw [show xb_am l D A σ 2 MC MS h = xb_am l D A σ 2 MC MS h0 by rw [hh0]]
  intro p e s m args below meth c hC H locs ls k n hE hl hR hS hk hn
  obtain ⟨hx, hb, hown, hlocks, htab, hml, hr, hB, hA, hnm⟩ := id hC
  have hts := hB.1.1.at args
  refine lv_aload_n hx hb (xb_d D_M_reserveImports 0 rfl) rfl (lv_at hl 0 rfl) ?_
  obtain ⟨hk1, hw⟩ := hw
  refine xb_getI (C := R_M) (T := F_M) (N := 97) hx hb 8 34 hts fin_M hown hR hk1 (by decide) rfl (by decide) rfl (hts _ m_82d2871e) (fun _ h9 => h9) (xb_d D_M_reserveImports 1 rfl) ?_
  refine lv_iload_n hx hb (xb_d D_M_reserveImports 2 rfl) rfl (lv_at hl 1 rfl) ?_
  refine lv_iadd hx hb (xb_d D_M_reserveImports 3 rfl) ?_
  refine lv_aload_n hx hb (xb_d D_M_reserveImports 4 rfl) rfl (lv_at hl 0 rfl) ?_
  refine xb_getP (C := R_M) (T := F_M) (N := 97) hx hb 8 33 hts fin_M hown hR hk1 (by decide) rfl (by decide) rfl (hts _ m_e6997b7a) (fun _ h9 => h9) (xb_d D_M_reserveImports 5 rfl) ?_
  obtain ⟨b2, eb2, hw⟩ := hw
  refine xb_some eb2 ?_
  obtain ⟨hk3, hw⟩ := hw
  refine xb_alen hx hb hR hk3 (by decide) (xb_d D_M_reserveImports 6 rfl) ?_
  refine lv_icmp_le (tgt := 55) hx hb (xb_d D_M_reserveImports 7 rfl) rfl (fun hc4 => ?_) (fun hc4 => ?_)
  · have hw := hw.1 hc4
    exact am_M_reserveImports_L55 l hfl D A σ MC MS h0 Qr h bc bs hw p e s m args below meth c hC H locs ls k n hE (lv_sub hl [] rfl) hR hS (by omega) (by omega)
  · have hw := hw.2 hc4
    refine lv_iconst (v := 2) hx hb (xb_d D_M_reserveImports 8 rfl) (by decide) ?_
    refine lv_aload_n hx hb (xb_d D_M_reserveImports 9 rfl) rfl (lv_at hl 0 rfl) ?_
    refine xb_getI (C := R_M) (T := F_M) (N := 97) hx hb 8 34 hts fin_M hown hR hk1 (by decide) rfl (by decide) rfl (hts _ m_82d2871e) (fun _ h9 => h9) (xb_d D_M_reserveImports 10 rfl) ?_
    refine lv_iload_n hx hb (xb_d D_M_reserveImports 11 rfl) rfl (lv_at hl 1 rfl) ?_
    refine lv_iadd hx hb (xb_d D_M_reserveImports 12 rfl) ?_
    refine lv_imul hx hb (xb_d D_M_reserveImports 13 rfl) ?_
    obtain ⟨hnq5, hbq5, hcq5, hsq5, hw⟩ := hw
    have enq5 : (Int32.toNatClampNeg (2 * ((xb_i h x0 34) + x1))) = (Int32.toNatClampNeg (2 * ((xb_i h x0 34) + x1))) := rfl
    refine xb_newa_i hx hb (hts _ m_d160d5ac) hR hS hA hnq5 hbq5 (show k + 1 ≤ MC by omega) (show n + _ ≤ MS by rw [enq5]; omega) (xb_d D_M_reserveImports 14 rfl) (fun q5 H hqq5 hR hS => ?_)
    rw [enq5] at hR ⊢
    have hw := hw q5 hqq5
    obtain ⟨h6, eh6⟩ : ∃ x : xb_H, x = xb_new h q5 102 (Int32.toNatClampNeg (2 * ((xb_i h x0 34) + x1))) := ⟨_, rfl⟩
    rw [← eh6] at hR
    have hw := hw h6 eh6
    have hE : xb_ext h0 h6 := by rw [eh6]; exact hE.new _ _ hqq5
    have hk7 : xb_k h6 q5 = 102 := by rw [eh6]; exact xb_new_k _ _ _ _
    refine lv_astore_n hx hb (xb_d D_M_reserveImports 15 rfl) rfl hl (by decide) rfl (fun ls hl => ?_)
    have hl : lv_has ls 4 [(2, .ref q5), (0, .ref x0), (1, .int x1)] := hl
    refine lv_iconst (v := 0) hx hb (xb_d D_M_reserveImports 16 rfl) (by decide) ?_
    refine lv_istore_n hx hb (xb_d D_M_reserveImports 17 rfl) rfl hl (by decide) rfl (fun ls hl => ?_)
    have hl : lv_has ls 4 [(3, .int 0), (2, .ref q5), (0, .ref x0), (1, .int x1)] := hl
    obtain ⟨n8, hw⟩ := hw
    exact am_M_reserveImports_L27 l hfl D A σ MC MS h0 Qr n8 x0 q5 0 h6 (bc - 1) (bs - (Int32.toNatClampNeg (2 * ((xb_i h x0 34) + x1)))) hw p e s m args below meth c hC H locs ls (k + 1) (n + (Int32.toNatClampNeg (2 * ((xb_i h x0 34) + x1)))) hE (lv_sub hl [2, 1, 0] rfl) hR hS (by omega) (by omega)

theorem m_4386cc76 : (.fieldLink "StackHostModel" 666 "StackHostModel" "result" "J" : Cond) ∈ xt_tbl := xt_in (xt_t9 (List.mem_of_getElem? (i := 223) (by decide +kernel))) (by decide +kernel)
set_option maxRecDepth 100000 in
def T_M_result : List (Nat × Instr × Nat) := [(0, .aload_n 0, 1), (1, .iconst 0, 1), (2, .putfield 189, 3), (5, .aload_n 0, 1), (6, .getfield 666, 3), (9, .lreturn, 1)]
theorem D_M_result : ∀ q ∈ T_M_result, decode b_M_result q.1 = .ok (q.2.1, q.2.2) := by decide +kernel

set_option maxHeartbeats 4000000 in
set_option maxRecDepth 100000 in
theorem ok_M_result (l : Launch) (hfl : l.flags = pinnedFlags ++ [noTraceFlag]) (D : va_G) (A : Nat → Prop) (σ : Nat) (x0 : Nat) (h : xb_H) (Qr : Int64 → xb_H → Prop) (hw : w_M_result x0 h Qr) : xb_Met l y_M_result [.code y_M_result b_M_result 1 (some .long)] (xb_rm 2 0 0) (xb_Pc D A σ h [.ref x0]) (xb_Qc D A h 0 0 (fun v h _ _ => ∃ r, v = some (.long r) ∧ Qr r h) (fun _ _ _ _ => False)) A := by
  refine xb_ofAm (cc := b_M_result) (by decide) (Nat.le_of_ble_eq_true rfl) ?_
  unfold w_M_result at hw
  show xb_am l D A σ 2 0 0 h (fun v h _ _ => ∃ r, v = some (.long r) ∧ Qr r h) (fun _ _ _ _ => False) y_M_result.cls y_M_result.name b_M_result 1 ([] : List ExceptionTableEntry) (some .long) 0 [(0, .ref x0)] [] h 0 0
  obtain ⟨MC, hMC⟩ : ∃ x, x = 0 := ⟨_, rfl⟩
  obtain ⟨MS, hMS⟩ : ∃ x, x = 0 := ⟨_, rfl⟩
  rw [show xb_am l D A σ 2 0 0 = xb_am l D A σ 2 MC MS by rw [hMC, hMS]]
  obtain ⟨h0, hh0⟩ : ∃ x, x = h := ⟨_, rfl⟩
  rw [show xb_am l D A σ 2 MC MS h = xb_am l D A σ 2 MC MS h0 by rw [hh0]]
  intro p e s m args below meth c hC H locs ls k n hE hl hR hS hk hn
  obtain ⟨hx, hb, hown, hlocks, htab, hml, hr, hB, hA, hnm⟩ := id hC
  have hts := hB.1.1.at args
  refine lv_aload_n hx hb (xb_d D_M_result 0 rfl) rfl (lv_at hl 0 rfl) ?_
  refine lv_iconst (v := 0) hx hb (xb_d D_M_result 1 rfl) (by decide) ?_
  obtain ⟨hk1, hw⟩ := hw
  refine xb_putI (C := R_M) (T := F_M) (N := 97) (ty := .int) (x := 0) hx hb 8 0 hts fin_M t_M t_M_ok n_M hown hR hS hk1 (by decide) rfl (by decide) rfl (hts _ m_afabd6a0) (fun _ h9 => h9) rfl (by decide +kernel) rfl rfl (xb_d D_M_result 2 rfl) (fun H locs hR hS => ?_)
  obtain ⟨h2, eh2⟩ : ∃ x : xb_H, x = xb_I h x0 0 0 := ⟨_, rfl⟩
  rw [← eh2] at hR
  have hw := hw h2 eh2
  have hE : xb_ext h0 h2 := by rw [eh2]; exact hE
  refine lv_aload_n hx hb (xb_d D_M_result 3 rfl) rfl (lv_at hl 0 rfl) ?_
  have hk1 : xb_k h2 x0 = 9 := by rw [eh2]; exact hk1
  refine xb_getL (C := R_M) (T := F_M) (N := 97) hx hb 8 85 hts fin_M hown hR hk1 (by decide) rfl (by decide) rfl (hts _ m_4386cc76) (fun _ h9 => h9) (xb_d D_M_result 4 rfl) ?_
  exact xb_lret 0 0 hx hb hr hlocks (show k + 0 ≤ MC by omega) (show n + 0 ≤ MS by omega) hE hR hS (xb_d D_M_result 5 rfl) hw

set_option maxRecDepth 100000 in
def T_M_stop : List (Nat × Instr × Nat) := [(0, .aload_n 0, 1), (1, .iconst 0, 1), (2, .putfield 189, 3), (5, .aload_n 0, 1), (6, .getfield 539, 3), (9, .ifCond .eq 10, 3), (12, .aload_n 0, 1), (13, .getfield 616, 3), (16, .goto 4, 3), (19, .iconst 0, 1), (20, .istore_n 1, 1), (21, .aload_n 0, 1), (22, .iconst 0, 1), (23, .putfield 539, 3), (26, .aload_n 0, 1), (27, .iconst 0, 1), (28, .putfield 616, 3), (31, .iload_n 1, 1), (32, .ireturn, 1)]
theorem D_M_stop : ∀ q ∈ T_M_stop, decode b_M_stop q.1 = .ok (q.2.1, q.2.2) := by decide +kernel

set_option maxHeartbeats 4000000 in
set_option maxRecDepth 100000 in
theorem am_M_stop_L20 (l : Launch) (hfl : l.flags = pinnedFlags ++ [noTraceFlag]) (D : va_G) (A : Nat → Prop) (σ MC MS : Nat) (h0 : xb_H) (Qr : Int32 → xb_H → Prop) (x0 : Nat) (y0 : Int32) (h : xb_H) (hw : w_M_stop_L20 Qr x0 y0 h) : xb_am l D A σ 2 MC MS h0 (fun v h _ _ => ∃ r, v = some (.int r) ∧ Qr r h) (fun _ _ _ _ => False) y_M_stop.cls y_M_stop.name b_M_stop 2 ([] : List ExceptionTableEntry) (some .int) 20 [(0, .ref x0)] [.int y0] h 0 0 := by
  unfold w_M_stop_L20 at hw
  intro p e s m args below meth c hC H locs ls k n hE hl hR hS hk hn
  obtain ⟨hx, hb, hown, hlocks, htab, hml, hr, hB, hA, hnm⟩ := id hC
  have hts := hB.1.1.at args
  refine lv_istore_n hx hb (xb_d D_M_stop 10 rfl) rfl hl (by decide) rfl (fun ls hl => ?_)
  have hl : lv_has ls 2 [(1, .int y0), (0, .ref x0)] := hl
  refine lv_aload_n hx hb (xb_d D_M_stop 11 rfl) rfl (lv_at hl 1 rfl) ?_
  refine lv_iconst (v := 0) hx hb (xb_d D_M_stop 12 rfl) (by decide) ?_
  obtain ⟨hk1, hw⟩ := hw
  refine xb_putI (C := R_M) (T := F_M) (N := 97) (ty := .boolean) (x := 0) hx hb 8 62 hts fin_M t_M t_M_ok n_M hown hR hS hk1 (by decide) rfl (by decide) rfl (hts _ m_71a5ca12) (fun _ h9 => h9) rfl (by decide +kernel) (by decide) (by decide) (xb_d D_M_stop 13 rfl) (fun H locs hR hS => ?_)
  obtain ⟨h2, eh2⟩ : ∃ x : xb_H, x = xb_I h x0 62 0 := ⟨_, rfl⟩
  rw [← eh2] at hR
  have hw := hw h2 eh2
  have hE : xb_ext h0 h2 := by rw [eh2]; exact hE
  refine lv_aload_n hx hb (xb_d D_M_stop 14 rfl) rfl (lv_at hl 1 rfl) ?_
  refine lv_iconst (v := 0) hx hb (xb_d D_M_stop 15 rfl) (by decide) ?_
  have hk1 : xb_k h2 x0 = 9 := by rw [eh2]; exact hk1
  refine xb_putI (C := R_M) (T := F_M) (N := 97) (ty := .int) (x := 0) hx hb 8 68 hts fin_M t_M t_M_ok n_M hown hR hS hk1 (by decide) rfl (by decide) rfl (hts _ m_11712ae1) (fun _ h9 => h9) rfl (by decide +kernel) rfl rfl (xb_d D_M_stop 16 rfl) (fun H locs hR hS => ?_)
  obtain ⟨h3, eh3⟩ : ∃ x : xb_H, x = xb_I h2 x0 68 0 := ⟨_, rfl⟩
  rw [← eh3] at hR
  have hw := hw h3 eh3
  have hE : xb_ext h0 h3 := by rw [eh3]; exact hE
  refine lv_iload_n hx hb (xb_d D_M_stop 17 rfl) rfl (lv_at hl 0 rfl) ?_
  exact xb_iret 0 0 hx hb hr hlocks (show k + 0 ≤ MC by omega) (show n + 0 ≤ MS by omega) hE hR hS (xb_d D_M_stop 18 rfl) hw

set_option maxHeartbeats 4000000 in
set_option maxRecDepth 100000 in
theorem ok_M_stop (l : Launch) (hfl : l.flags = pinnedFlags ++ [noTraceFlag]) (D : va_G) (A : Nat → Prop) (σ : Nat) (x0 : Nat) (h : xb_H) (Qr : Int32 → xb_H → Prop) (hw : w_M_stop x0 h Qr) : xb_Met l y_M_stop [.code y_M_stop b_M_stop 2 (some .int)] (xb_rm 2 0 0) (xb_Pc D A σ h [.ref x0]) (xb_Qc D A h 0 0 (fun v h _ _ => ∃ r, v = some (.int r) ∧ Qr r h) (fun _ _ _ _ => False)) A := by
  refine xb_ofAm (cc := b_M_stop) (by decide) (Nat.le_of_ble_eq_true rfl) ?_
  unfold w_M_stop at hw
  show xb_am l D A σ 2 0 0 h (fun v h _ _ => ∃ r, v = some (.int r) ∧ Qr r h) (fun _ _ _ _ => False) y_M_stop.cls y_M_stop.name b_M_stop 2 ([] : List ExceptionTableEntry) (some .int) 0 [(0, .ref x0)] [] h 0 0
  obtain ⟨MC, hMC⟩ : ∃ x, x = 0 := ⟨_, rfl⟩
  obtain ⟨MS, hMS⟩ : ∃ x, x = 0 := ⟨_, rfl⟩
  rw [show xb_am l D A σ 2 0 0 = xb_am l D A σ 2 MC MS by rw [hMC, hMS]]
  obtain ⟨h0, hh0⟩ : ∃ x, x = h := ⟨_, rfl⟩
  rw [show xb_am l D A σ 2 MC MS h = xb_am l D A σ 2 MC MS h0 by rw [hh0]]
  intro p e s m args below meth c hC H locs ls k n hE hl hR hS hk hn
  obtain ⟨hx, hb, hown, hlocks, htab, hml, hr, hB, hA, hnm⟩ := id hC
  have hts := hB.1.1.at args
  refine lv_aload_n hx hb (xb_d D_M_stop 0 rfl) rfl (lv_at hl 0 rfl) ?_
  refine lv_iconst (v := 0) hx hb (xb_d D_M_stop 1 rfl) (by decide) ?_
  obtain ⟨hk1, hw⟩ := hw
  refine xb_putI (C := R_M) (T := F_M) (N := 97) (ty := .int) (x := 0) hx hb 8 0 hts fin_M t_M t_M_ok n_M hown hR hS hk1 (by decide) rfl (by decide) rfl (hts _ m_afabd6a0) (fun _ h9 => h9) rfl (by decide +kernel) rfl rfl (xb_d D_M_stop 2 rfl) (fun H locs hR hS => ?_)
  obtain ⟨h2, eh2⟩ : ∃ x : xb_H, x = xb_I h x0 0 0 := ⟨_, rfl⟩
  rw [← eh2] at hR
  have hw := hw h2 eh2
  have hE : xb_ext h0 h2 := by rw [eh2]; exact hE
  refine lv_aload_n hx hb (xb_d D_M_stop 3 rfl) rfl (lv_at hl 0 rfl) ?_
  have hk1 : xb_k h2 x0 = 9 := by rw [eh2]; exact hk1
  refine xb_getI (C := R_M) (T := F_M) (N := 97) hx hb 8 62 hts fin_M hown hR hk1 (by decide) rfl (by decide) rfl (hts _ m_71a5ca12) (fun _ h9 => h9) (xb_d D_M_stop 4 rfl) ?_
  refine lv_if_eq (tgt := 19) hx hb (xb_d D_M_stop 5 rfl) rfl (fun hc3 => ?_) (fun hc3 => ?_)
  · have hw := hw.1 hc3
    refine lv_iconst (v := 0) hx hb (xb_d D_M_stop 9 rfl) (by decide) ?_
    exact am_M_stop_L20 l hfl D A σ MC MS h0 Qr x0 0 h2 hw p e s m args below meth c hC H locs ls k n hE (lv_sub hl [0] rfl) hR hS (by omega) (by omega)
  · have hw := hw.2 hc3
    refine lv_aload_n hx hb (xb_d D_M_stop 6 rfl) rfl (lv_at hl 0 rfl) ?_
    refine xb_getI (C := R_M) (T := F_M) (N := 97) hx hb 8 68 hts fin_M hown hR hk1 (by decide) rfl (by decide) rfl (hts _ m_11712ae1) (fun _ h9 => h9) (xb_d D_M_stop 7 rfl) ?_
    refine lv_goto (tgt := 20) hx hb (xb_d D_M_stop 8 rfl) rfl ?_
    exact am_M_stop_L20 l hfl D A σ MC MS h0 Qr x0 (xb_i h2 x0 68) h2 hw p e s m args below meth c hC H locs ls k n hE (lv_sub hl [0] rfl) hR hS (by omega) (by omega)

set_option maxRecDepth 100000 in
def T_M_thrown : List (Nat × Instr × Nat) := [(0, .aload_n 0, 1), (1, .getfield 189, 3), (4, .ireturn, 1)]
theorem D_M_thrown : ∀ q ∈ T_M_thrown, decode b_M_thrown q.1 = .ok (q.2.1, q.2.2) := by decide +kernel

set_option maxHeartbeats 4000000 in
set_option maxRecDepth 100000 in
theorem ok_M_thrown (l : Launch) (hfl : l.flags = pinnedFlags ++ [noTraceFlag]) (D : va_G) (A : Nat → Prop) (σ : Nat) (x0 : Nat) (h : xb_H) (Qr : Int32 → xb_H → Prop) (hw : w_M_thrown x0 h Qr) : xb_Met l y_M_thrown [.code y_M_thrown b_M_thrown 1 (some .int)] (xb_rm 2 0 0) (xb_Pc D A σ h [.ref x0]) (xb_Qc D A h 0 0 (fun v h _ _ => ∃ r, v = some (.int r) ∧ Qr r h) (fun _ _ _ _ => False)) A := by
  refine xb_ofAm (cc := b_M_thrown) (by decide) (Nat.le_of_ble_eq_true rfl) ?_
  unfold w_M_thrown at hw
  show xb_am l D A σ 2 0 0 h (fun v h _ _ => ∃ r, v = some (.int r) ∧ Qr r h) (fun _ _ _ _ => False) y_M_thrown.cls y_M_thrown.name b_M_thrown 1 ([] : List ExceptionTableEntry) (some .int) 0 [(0, .ref x0)] [] h 0 0
  obtain ⟨MC, hMC⟩ : ∃ x, x = 0 := ⟨_, rfl⟩
  obtain ⟨MS, hMS⟩ : ∃ x, x = 0 := ⟨_, rfl⟩
  rw [show xb_am l D A σ 2 0 0 = xb_am l D A σ 2 MC MS by rw [hMC, hMS]]
  obtain ⟨h0, hh0⟩ : ∃ x, x = h := ⟨_, rfl⟩
  rw [show xb_am l D A σ 2 MC MS h = xb_am l D A σ 2 MC MS h0 by rw [hh0]]
  intro p e s m args below meth c hC H locs ls k n hE hl hR hS hk hn
  obtain ⟨hx, hb, hown, hlocks, htab, hml, hr, hB, hA, hnm⟩ := id hC
  have hts := hB.1.1.at args
  refine lv_aload_n hx hb (xb_d D_M_thrown 0 rfl) rfl (lv_at hl 0 rfl) ?_
  obtain ⟨hk1, hw⟩ := hw
  refine xb_getI (C := R_M) (T := F_M) (N := 97) hx hb 8 0 hts fin_M hown hR hk1 (by decide) rfl (by decide) rfl (hts _ m_afabd6a0) (fun _ h9 => h9) (xb_d D_M_thrown 1 rfl) ?_
  exact xb_iret 0 0 hx hb hr hlocks (show k + 0 ≤ MC by omega) (show n + 0 ≤ MS by omega) hE hR hS (xb_d D_M_thrown 2 rfl) hw

set_option maxRecDepth 100000 in
def T_M_trap : List (Nat × Instr × Nat) := [(0, .aload_n 0, 1), (1, .iload_n 1, 1), (2, .ifCond .lt 12, 3), (5, .iload_n 1, 1), (6, .iconst 4, 1), (7, .if_icmp .ge 7, 3), (10, .iconst 0, 1), (11, .goto 4, 3), (14, .iconst 1, 1), (15, .putfield 189, 3), (18, .aload_n 0, 1), (19, .getfield 189, 3), (22, .ifCond .le 7, 3), (25, .iconst 0, 1), (26, .goto 9, 3), (29, .aload_n 0, 1), (30, .getfield 173, 3), (33, .iload_n 1, 1), (34, .iaload, 1), (35, .ireturn, 1)]
theorem D_M_trap : ∀ q ∈ T_M_trap, decode b_M_trap q.1 = .ok (q.2.1, q.2.2) := by decide +kernel

set_option maxHeartbeats 4000000 in
set_option maxRecDepth 100000 in
theorem am_M_trap_L35 (l : Launch) (hfl : l.flags = pinnedFlags ++ [noTraceFlag]) (D : va_G) (A : Nat → Prop) (σ MC MS : Nat) (h0 : xb_H) (Qr : Int32 → xb_H → Prop) (y0 : Int32) (h : xb_H) (hw : w_M_trap_L35 Qr y0 h) : xb_am l D A σ 2 MC MS h0 (fun v h _ _ => ∃ r, v = some (.int r) ∧ Qr r h) (fun _ _ _ _ => False) y_M_trap.cls y_M_trap.name b_M_trap 2 ([] : List ExceptionTableEntry) (some .int) 35 [] [.int y0] h 0 0 := by
  unfold w_M_trap_L35 at hw
  intro p e s m args below meth c hC H locs ls k n hE hl hR hS hk hn
  obtain ⟨hx, hb, hown, hlocks, htab, hml, hr, hB, hA, hnm⟩ := id hC
  have hts := hB.1.1.at args
  exact xb_iret 0 0 hx hb hr hlocks (show k + 0 ≤ MC by omega) (show n + 0 ≤ MS by omega) hE hR hS (xb_d D_M_trap 19 rfl) hw

set_option maxHeartbeats 4000000 in
set_option maxRecDepth 100000 in
theorem am_M_trap_L15 (l : Launch) (hfl : l.flags = pinnedFlags ++ [noTraceFlag]) (D : va_G) (A : Nat → Prop) (σ MC MS : Nat) (h0 : xb_H) (Qr : Int32 → xb_H → Prop) (x0 : Nat) (x1 : Int32) (y0 : Int32) (y1 : Nat) (h : xb_H) (hw : w_M_trap_L15 Qr x0 x1 y0 y1 h) : xb_am l D A σ 2 MC MS h0 (fun v h _ _ => ∃ r, v = some (.int r) ∧ Qr r h) (fun _ _ _ _ => False) y_M_trap.cls y_M_trap.name b_M_trap 2 ([] : List ExceptionTableEntry) (some .int) 15 [(0, .ref x0), (1, .int x1)] [.int y0, .ref y1] h 0 0 := by
  unfold w_M_trap_L15 at hw
  intro p e s m args below meth c hC H locs ls k n hE hl hR hS hk hn
  obtain ⟨hx, hb, hown, hlocks, htab, hml, hr, hB, hA, hnm⟩ := id hC
  have hts := hB.1.1.at args
  obtain ⟨hk1, hw⟩ := hw
  refine xb_putI (C := R_M) (T := F_M) (N := 97) (ty := .int) (x := y0) hx hb 8 0 hts fin_M t_M t_M_ok n_M hown hR hS hk1 (by decide) rfl (by decide) rfl (hts _ m_afabd6a0) (fun _ h9 => h9) rfl (by decide +kernel) rfl rfl (xb_d D_M_trap 9 rfl) (fun H locs hR hS => ?_)
  obtain ⟨h2, eh2⟩ : ∃ x : xb_H, x = xb_I h y1 0 y0 := ⟨_, rfl⟩
  rw [← eh2] at hR
  have hw := hw h2 eh2
  have hE : xb_ext h0 h2 := by rw [eh2]; exact hE
  refine lv_aload_n hx hb (xb_d D_M_trap 10 rfl) rfl (lv_at hl 0 rfl) ?_
  obtain ⟨hk3, hw⟩ := hw
  refine xb_getI (C := R_M) (T := F_M) (N := 97) hx hb 8 0 hts fin_M hown hR hk3 (by decide) rfl (by decide) rfl (hts _ m_afabd6a0) (fun _ h9 => h9) (xb_d D_M_trap 11 rfl) ?_
  refine lv_if_le (tgt := 29) hx hb (xb_d D_M_trap 12 rfl) rfl (fun hc4 => ?_) (fun hc4 => ?_)
  · have hw := hw.1 hc4
    refine lv_aload_n hx hb (xb_d D_M_trap 15 rfl) rfl (lv_at hl 0 rfl) ?_
    refine xb_getP (C := R_M) (T := F_M) (N := 97) hx hb 8 86 hts fin_M hown hR hk3 (by decide) rfl (by decide) rfl (hts _ m_6e1e432a) (fun _ h9 => h9) (xb_d D_M_trap 16 rfl) ?_
    obtain ⟨b5, eb5, hw⟩ := hw
    refine xb_some eb5 ?_
    refine lv_iload_n hx hb (xb_d D_M_trap 17 rfl) rfl (lv_at hl 1 rfl) ?_
    obtain ⟨hk7, hw⟩ := hw
    obtain ⟨hi6, hw⟩ := hw
    refine xb_iald hx hb hR hk7 hi6 (xb_d D_M_trap 18 rfl) ?_
    exact am_M_trap_L35 l hfl D A σ MC MS h0 Qr (xb_i h2 b5 (Int32.toNatClampNeg x1)) h2 hw p e s m args below meth c hC H locs ls k n hE (lv_sub hl [] rfl) hR hS (by omega) (by omega)
  · have hw := hw.2 hc4
    refine lv_iconst (v := 0) hx hb (xb_d D_M_trap 13 rfl) (by decide) ?_
    refine lv_goto (tgt := 35) hx hb (xb_d D_M_trap 14 rfl) rfl ?_
    exact am_M_trap_L35 l hfl D A σ MC MS h0 Qr 0 h2 hw p e s m args below meth c hC H locs ls k n hE (lv_sub hl [] rfl) hR hS (by omega) (by omega)

set_option maxHeartbeats 4000000 in
set_option maxRecDepth 100000 in
theorem am_M_trap_L14 (l : Launch) (hfl : l.flags = pinnedFlags ++ [noTraceFlag]) (D : va_G) (A : Nat → Prop) (σ MC MS : Nat) (h0 : xb_H) (Qr : Int32 → xb_H → Prop) (x0 : Nat) (x1 : Int32) (y0 : Nat) (h : xb_H) (hw : w_M_trap_L14 Qr x0 x1 y0 h) : xb_am l D A σ 2 MC MS h0 (fun v h _ _ => ∃ r, v = some (.int r) ∧ Qr r h) (fun _ _ _ _ => False) y_M_trap.cls y_M_trap.name b_M_trap 2 ([] : List ExceptionTableEntry) (some .int) 14 [(0, .ref x0), (1, .int x1)] [.ref y0] h 0 0 := by
  unfold w_M_trap_L14 at hw
  intro p e s m args below meth c hC H locs ls k n hE hl hR hS hk hn
  obtain ⟨hx, hb, hown, hlocks, htab, hml, hr, hB, hA, hnm⟩ := id hC
  have hts := hB.1.1.at args
  refine lv_iconst (v := 1) hx hb (xb_d D_M_trap 8 rfl) (by decide) ?_
  exact am_M_trap_L15 l hfl D A σ MC MS h0 Qr x0 x1 1 y0 h hw p e s m args below meth c hC H locs ls k n hE (lv_sub hl [0, 1] rfl) hR hS (by omega) (by omega)

set_option maxHeartbeats 4000000 in
set_option maxRecDepth 100000 in
theorem ok_M_trap (l : Launch) (hfl : l.flags = pinnedFlags ++ [noTraceFlag]) (D : va_G) (A : Nat → Prop) (σ : Nat) (x0 : Nat) (x1 : Int32) (h : xb_H) (Qr : Int32 → xb_H → Prop) (hw : w_M_trap x0 x1 h Qr) : xb_Met l y_M_trap [.code y_M_trap b_M_trap 2 (some .int)] (xb_rm 2 0 0) (xb_Pc D A σ h [.ref x0, .int x1]) (xb_Qc D A h 0 0 (fun v h _ _ => ∃ r, v = some (.int r) ∧ Qr r h) (fun _ _ _ _ => False)) A := by
  refine xb_ofAm (cc := b_M_trap) (by decide) (Nat.le_of_ble_eq_true rfl) ?_
  unfold w_M_trap at hw
  show xb_am l D A σ 2 0 0 h (fun v h _ _ => ∃ r, v = some (.int r) ∧ Qr r h) (fun _ _ _ _ => False) y_M_trap.cls y_M_trap.name b_M_trap 2 ([] : List ExceptionTableEntry) (some .int) 0 [(0, .ref x0), (1, .int x1)] [] h 0 0
  obtain ⟨MC, hMC⟩ : ∃ x, x = 0 := ⟨_, rfl⟩
  obtain ⟨MS, hMS⟩ : ∃ x, x = 0 := ⟨_, rfl⟩
  rw [show xb_am l D A σ 2 0 0 = xb_am l D A σ 2 MC MS by rw [hMC, hMS]]
  obtain ⟨h0, hh0⟩ : ∃ x, x = h := ⟨_, rfl⟩
  rw [show xb_am l D A σ 2 MC MS h = xb_am l D A σ 2 MC MS h0 by rw [hh0]]
  intro p e s m args below meth c hC H locs ls k n hE hl hR hS hk hn
  obtain ⟨hx, hb, hown, hlocks, htab, hml, hr, hB, hA, hnm⟩ := id hC
  have hts := hB.1.1.at args
  refine lv_aload_n hx hb (xb_d D_M_trap 0 rfl) rfl (lv_at hl 0 rfl) ?_
  refine lv_iload_n hx hb (xb_d D_M_trap 1 rfl) rfl (lv_at hl 1 rfl) ?_
  refine lv_if_lt (tgt := 14) hx hb (xb_d D_M_trap 2 rfl) rfl (fun hc1 => ?_) (fun hc1 => ?_)
  · have hw := hw.1 hc1
    exact am_M_trap_L14 l hfl D A σ MC MS h0 Qr x0 x1 x0 h hw p e s m args below meth c hC H locs ls k n hE (lv_sub hl [0, 1] rfl) hR hS (by omega) (by omega)
  · have hw := hw.2 hc1
    refine lv_iload_n hx hb (xb_d D_M_trap 3 rfl) rfl (lv_at hl 1 rfl) ?_
    refine lv_iconst (v := 4) hx hb (xb_d D_M_trap 4 rfl) (by decide) ?_
    refine lv_icmp_ge (tgt := 14) hx hb (xb_d D_M_trap 5 rfl) rfl (fun hc2 => ?_) (fun hc2 => ?_)
    · have hw := hw.1 hc2
      exact am_M_trap_L14 l hfl D A σ MC MS h0 Qr x0 x1 x0 h hw p e s m args below meth c hC H locs ls k n hE (lv_sub hl [0, 1] rfl) hR hS (by omega) (by omega)
    · have hw := hw.2 hc2
      refine lv_iconst (v := 0) hx hb (xb_d D_M_trap 6 rfl) (by decide) ?_
      refine lv_goto (tgt := 15) hx hb (xb_d D_M_trap 7 rfl) rfl ?_
      exact am_M_trap_L15 l hfl D A σ MC MS h0 Qr x0 x1 0 x0 h hw p e s m args below meth c hC H locs ls k n hE (lv_sub hl [0, 1] rfl) hR hS (by omega) (by omega)

theorem m_c9799996 : (.fieldLink "StackHostModel" 663 "StackHostModel" "wrong" "I" : Cond) ∈ xt_tbl := xt_in (xt_t9 (List.mem_of_getElem? (i := 222) (by decide +kernel))) (by decide +kernel)
set_option maxRecDepth 100000 in
def T_M_wrong : List (Nat × Instr × Nat) := [(0, .aload_n 0, 1), (1, .iconst 0, 1), (2, .putfield 189, 3), (5, .aload_n 0, 1), (6, .getfield 663, 3), (9, .ireturn, 1)]
theorem D_M_wrong : ∀ q ∈ T_M_wrong, decode b_M_wrong q.1 = .ok (q.2.1, q.2.2) := by decide +kernel

set_option maxHeartbeats 4000000 in
set_option maxRecDepth 100000 in
theorem ok_M_wrong (l : Launch) (hfl : l.flags = pinnedFlags ++ [noTraceFlag]) (D : va_G) (A : Nat → Prop) (σ : Nat) (x0 : Nat) (h : xb_H) (Qr : Int32 → xb_H → Prop) (hw : w_M_wrong x0 h Qr) : xb_Met l y_M_wrong [.code y_M_wrong b_M_wrong 1 (some .int)] (xb_rm 2 0 0) (xb_Pc D A σ h [.ref x0]) (xb_Qc D A h 0 0 (fun v h _ _ => ∃ r, v = some (.int r) ∧ Qr r h) (fun _ _ _ _ => False)) A := by
  refine xb_ofAm (cc := b_M_wrong) (by decide) (Nat.le_of_ble_eq_true rfl) ?_
  unfold w_M_wrong at hw
  show xb_am l D A σ 2 0 0 h (fun v h _ _ => ∃ r, v = some (.int r) ∧ Qr r h) (fun _ _ _ _ => False) y_M_wrong.cls y_M_wrong.name b_M_wrong 1 ([] : List ExceptionTableEntry) (some .int) 0 [(0, .ref x0)] [] h 0 0
  obtain ⟨MC, hMC⟩ : ∃ x, x = 0 := ⟨_, rfl⟩
  obtain ⟨MS, hMS⟩ : ∃ x, x = 0 := ⟨_, rfl⟩
  rw [show xb_am l D A σ 2 0 0 = xb_am l D A σ 2 MC MS by rw [hMC, hMS]]
  obtain ⟨h0, hh0⟩ : ∃ x, x = h := ⟨_, rfl⟩
  rw [show xb_am l D A σ 2 MC MS h = xb_am l D A σ 2 MC MS h0 by rw [hh0]]
  intro p e s m args below meth c hC H locs ls k n hE hl hR hS hk hn
  obtain ⟨hx, hb, hown, hlocks, htab, hml, hr, hB, hA, hnm⟩ := id hC
  have hts := hB.1.1.at args
  refine lv_aload_n hx hb (xb_d D_M_wrong 0 rfl) rfl (lv_at hl 0 rfl) ?_
  refine lv_iconst (v := 0) hx hb (xb_d D_M_wrong 1 rfl) (by decide) ?_
  obtain ⟨hk1, hw⟩ := hw
  refine xb_putI (C := R_M) (T := F_M) (N := 97) (ty := .int) (x := 0) hx hb 8 0 hts fin_M t_M t_M_ok n_M hown hR hS hk1 (by decide) rfl (by decide) rfl (hts _ m_afabd6a0) (fun _ h9 => h9) rfl (by decide +kernel) rfl rfl (xb_d D_M_wrong 2 rfl) (fun H locs hR hS => ?_)
  obtain ⟨h2, eh2⟩ : ∃ x : xb_H, x = xb_I h x0 0 0 := ⟨_, rfl⟩
  rw [← eh2] at hR
  have hw := hw h2 eh2
  have hE : xb_ext h0 h2 := by rw [eh2]; exact hE
  refine lv_aload_n hx hb (xb_d D_M_wrong 3 rfl) rfl (lv_at hl 0 rfl) ?_
  have hk1 : xb_k h2 x0 = 9 := by rw [eh2]; exact hk1
  refine xb_getI (C := R_M) (T := F_M) (N := 97) hx hb 8 84 hts fin_M hown hR hk1 (by decide) rfl (by decide) rfl (hts _ m_c9799996) (fun _ h9 => h9) (xb_d D_M_wrong 4 rfl) ?_
  exact xb_iret 0 0 hx hb hr hlocks (show k + 0 ≤ MC by omega) (show n + 0 ≤ MS by omega) hE hR hS (xb_d D_M_wrong 5 rfl) hw

theorem m_65129d5b : (.methodLink "StackHostModel$Exact" 3 objectInit : Cond) ∈ xt_tbl := xt_in (xt_t9 (List.mem_of_getElem? (i := 103) (by decide +kernel))) (by decide +kernel)
theorem m_3ef37fb8 : (.fieldLink "StackHostModel$Exact" 9 "StackHostModel$Exact" "row" "[B" : Cond) ∈ xt_tbl := xt_in (xt_t9 (List.mem_of_getElem? (i := 106) (by decide +kernel))) (by decide +kernel)
theorem m_2f5dbefd : (.fieldLink "StackHostModel$Exact" 15 "StackHostModel$Exact" "low" "I" : Cond) ∈ xt_tbl := xt_in (xt_t9 (List.mem_of_getElem? (i := 107) (by decide +kernel))) (by decide +kernel)
theorem m_ee80a7fc : (.fieldLink "StackHostModel$Exact" 19 "StackHostModel$Exact" "high" "I" : Cond) ∈ xt_tbl := xt_in (xt_t9 (List.mem_of_getElem? (i := 108) (by decide +kernel))) (by decide +kernel)
set_option maxRecDepth 100000 in
def T_Exact_init : List (Nat × Instr × Nat) := [(0, .aload_n 0, 1), (1, .invokespecial 3, 3), (4, .aload_n 0, 1), (5, .sipush 4400, 3), (8, .newarray .byte, 2), (10, .putfield 9, 3), (13, .aload_n 0, 1), (14, .iconst 1, 1), (15, .putfield 15, 3), (18, .aload_n 0, 1), (19, .iconst 0, 1), (20, .putfield 19, 3), (23, .return_, 1)]
theorem D_Exact_init : ∀ q ∈ T_Exact_init, decode b_Exact_init q.1 = .ok (q.2.1, q.2.2) := by decide +kernel

set_option maxHeartbeats 4000000 in
set_option maxRecDepth 100000 in
theorem ok_Exact_init (l : Launch) (hfl : l.flags = pinnedFlags ++ [noTraceFlag]) (D : va_G) (A : Nat → Prop) (σ : Nat) (x0 : Nat) (h : xb_H) (bc : Nat) (bs : Nat) (Qr : xb_H → Nat → Nat → Prop) (hw : w_Exact_init x0 h bc bs Qr) : xb_Met l y_Exact_init [.code y_Exact_init b_Exact_init 1 none] (xb_rm 2 bc bs) (xb_Pc D A σ h [.ref x0]) (xb_Qc D A h bc bs (fun v h bc bs => v = none ∧ Qr h bc bs) (fun _ _ _ _ => False)) A := by
  refine xb_ofAm (cc := b_Exact_init) (by decide) (Nat.le_of_ble_eq_true rfl) ?_
  unfold w_Exact_init at hw
  show xb_am l D A σ 2 bc bs h (fun v h bc bs => v = none ∧ Qr h bc bs) (fun _ _ _ _ => False) y_Exact_init.cls y_Exact_init.name b_Exact_init 1 ([] : List ExceptionTableEntry) none 0 [(0, .ref x0)] [] h bc bs
  obtain ⟨MC, hMC⟩ : ∃ x, x = bc := ⟨_, rfl⟩
  obtain ⟨MS, hMS⟩ : ∃ x, x = bs := ⟨_, rfl⟩
  rw [show xb_am l D A σ 2 bc bs = xb_am l D A σ 2 MC MS by rw [hMC, hMS]]
  obtain ⟨h0, hh0⟩ : ∃ x, x = h := ⟨_, rfl⟩
  rw [show xb_am l D A σ 2 MC MS h = xb_am l D A σ 2 MC MS h0 by rw [hh0]]
  intro p e s m args below meth c hC H locs ls k n hE hl hR hS hk hn
  obtain ⟨hx, hb, hown, hlocks, htab, hml, hr, hB, hA, hnm⟩ := id hC
  have hts := hB.1.1.at args
  refine lv_aload_n hx hb (xb_d D_Exact_init 0 rfl) rfl (lv_at hl 0 rfl) ?_
  refine W.objInit hx hb hown (hts _ m_65129d5b) (hts _ m_fba9d542) (hts _ m_9febdb7e) rfl (hml.trans hl.1.symm).symm rfl (xb_d D_Exact_init 1 rfl) (by show 1 ≤ 8 + _; omega) (Nat.le_trans (Nat.le_of_ble_eq_true rfl : _ ≤ 40) (by show 40 ≤ 120 + _; omega)) ?_
  refine W.eq (g2 := F0 m 4 ls []) rfl ?_
  refine lv_aload_n hx hb (xb_d D_Exact_init 2 rfl) rfl (lv_at hl 0 rfl) ?_
  refine lv_sipush (v := 4400) hx hb (xb_d D_Exact_init 3 rfl) (by decide) ?_
  obtain ⟨hcq1, hsq1, hw⟩ := hw
  have enq1 : (4400 : Int32).toNatClampNeg = 4400 := by decide
  refine xb_newa_b hx hb (hts _ m_2503b19f) hR hS hA (by decide) (by decide +kernel) (show k + 1 ≤ MC by omega) (show n + _ ≤ MS by rw [enq1]; omega) (xb_d D_Exact_init 4 rfl) (fun q1 H hqq1 hR hS => ?_)
  rw [enq1] at hR ⊢
  have hw := hw q1 hqq1
  obtain ⟨h2, eh2⟩ : ∃ x : xb_H, x = xb_new h q1 100 4400 := ⟨_, rfl⟩
  rw [← eh2] at hR
  have hw := hw h2 eh2
  have hE : xb_ext h0 h2 := by rw [eh2]; exact hE.new _ _ hqq1
  have hk3 : xb_k h2 q1 = 100 := by rw [eh2]; exact xb_new_k _ _ _ _
  obtain ⟨hk4, hw⟩ := hw
  refine xb_putPF (C := R_Exact) (T := F_Exact) (N := 11) (ty := .array .byte) (x := (some q1)) hx hb 9 1 hts fin_Exact t_Exact t_Exact_ok n_Exact hown hR hS hk4 (by decide) rfl (by decide) rfl (hts _ m_3ef37fb8) (fun _ h9 => h9) rfl hnm rfl (by decide +kernel) (xb_pnA _ _).1 (xb_pnA _ _).2 (xb_d D_Exact_init 5 rfl) (fun H locs hR hS => ?_)
  obtain ⟨h5, eh5⟩ : ∃ x : xb_H, x = xb_P h2 x0 1 (some q1) := ⟨_, rfl⟩
  rw [← eh5] at hR
  have hw := hw h5 eh5
  have hE : xb_ext h0 h5 := by rw [eh5]; exact hE
  refine lv_aload_n hx hb (xb_d D_Exact_init 6 rfl) rfl (lv_at hl 0 rfl) ?_
  refine lv_iconst (v := 1) hx hb (xb_d D_Exact_init 7 rfl) (by decide) ?_
  have hk4 : xb_k h5 x0 = 10 := by rw [eh5]; exact hk4
  refine xb_putI (C := R_Exact) (T := F_Exact) (N := 11) (ty := .int) (x := 1) hx hb 9 2 hts fin_Exact t_Exact t_Exact_ok n_Exact hown hR hS hk4 (by decide) rfl (by decide) rfl (hts _ m_2f5dbefd) (fun _ h9 => h9) rfl (by decide +kernel) rfl rfl (xb_d D_Exact_init 8 rfl) (fun H locs hR hS => ?_)
  obtain ⟨h6, eh6⟩ : ∃ x : xb_H, x = xb_I h5 x0 2 1 := ⟨_, rfl⟩
  rw [← eh6] at hR
  have hw := hw h6 eh6
  have hE : xb_ext h0 h6 := by rw [eh6]; exact hE
  refine lv_aload_n hx hb (xb_d D_Exact_init 9 rfl) rfl (lv_at hl 0 rfl) ?_
  refine lv_iconst (v := 0) hx hb (xb_d D_Exact_init 10 rfl) (by decide) ?_
  have hk4 : xb_k h6 x0 = 10 := by rw [eh6]; exact hk4
  refine xb_putI (C := R_Exact) (T := F_Exact) (N := 11) (ty := .int) (x := 0) hx hb 9 3 hts fin_Exact t_Exact t_Exact_ok n_Exact hown hR hS hk4 (by decide) rfl (by decide) rfl (hts _ m_ee80a7fc) (fun _ h9 => h9) rfl (by decide +kernel) rfl rfl (xb_d D_Exact_init 11 rfl) (fun H locs hR hS => ?_)
  obtain ⟨h7, eh7⟩ : ∃ x : xb_H, x = xb_I h6 x0 3 0 := ⟨_, rfl⟩
  rw [← eh7] at hR
  have hw := hw h7 eh7
  have hE : xb_ext h0 h7 := by rw [eh7]; exact hE
  exact xb_vret (bc - 1) (bs - 4400) hx hb hr hlocks (show (k + 1) + (bc - 1) ≤ MC by omega) (show (n + 4400) + (bs - 4400) ≤ MS by omega) hE hR hS (xb_d D_Exact_init 12 rfl) hw

theorem m_747a0ad2 : (.constantLong "StackHostModel$Exact" 151 (-9223372036854775808) : Cond) ∈ xt_tbl := xt_in (xt_t13 (List.mem_of_getElem? (i := 7) (by decide +kernel))) (by decide +kernel)
set_option maxRecDepth 100000 in
def T_Exact_below : List (Nat × Instr × Nat) := [(0, .lload_n 0, 1), (1, .ldc2_w 151, 3), (4, .lxor, 1), (5, .lload_n 2, 1), (6, .ldc2_w 151, 3), (9, .lxor, 1), (10, .lcmp, 1), (11, .ifCond .ge 7, 3), (14, .iconst 1, 1), (15, .goto 4, 3), (18, .iconst 0, 1), (19, .ireturn, 1)]
theorem D_Exact_below : ∀ q ∈ T_Exact_below, decode b_Exact_below q.1 = .ok (q.2.1, q.2.2) := by decide +kernel

set_option maxHeartbeats 4000000 in
set_option maxRecDepth 100000 in
theorem am_Exact_below_L19 (l : Launch) (hfl : l.flags = pinnedFlags ++ [noTraceFlag]) (D : va_G) (A : Nat → Prop) (σ MC MS : Nat) (h0 : xb_H) (Qr : Int32 → xb_H → Prop) (y0 : Int32) (h : xb_H) (hw : w_Exact_below_L19 Qr y0 h) : xb_am l D A σ 2 MC MS h0 (fun v h _ _ => ∃ r, v = some (.int r) ∧ Qr r h) (fun _ _ _ _ => False) y_Exact_below.cls y_Exact_below.name b_Exact_below 4 ([] : List ExceptionTableEntry) (some .boolean) 19 [] [.int y0] h 0 0 := by
  unfold w_Exact_below_L19 at hw
  intro p e s m args below meth c hC H locs ls k n hE hl hR hS hk hn
  obtain ⟨hx, hb, hown, hlocks, htab, hml, hr, hB, hA, hnm⟩ := id hC
  have hts := hB.1.1.at args
  exact xb_zret 0 0 hx hb hr hlocks (show k + 0 ≤ MC by omega) (show n + 0 ≤ MS by omega) hw.1 hE hR hS (xb_d D_Exact_below 11 rfl) hw.2

set_option maxHeartbeats 4000000 in
set_option maxRecDepth 100000 in
theorem ok_Exact_below (l : Launch) (hfl : l.flags = pinnedFlags ++ [noTraceFlag]) (D : va_G) (A : Nat → Prop) (σ : Nat) (x0 : Int64) (x2 : Int64) (h : xb_H) (Qr : Int32 → xb_H → Prop) (hw : w_Exact_below x0 x2 h Qr) : xb_Met l y_Exact_below [.code y_Exact_below b_Exact_below 4 (some .boolean)] (xb_rm 2 0 0) (xb_Pc D A σ h [.long x0, .long x2]) (xb_Qc D A h 0 0 (fun v h _ _ => ∃ r, v = some (.int r) ∧ Qr r h) (fun _ _ _ _ => False)) A := by
  refine xb_ofAm (cc := b_Exact_below) (by decide) (Nat.le_of_ble_eq_true rfl) ?_
  unfold w_Exact_below at hw
  show xb_am l D A σ 2 0 0 h (fun v h _ _ => ∃ r, v = some (.int r) ∧ Qr r h) (fun _ _ _ _ => False) y_Exact_below.cls y_Exact_below.name b_Exact_below 4 ([] : List ExceptionTableEntry) (some .boolean) 0 [(0, .long x0), (2, .long x2)] [] h 0 0
  obtain ⟨MC, hMC⟩ : ∃ x, x = 0 := ⟨_, rfl⟩
  obtain ⟨MS, hMS⟩ : ∃ x, x = 0 := ⟨_, rfl⟩
  rw [show xb_am l D A σ 2 0 0 = xb_am l D A σ 2 MC MS by rw [hMC, hMS]]
  obtain ⟨h0, hh0⟩ : ∃ x, x = h := ⟨_, rfl⟩
  rw [show xb_am l D A σ 2 MC MS h = xb_am l D A σ 2 MC MS h0 by rw [hh0]]
  intro p e s m args below meth c hC H locs ls k n hE hl hR hS hk hn
  obtain ⟨hx, hb, hown, hlocks, htab, hml, hr, hB, hA, hnm⟩ := id hC
  have hts := hB.1.1.at args
  refine lv_lload_n hx hb (xb_d D_Exact_below 0 rfl) rfl (lv_at hl 0 rfl) ?_
  refine lv_ldc2 (v := (-9223372036854775808)) hx hb hown (hts _ m_747a0ad2) (xb_d D_Exact_below 1 rfl) ?_
  refine lv_lxor hx hb (xb_d D_Exact_below 2 rfl) ?_
  refine lv_lload_n hx hb (xb_d D_Exact_below 3 rfl) rfl (lv_at hl 1 rfl) ?_
  refine lv_ldc2 (v := (-9223372036854775808)) hx hb hown (hts _ m_747a0ad2) (xb_d D_Exact_below 4 rfl) ?_
  refine lv_lxor hx hb (xb_d D_Exact_below 5 rfl) ?_
  refine xb_lc_ge (tgt := 18) hx hb (xb_d D_Exact_below 6 rfl) (xb_d D_Exact_below 7 rfl) rfl (fun hc1 => ?_) (fun hc1 => ?_)
  · have hw := hw.1 hc1
    refine lv_iconst (v := 0) hx hb (xb_d D_Exact_below 10 rfl) (by decide) ?_
    exact am_Exact_below_L19 l hfl D A σ MC MS h0 Qr 0 h hw p e s m args below meth c hC H locs ls k n hE (lv_sub hl [] rfl) hR hS (by omega) (by omega)
  · have hw := hw.2 hc1
    refine lv_iconst (v := 1) hx hb (xb_d D_Exact_below 8 rfl) (by decide) ?_
    refine lv_goto (tgt := 19) hx hb (xb_d D_Exact_below 9 rfl) rfl ?_
    exact am_Exact_below_L19 l hfl D A σ MC MS h0 Qr 1 h hw p e s m args below meth c hC H locs ls k n hE (lv_sub hl [] rfl) hR hS (by omega) (by omega)

theorem m_5c37ff4e : (.fieldLink "StackHostModel$Exact" 33 "StackHostModel$Exact" "rest" "Z" : Cond) ∈ xt_tbl := xt_in (xt_t9 (List.mem_of_getElem? (i := 109) (by decide +kernel))) (by decide +kernel)
set_option maxRecDepth 100000 in
def T_Exact_clear : List (Nat × Instr × Nat) := [(0, .aload_n 0, 1), (1, .getfield 15, 3), (4, .istore_n 1, 1), (5, .iload_n 1, 1), (6, .aload_n 0, 1), (7, .getfield 19, 3), (10, .if_icmp .gt 16, 3), (13, .aload_n 0, 1), (14, .getfield 9, 3), (17, .iload_n 1, 1), (18, .iconst 0, 1), (19, .bastore, 1), (20, .iinc 1 1, 3), (23, .goto (-18), 3), (26, .aload_n 0, 1), (27, .aload_n 0, 1), (28, .getfield 9, 3), (31, .arraylength, 1), (32, .putfield 15, 3), (35, .aload_n 0, 1), (36, .iconst 0, 1), (37, .putfield 19, 3), (40, .aload_n 0, 1), (41, .iconst 0, 1), (42, .putfield 33, 3), (45, .return_, 1)]
theorem D_Exact_clear : ∀ q ∈ T_Exact_clear, decode b_Exact_clear q.1 = .ok (q.2.1, q.2.2) := by decide +kernel

set_option maxHeartbeats 4000000 in
set_option maxRecDepth 100000 in
theorem am_Exact_clear_L5 (l : Launch) (hfl : l.flags = pinnedFlags ++ [noTraceFlag]) (D : va_G) (A : Nat → Prop) (σ MC MS : Nat) (h0 : xb_H) (Qr : xb_H → Prop) (n9 : Nat) : ∀ (x0 : Nat) (x1 : Int32) (h : xb_H), w_Exact_clear_L5 Qr n9 x0 x1 h → xb_am l D A σ 2 MC MS h0 (fun v h _ _ => v = none ∧ Qr h) (fun _ _ _ _ => False) y_Exact_clear.cls y_Exact_clear.name b_Exact_clear 2 ([] : List ExceptionTableEntry) none 5 [(0, .ref x0), (1, .int x1)] [] h 0 0 := by
  induction n9 with
  | zero => intro x0 x1 h hw; exact False.elim hw
  | succ n9 ih =>
    intro x0 x1 h hw
    unfold w_Exact_clear_L5 at hw
    intro p e s m args below meth c hC H locs ls k n hE hl hR hS hk hn
    obtain ⟨hx, hb, hown, hlocks, htab, hml, hr, hB, hA, hnm⟩ := id hC
    have hts := hB.1.1.at args
    refine lv_iload_n hx hb (xb_d D_Exact_clear 3 rfl) rfl (lv_at hl 1 rfl) ?_
    refine lv_aload_n hx hb (xb_d D_Exact_clear 4 rfl) rfl (lv_at hl 0 rfl) ?_
    obtain ⟨hk1, hw⟩ := hw
    refine xb_getI (C := R_Exact) (T := F_Exact) (N := 11) hx hb 9 3 hts fin_Exact hown hR hk1 (by decide) rfl (by decide) rfl (hts _ m_ee80a7fc) (fun _ h9 => h9) (xb_d D_Exact_clear 5 rfl) ?_
    refine lv_icmp_gt (tgt := 26) hx hb (xb_d D_Exact_clear 6 rfl) rfl (fun hc2 => ?_) (fun hc2 => ?_)
    · have hw := hw.1 hc2
      refine lv_aload_n hx hb (xb_d D_Exact_clear 14 rfl) rfl (lv_at hl 0 rfl) ?_
      refine lv_aload_n hx hb (xb_d D_Exact_clear 15 rfl) rfl (lv_at hl 0 rfl) ?_
      refine xb_getP (C := R_Exact) (T := F_Exact) (N := 11) hx hb 9 1 hts fin_Exact hown hR hk1 (by decide) rfl (by decide) rfl (hts _ m_3ef37fb8) (fun _ h9 => h9) (xb_d D_Exact_clear 16 rfl) ?_
      obtain ⟨b3, eb3, hw⟩ := hw
      refine xb_some eb3 ?_
      obtain ⟨hk4, hw⟩ := hw
      refine xb_alen hx hb hR hk4 (by decide) (xb_d D_Exact_clear 17 rfl) ?_
      refine xb_putI (C := R_Exact) (T := F_Exact) (N := 11) (ty := .int) (x := (nI (xb_n h b3))) hx hb 9 2 hts fin_Exact t_Exact t_Exact_ok n_Exact hown hR hS hk1 (by decide) rfl (by decide) rfl (hts _ m_2f5dbefd) (fun _ h9 => h9) rfl (by decide +kernel) rfl rfl (xb_d D_Exact_clear 18 rfl) (fun H locs hR hS => ?_)
      obtain ⟨h5, eh5⟩ : ∃ x : xb_H, x = xb_I h x0 2 (nI (xb_n h b3)) := ⟨_, rfl⟩
      rw [← eh5] at hR
      have hw := hw h5 eh5
      have hE : xb_ext h0 h5 := by rw [eh5]; exact hE
      refine lv_aload_n hx hb (xb_d D_Exact_clear 19 rfl) rfl (lv_at hl 0 rfl) ?_
      refine lv_iconst (v := 0) hx hb (xb_d D_Exact_clear 20 rfl) (by decide) ?_
      have hk1 : xb_k h5 x0 = 10 := by rw [eh5]; exact hk1
      refine xb_putI (C := R_Exact) (T := F_Exact) (N := 11) (ty := .int) (x := 0) hx hb 9 3 hts fin_Exact t_Exact t_Exact_ok n_Exact hown hR hS hk1 (by decide) rfl (by decide) rfl (hts _ m_ee80a7fc) (fun _ h9 => h9) rfl (by decide +kernel) rfl rfl (xb_d D_Exact_clear 21 rfl) (fun H locs hR hS => ?_)
      obtain ⟨h6, eh6⟩ : ∃ x : xb_H, x = xb_I h5 x0 3 0 := ⟨_, rfl⟩
      rw [← eh6] at hR
      have hw := hw h6 eh6
      have hE : xb_ext h0 h6 := by rw [eh6]; exact hE
      refine lv_aload_n hx hb (xb_d D_Exact_clear 22 rfl) rfl (lv_at hl 0 rfl) ?_
      refine lv_iconst (v := 0) hx hb (xb_d D_Exact_clear 23 rfl) (by decide) ?_
      have hk1 : xb_k h6 x0 = 10 := by rw [eh6]; exact hk1
      refine xb_putI (C := R_Exact) (T := F_Exact) (N := 11) (ty := .boolean) (x := 0) hx hb 9 4 hts fin_Exact t_Exact t_Exact_ok n_Exact hown hR hS hk1 (by decide) rfl (by decide) rfl (hts _ m_5c37ff4e) (fun _ h9 => h9) rfl (by decide +kernel) (by decide) (by decide) (xb_d D_Exact_clear 24 rfl) (fun H locs hR hS => ?_)
      obtain ⟨h7, eh7⟩ : ∃ x : xb_H, x = xb_I h6 x0 4 0 := ⟨_, rfl⟩
      rw [← eh7] at hR
      have hw := hw h7 eh7
      have hE : xb_ext h0 h7 := by rw [eh7]; exact hE
      exact xb_vret 0 0 hx hb hr hlocks (show k + 0 ≤ MC by omega) (show n + 0 ≤ MS by omega) hE hR hS (xb_d D_Exact_clear 25 rfl) hw
    · have hw := hw.2 hc2
      refine lv_aload_n hx hb (xb_d D_Exact_clear 7 rfl) rfl (lv_at hl 0 rfl) ?_
      refine xb_getP (C := R_Exact) (T := F_Exact) (N := 11) hx hb 9 1 hts fin_Exact hown hR hk1 (by decide) rfl (by decide) rfl (hts _ m_3ef37fb8) (fun _ h9 => h9) (xb_d D_Exact_clear 8 rfl) ?_
      obtain ⟨b8, eb8, hw⟩ := hw
      refine xb_some eb8 ?_
      refine lv_iload_n hx hb (xb_d D_Exact_clear 9 rfl) rfl (lv_at hl 1 rfl) ?_
      refine lv_iconst (v := 0) hx hb (xb_d D_Exact_clear 10 rfl) (by decide) ?_
      obtain ⟨hk9, hw⟩ := hw
      obtain ⟨hi10, hw⟩ := hw
      refine xb_bast hx hb hR hS hk9 hi10 (xb_d D_Exact_clear 11 rfl) (fun H locs hR hS => ?_)
      obtain ⟨h11, eh11⟩ : ∃ x : xb_H, x = xb_I h b8 (Int32.toNatClampNeg x1) (vp_nar .byte 0) := ⟨_, rfl⟩
      rw [← eh11] at hR
      have hw := hw h11 eh11
      have hE : xb_ext h0 h11 := by rw [eh11]; exact hE
      refine lv_iinc (v := (x1 + 1)) (k := 1) hx hb (xb_d D_Exact_clear 12 rfl) hl rfl (by first | rfl | decide) (by decide) rfl (fun ls hl => ?_)
      have hl : lv_has ls 2 [(1, .int (x1 + 1)), (0, .ref x0)] := hl
      refine lv_goto (tgt := 5) hx hb (xb_d D_Exact_clear 13 rfl) rfl ?_
      exact ih x0 (x1 + 1) h11 hw p e s m args below meth c hC H locs ls k n hE (lv_sub hl [1, 0] rfl) hR hS (by omega) (by omega)

set_option maxHeartbeats 4000000 in
set_option maxRecDepth 100000 in
theorem ok_Exact_clear (l : Launch) (hfl : l.flags = pinnedFlags ++ [noTraceFlag]) (D : va_G) (A : Nat → Prop) (σ : Nat) (x0 : Nat) (h : xb_H) (Qr : xb_H → Prop) (hw : w_Exact_clear x0 h Qr) : xb_Met l y_Exact_clear [.code y_Exact_clear b_Exact_clear 2 none] (xb_rm 2 0 0) (xb_Pc D A σ h [.ref x0]) (xb_Qc D A h 0 0 (fun v h _ _ => v = none ∧ Qr h) (fun _ _ _ _ => False)) A := by
  refine xb_ofAm (cc := b_Exact_clear) (by decide) (Nat.le_of_ble_eq_true rfl) ?_
  unfold w_Exact_clear at hw
  show xb_am l D A σ 2 0 0 h (fun v h _ _ => v = none ∧ Qr h) (fun _ _ _ _ => False) y_Exact_clear.cls y_Exact_clear.name b_Exact_clear 2 ([] : List ExceptionTableEntry) none 0 [(0, .ref x0)] [] h 0 0
  obtain ⟨MC, hMC⟩ : ∃ x, x = 0 := ⟨_, rfl⟩
  obtain ⟨MS, hMS⟩ : ∃ x, x = 0 := ⟨_, rfl⟩
  rw [show xb_am l D A σ 2 0 0 = xb_am l D A σ 2 MC MS by rw [hMC, hMS]]
  obtain ⟨h0, hh0⟩ : ∃ x, x = h := ⟨_, rfl⟩
  rw [show xb_am l D A σ 2 MC MS h = xb_am l D A σ 2 MC MS h0 by rw [hh0]]
  intro p e s m args below meth c hC H locs ls k n hE hl hR hS hk hn
  obtain ⟨hx, hb, hown, hlocks, htab, hml, hr, hB, hA, hnm⟩ := id hC
  have hts := hB.1.1.at args
  refine lv_aload_n hx hb (xb_d D_Exact_clear 0 rfl) rfl (lv_at hl 0 rfl) ?_
  obtain ⟨hk1, hw⟩ := hw
  refine xb_getI (C := R_Exact) (T := F_Exact) (N := 11) hx hb 9 2 hts fin_Exact hown hR hk1 (by decide) rfl (by decide) rfl (hts _ m_2f5dbefd) (fun _ h9 => h9) (xb_d D_Exact_clear 1 rfl) ?_
  obtain ⟨v2, ev2⟩ : ∃ x : Int32, x = (xb_i h x0 2) := ⟨_, rfl⟩
  have hw := hw v2 ev2
  refine xt_numi (y := v2) ev2.symm ?_
  refine lv_istore_n hx hb (xb_d D_Exact_clear 2 rfl) rfl hl (by decide) rfl (fun ls hl => ?_)
  have hl : lv_has ls 2 [(1, .int v2), (0, .ref x0)] := hl
  obtain ⟨n8, hw⟩ := hw
  exact am_Exact_clear_L5 l hfl D A σ MC MS h0 Qr n8 x0 v2 h hw p e s m args below meth c hC H locs ls k n hE (lv_sub hl [1, 0] rfl) hR hS (by omega) (by omega)

