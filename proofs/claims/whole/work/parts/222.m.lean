theorem m_75691c4a : (.methodLink "StackHostModel" 307 y_M_keepTape : Cond) ∈ xt_tbl := xt_in (xt_t10 (List.mem_of_getElem? (i := 198) (by decide +kernel))) (by decide +kernel)
theorem m_ab8b88b5 : (.instanceMethod y_M_keepTape : Cond) ∈ xt_tbl := xt_in (xt_t10 (List.mem_of_getElem? (i := 200) (by decide +kernel))) (by decide +kernel)
theorem m_465bbb27 : (.selects "StackHostModel" y_M_keepTape y_M_keepTape : Cond) ∈ xt_tbl := xt_in (xt_v9 (q := (⟨"StackHostModel", "keepTape", "()I"⟩, 97)) (List.mem_of_getElem? (i := 0) (by decide +kernel))) (by decide +kernel)
theorem m_0e3942d4 : (.code y_M_keepTape b_M_keepTape 2 (some .int) : Cond) ∈ xt_tbl := xt_in (xt_t10 (List.mem_of_getElem? (i := 201) (by decide +kernel))) (by decide +kernel)
theorem nm_M_keepTape : xt_nm y_M_keepTape 0 := ⟨by decide +kernel, by decide +kernel⟩
set_option maxRecDepth 100000 in
def T_M_name1 : List (Nat × Instr × Nat) := [(0, .aload_n 0, 1), (1, .aload_n 0, 1), (2, .iload_n 1, 1), (3, .invokevirtual 592, 3), (6, .ifCond .eq 7, 3), (9, .iconst 0, 1), (10, .goto 4, 3), (13, .iconst 1, 1), (14, .putfield 189, 3), (17, .aload_n 0, 1), (18, .getfield 189, 3), (21, .ifCond .ne 49, 3), (24, .aload_n 0, 1), (25, .getfield 86, 3), (28, .aload_n 0, 1), (29, .getfield 493, 3), (32, .aload_n 0, 1), (33, .getfield 265, 3), (36, .iastore, 1), (37, .aload_n 0, 1), (38, .getfield 83, 3), (41, .aload_n 0, 1), (42, .getfield 493, 3), (45, .aload_n 0, 1), (46, .invokevirtual 307, 3), (49, .iastore, 1), (50, .aload_n 0, 1), (51, .getfield 89, 3), (54, .aload_n 0, 1), (55, .getfield 493, 3), (58, .iload_n 1, 1), (59, .iastore, 1), (60, .aload_n 0, 1), (61, .dup, 1), (62, .getfield 493, 3), (65, .iconst 1, 1), (66, .iadd, 1), (67, .putfield 493, 3), (70, .return_, 1)]
theorem D_M_name1 : ∀ q ∈ T_M_name1, decode b_M_name1 q.1 = .ok (q.2.1, q.2.2) := by decide +kernel

set_option maxHeartbeats 4000000 in
set_option maxRecDepth 100000 in
theorem am_M_name1_L70 (l : Launch) (hfl : l.flags = pinnedFlags ++ [noTraceFlag]) (D : va_G) (A : Nat → Prop) (σ MC MS : Nat) (h0 : xb_H) (Qr : xb_H → Nat → Nat → Prop) (h : xb_H) (bc : Nat) (bs : Nat) (hw : w_M_name1_L70 Qr h bc bs) : xb_am l D A σ 4 MC MS h0 (fun v h bc bs => v = none ∧ Qr h bc bs) (fun _ _ _ _ => False) y_M_name1.cls y_M_name1.name b_M_name1 2 ([] : List ExceptionTableEntry) none 70 [] [] h bc bs := by
  unfold w_M_name1_L70 at hw
  intro p e s m args below meth c hC H locs ls k n hE hl hR hS hk hn
  obtain ⟨hx, hb, hown, hlocks, htab, hml, hr, hB, hA, hnm⟩ := id hC
  have hts := hB.1.1.at args
  exact xb_vret bc bs hx hb hr hlocks (show k + bc ≤ MC by omega) (show n + bs ≤ MS by omega) hE hR hS (xb_d D_M_name1 38 rfl) hw

set_option maxHeartbeats 4000000 in
set_option maxRecDepth 100000 in
theorem am_M_name1_L14 (l : Launch) (hfl : l.flags = pinnedFlags ++ [noTraceFlag]) (D : va_G) (A : Nat → Prop) (σ MC MS : Nat) (h0 : xb_H) (Qr : xb_H → Nat → Nat → Prop) (x0 : Nat) (x1 : Int32) (y0 : Int32) (y1 : Nat) (h : xb_H) (bc : Nat) (bs : Nat) (hw : w_M_name1_L14 Qr x0 x1 y0 y1 h bc bs) : xb_am l D A σ 4 MC MS h0 (fun v h bc bs => v = none ∧ Qr h bc bs) (fun _ _ _ _ => False) y_M_name1.cls y_M_name1.name b_M_name1 2 ([] : List ExceptionTableEntry) none 14 [(0, .ref x0), (1, .int x1)] [.int y0, .ref y1] h bc bs := by
  unfold w_M_name1_L14 at hw
  intro p e s m args below meth c hC H locs ls k n hE hl hR hS hk hn
  obtain ⟨hx, hb, hown, hlocks, htab, hml, hr, hB, hA, hnm⟩ := id hC
  have hts := hB.1.1.at args
  obtain ⟨hk1, hw⟩ := hw
  refine xb_putI (C := R_M) (T := F_M) (N := 97) (ty := .int) (x := y0) hx hb 8 0 hts fin_M t_M t_M_ok n_M hown hR hS hk1 (by decide) rfl (by decide) rfl (hts _ m_afabd6a0) (fun _ h9 => h9) rfl (by decide +kernel) rfl rfl (xb_d D_M_name1 8 rfl) (fun H locs hR hS => ?_)
  obtain ⟨h2, eh2⟩ : ∃ x : xb_H, x = xb_I h y1 0 y0 := ⟨_, rfl⟩
  rw [← eh2] at hR
  have hw := hw h2 eh2
  have hE : xb_ext h0 h2 := by rw [eh2]; exact hE
  refine lv_aload_n hx hb (xb_d D_M_name1 9 rfl) rfl (lv_at hl 0 rfl) ?_
  obtain ⟨hk3, hw⟩ := hw
  refine xb_getI (C := R_M) (T := F_M) (N := 97) hx hb 8 0 hts fin_M hown hR hk3 (by decide) rfl (by decide) rfl (hts _ m_afabd6a0) (fun _ h9 => h9) (xb_d D_M_name1 10 rfl) ?_
  refine lv_if_ne (tgt := 70) hx hb (xb_d D_M_name1 11 rfl) rfl (fun hc4 => ?_) (fun hc4 => ?_)
  · have hw := hw.1 hc4
    exact am_M_name1_L70 l hfl D A σ MC MS h0 Qr h2 bc bs hw p e s m args below meth c hC H locs ls k n hE (lv_sub hl [] rfl) hR hS (by omega) (by omega)
  · have hw := hw.2 hc4
    refine lv_aload_n hx hb (xb_d D_M_name1 12 rfl) rfl (lv_at hl 0 rfl) ?_
    refine xb_getP (C := R_M) (T := F_M) (N := 97) hx hb 8 40 hts fin_M hown hR hk3 (by decide) rfl (by decide) rfl (hts _ m_48bc85e4) (fun _ h9 => h9) (xb_d D_M_name1 13 rfl) ?_
    obtain ⟨b5, eb5, hw⟩ := hw
    refine xb_some eb5 ?_
    refine lv_aload_n hx hb (xb_d D_M_name1 14 rfl) rfl (lv_at hl 0 rfl) ?_
    refine xb_getI (C := R_M) (T := F_M) (N := 97) hx hb 8 42 hts fin_M hown hR hk3 (by decide) rfl (by decide) rfl (hts _ m_9b569c31) (fun _ h9 => h9) (xb_d D_M_name1 15 rfl) ?_
    refine lv_aload_n hx hb (xb_d D_M_name1 16 rfl) rfl (lv_at hl 0 rfl) ?_
    refine xb_getI (C := R_M) (T := F_M) (N := 97) hx hb 8 2 hts fin_M hown hR hk3 (by decide) rfl (by decide) rfl (hts _ m_7895fa0a) (fun _ h9 => h9) (xb_d D_M_name1 17 rfl) ?_
    obtain ⟨hk6, hw⟩ := hw
    obtain ⟨hi7, hw⟩ := hw
    refine xb_iast hx hb hR hS hk6 hi7 (xb_d D_M_name1 18 rfl) (fun H locs hR hS => ?_)
    obtain ⟨h8, eh8⟩ : ∃ x : xb_H, x = xb_I h2 b5 (Int32.toNatClampNeg (xb_i h2 x0 42)) (xb_i h2 x0 2) := ⟨_, rfl⟩
    rw [← eh8] at hR
    have hw := hw h8 eh8
    have hE : xb_ext h0 h8 := by rw [eh8]; exact hE
    refine lv_aload_n hx hb (xb_d D_M_name1 19 rfl) rfl (lv_at hl 0 rfl) ?_
    have hk3 : xb_k h8 x0 = 9 := by rw [eh8]; exact hk3
    refine xb_getP (C := R_M) (T := F_M) (N := 97) hx hb 8 39 hts fin_M hown hR hk3 (by decide) rfl (by decide) rfl (hts _ m_c7ddbadb) (fun _ h9 => h9) (xb_d D_M_name1 20 rfl) ?_
    obtain ⟨b9, eb9, hw⟩ := hw
    refine xb_some eb9 ?_
    refine lv_aload_n hx hb (xb_d D_M_name1 21 rfl) rfl (lv_at hl 0 rfl) ?_
    refine xb_getI (C := R_M) (T := F_M) (N := 97) hx hb 8 42 hts fin_M hown hR hk3 (by decide) rfl (by decide) rfl (hts _ m_9b569c31) (fun _ h9 => h9) (xb_d D_M_name1 22 rfl) ?_
    refine lv_aload_n hx hb (xb_d D_M_name1 23 rfl) rfl (lv_at hl 0 rfl) ?_
    refine xb_call (D := D) (A := A) (σ := σ) (h := h8) (d := 3) (mc := bc) (ms := bs) (maxL := 2) (rest := [.int (xb_i h8 x0 42), .ref b9]) (av := [.ref x0]) (fun T hT X => by obtain ⟨cb9, ra9, rb9, rc9⟩ := xb_recv (ci := 8) hR rfl hk3 (by decide); exact xt_invV X hx hown (hts _ m_75691c4a) (hts _ m_ab8b88b5) (hts _ m_465bbb27) (xt_sigOf (hts _ m_0e3942d4)) nm_M_keepTape (by rw [hT]; exact ra9) rb9 rc9 (g := F0 m 46 ls [.ref x0, .int (xb_i h8 x0 42), .ref b9]) rfl (argsL := []) (rest := [.int (xb_i h8 x0 42), .ref b9]) rfl rfl (by rw [hb]; exact (xb_d D_M_name1 24 rfl))) (ok_M_keepTape l hfl D A σ x0 h8 bc bs _ hw) (hml.trans hl.1.symm) (by rw [hb]; exact (xb_d D_M_name1 24 rfl)) (Nat.le_of_ble_eq_true rfl) (Nat.le_of_ble_eq_true rfl) (Nat.le_of_ble_eq_true rfl) (show k + bc ≤ MC by omega) (show n + bs ≤ MS by omega) (xt_w1 hB.1 m_0e3942d4) (xt_cdOf hB.1 m_0e3942d4) (hts _ m_d5ed7bed) hB hR hS hA (fun vv h10 bc11 bs11 kk11 nn11 H locs hk11 hn11 hq hEh10 hR hS => ?_) (fun XX ax h10 bc11 bs11 kk11 nn11 H locs hk11 hn11 hq hEh10 hex hR hS => ?_)
    · obtain ⟨r11, rfl, hw⟩ := hq
      have hw := hw hEh10
      have hE := hE.tr hEh10
      refine W.eq (g2 := F0 m 49 ls [.int r11, .int (xb_i h8 x0 42), .ref b9]) rfl ?_
      obtain ⟨hk12, hw⟩ := hw
      obtain ⟨hi13, hw⟩ := hw
      refine xb_iast hx hb hR hS hk12 hi13 (xb_d D_M_name1 25 rfl) (fun H locs hR hS => ?_)
      obtain ⟨h14, eh14⟩ : ∃ x : xb_H, x = xb_I h10 b9 (Int32.toNatClampNeg (xb_i h8 x0 42)) r11 := ⟨_, rfl⟩
      rw [← eh14] at hR
      have hw := hw h14 eh14
      have hE : xb_ext h0 h14 := by rw [eh14]; exact hE
      refine lv_aload_n hx hb (xb_d D_M_name1 26 rfl) rfl (lv_at hl 0 rfl) ?_
      have hk3 : xb_k h10 x0 = 9 := hEh10.k hk3
      have hk3 : xb_k h14 x0 = 9 := by rw [eh14]; exact hk3
      refine xb_getP (C := R_M) (T := F_M) (N := 97) hx hb 8 41 hts fin_M hown hR hk3 (by decide) rfl (by decide) rfl (hts _ m_b88bfd37) (fun _ h9 => h9) (xb_d D_M_name1 27 rfl) ?_
      obtain ⟨b15, eb15, hw⟩ := hw
      refine xb_some eb15 ?_
      refine lv_aload_n hx hb (xb_d D_M_name1 28 rfl) rfl (lv_at hl 0 rfl) ?_
      refine xb_getI (C := R_M) (T := F_M) (N := 97) hx hb 8 42 hts fin_M hown hR hk3 (by decide) rfl (by decide) rfl (hts _ m_9b569c31) (fun _ h9 => h9) (xb_d D_M_name1 29 rfl) ?_
      refine lv_iload_n hx hb (xb_d D_M_name1 30 rfl) rfl (lv_at hl 1 rfl) ?_
      obtain ⟨hk16, hw⟩ := hw
      obtain ⟨hi17, hw⟩ := hw
      refine xb_iast hx hb hR hS hk16 hi17 (xb_d D_M_name1 31 rfl) (fun H locs hR hS => ?_)
      obtain ⟨h18, eh18⟩ : ∃ x : xb_H, x = xb_I h14 b15 (Int32.toNatClampNeg (xb_i h14 x0 42)) x1 := ⟨_, rfl⟩
      rw [← eh18] at hR
      have hw := hw h18 eh18
      have hE : xb_ext h0 h18 := by rw [eh18]; exact hE
      refine lv_aload_n hx hb (xb_d D_M_name1 32 rfl) rfl (lv_at hl 0 rfl) ?_
      refine lv_dup hx hb (xb_d D_M_name1 33 rfl) rfl ?_
      have hk3 : xb_k h18 x0 = 9 := by rw [eh18]; exact hk3
      refine xb_getI (C := R_M) (T := F_M) (N := 97) hx hb 8 42 hts fin_M hown hR hk3 (by decide) rfl (by decide) rfl (hts _ m_9b569c31) (fun _ h9 => h9) (xb_d D_M_name1 34 rfl) ?_
      refine lv_iconst (v := 1) hx hb (xb_d D_M_name1 35 rfl) (by decide) ?_
      refine lv_iadd hx hb (xb_d D_M_name1 36 rfl) ?_
      refine xb_putI (C := R_M) (T := F_M) (N := 97) (ty := .int) (x := ((xb_i h18 x0 42) + 1)) hx hb 8 42 hts fin_M t_M t_M_ok n_M hown hR hS hk3 (by decide) rfl (by decide) rfl (hts _ m_9b569c31) (fun _ h9 => h9) rfl (by decide +kernel) rfl rfl (xb_d D_M_name1 37 rfl) (fun H locs hR hS => ?_)
      obtain ⟨h19, eh19⟩ : ∃ x : xb_H, x = xb_I h18 x0 42 ((xb_i h18 x0 42) + 1) := ⟨_, rfl⟩
      rw [← eh19] at hR
      have hw := hw h19 eh19
      have hE : xb_ext h0 h19 := by rw [eh19]; exact hE
      exact am_M_name1_L70 l hfl D A σ MC MS h0 Qr h19 bc11 bs11 hw p e s m args below meth c hC H locs ls (k + kk11) (n + nn11) hE (lv_sub hl [] rfl) hR hS (by omega) (by omega)
    · exact False.elim hq

set_option maxHeartbeats 4000000 in
set_option maxRecDepth 100000 in
theorem ok_M_name1 (l : Launch) (hfl : l.flags = pinnedFlags ++ [noTraceFlag]) (D : va_G) (A : Nat → Prop) (σ : Nat) (x0 : Nat) (x1 : Int32) (h : xb_H) (bc : Nat) (bs : Nat) (Qr : xb_H → Nat → Nat → Prop) (hw : w_M_name1 x0 x1 h bc bs Qr) : xb_Met l y_M_name1 [.code y_M_name1 b_M_name1 2 none] (xb_rm 4 bc bs) (xb_Pc D A σ h [.ref x0, .int x1]) (xb_Qc D A h bc bs (fun v h bc bs => v = none ∧ Qr h bc bs) (fun _ _ _ _ => False)) A := by
  refine xb_ofAm (cc := b_M_name1) (by decide) (Nat.le_of_ble_eq_true rfl) ?_
  unfold w_M_name1 at hw
  show xb_am l D A σ 4 bc bs h (fun v h bc bs => v = none ∧ Qr h bc bs) (fun _ _ _ _ => False) y_M_name1.cls y_M_name1.name b_M_name1 2 ([] : List ExceptionTableEntry) none 0 [(0, .ref x0), (1, .int x1)] [] h bc bs
  obtain ⟨MC, hMC⟩ : ∃ x, x = bc := ⟨_, rfl⟩
  obtain ⟨MS, hMS⟩ : ∃ x, x = bs := ⟨_, rfl⟩
  rw [show xb_am l D A σ 4 bc bs = xb_am l D A σ 4 MC MS by rw [hMC, hMS]]
  obtain ⟨h0, hh0⟩ : ∃ x, x = h := ⟨_, rfl⟩
  rw [show xb_am l D A σ 4 MC MS h = xb_am l D A σ 4 MC MS h0 by rw [hh0]]
  intro p e s m args below meth c hC H locs ls k n hE hl hR hS hk hn
  obtain ⟨hx, hb, hown, hlocks, htab, hml, hr, hB, hA, hnm⟩ := id hC
  have hts := hB.1.1.at args
  refine lv_aload_n hx hb (xb_d D_M_name1 0 rfl) rfl (lv_at hl 0 rfl) ?_
  refine lv_aload_n hx hb (xb_d D_M_name1 1 rfl) rfl (lv_at hl 0 rfl) ?_
  refine lv_iload_n hx hb (xb_d D_M_name1 2 rfl) rfl (lv_at hl 1 rfl) ?_
  obtain ⟨hk1, hw⟩ := hw
  refine xb_call0 (D := D) (A := A) (σ := σ) (h := h) (d := 2) (maxL := 2) (rest := [.ref x0]) (av := [.ref x0, .int x1]) (fun T hT X => by obtain ⟨cb9, ra9, rb9, rc9⟩ := xb_recv (ci := 8) hR rfl hk1 (by decide); exact xt_invV X hx hown (hts _ m_ec7c79cd) (hts _ m_cefd1701) (hts _ m_d2ca0421) (xt_sigOf (hts _ m_5aaa69eb)) nm_M_isInstance (by rw [hT]; exact ra9) rb9 rc9 (g := F0 m 3 ls [.int x1, .ref x0, .ref x0]) rfl (argsL := [.int x1]) (rest := [.ref x0]) rfl rfl (by rw [hb]; exact (xb_d D_M_name1 3 rfl))) (ok_M_isInstance l hfl D A σ x0 x1 h _ hw) (hml.trans hl.1.symm) (by rw [hb]; exact (xb_d D_M_name1 3 rfl)) (Nat.le_of_ble_eq_true rfl) (Nat.le_of_ble_eq_true rfl) (Nat.le_of_ble_eq_true rfl) (show k ≤ MC by omega) (show n ≤ MS by omega) (xt_w1 hB.1 m_5aaa69eb) (xt_cdOf hB.1 m_5aaa69eb) (hts _ m_d5ed7bed) hB hR hS hA (fun vv h2 H locs hq hEh2 hR hS => ?_)
  obtain ⟨r3, rfl, hw⟩ := hq
  have hw := hw hEh2
  have hE := hE.tr hEh2
  refine W.eq (g2 := F0 m 6 ls [.int r3, .ref x0]) rfl ?_
  refine lv_if_eq (tgt := 13) hx hb (xb_d D_M_name1 4 rfl) rfl (fun hc4 => ?_) (fun hc4 => ?_)
  · have hw := hw.1 hc4
    refine lv_iconst (v := 1) hx hb (xb_d D_M_name1 7 rfl) (by decide) ?_
    exact am_M_name1_L14 l hfl D A σ MC MS h0 Qr x0 x1 1 x0 h2 bc bs hw p e s m args below meth c hC H locs ls k n hE (lv_sub hl [0, 1] rfl) hR hS (by omega) (by omega)
  · have hw := hw.2 hc4
    refine lv_iconst (v := 0) hx hb (xb_d D_M_name1 5 rfl) (by decide) ?_
    refine lv_goto (tgt := 14) hx hb (xb_d D_M_name1 6 rfl) rfl ?_
    exact am_M_name1_L14 l hfl D A σ MC MS h0 Qr x0 x1 0 x0 h2 bc bs hw p e s m args below meth c hC H locs ls k n hE (lv_sub hl [0, 1] rfl) hR hS (by omega) (by omega)

set_option maxRecDepth 100000 in
def T_M_signed : List (Nat × Instr × Nat) := [(0, .lconst 0, 1), (1, .lstore_n 2, 1), (2, .iload_n 1, 1), (3, .bipush 32, 2), (5, .if_icmp .ne 7, 3), (8, .iconst 4, 1), (9, .goto 5, 3), (12, .bipush 9, 2), (14, .istore 4, 2), (16, .iconst 0, 1), (17, .istore 5, 2), (19, .iload 5, 2), (21, .iload 4, 2), (23, .if_icmp .gt 186, 3), (26, .aload_n 0, 1), (27, .invokevirtual 212, 3), (30, .istore 6, 2), (32, .iload 5, 2), (34, .iload 4, 2), (36, .if_icmp .lt 46, 3), (39, .iload_n 1, 1), (40, .bipush 32, 2), (42, .if_icmp .ne 28, 3), (45, .iload 6, 2), (47, .bipush 8, 2), (49, .if_icmp .lt 33, 3), (52, .iload 6, 2), (54, .bipush 120, 2), (56, .if_icmp .lt 30, 3), (59, .iload 6, 2), (61, .sipush 128, 3), (64, .if_icmp .ge 22, 3), (67, .goto 15, 3), (70, .iload 6, 2), (72, .ifCond .eq 10, 3), (75, .iload 6, 2), (77, .bipush 127, 2), (79, .if_icmp .ne 7, 3), (82, .iconst 1, 1), (83, .goto 4, 3), (86, .iconst 0, 1), (87, .istore 7, 2), (89, .aload_n 0, 1), (90, .getfield 193, 3), (93, .ifCond .ne 19, 3), (96, .iload 7, 2), (98, .ifCond .ne 14, 3), (101, .aload_n 0, 1), (102, .iconst 3, 1), (103, .aload_n 0, 1), (104, .getfield 202, 3), (107, .iconst 1, 1), (108, .isub, 1), (109, .invokevirtual 208, 3), (112, .aload_n 0, 1), (113, .getfield 193, 3), (116, .ifCond .eq 5, 3), (119, .lconst 0, 1), (120, .lreturn, 1), (121, .lload_n 2, 1), (122, .iload 6, 2), (124, .bipush 127, 2), (126, .iand, 1), (127, .i2l, 1), (128, .bipush 7, 2), (130, .iload 5, 2), (132, .imul, 1), (133, .lshl, 1), (134, .lor, 1), (135, .lstore_n 2, 1), (136, .iload 6, 2), (138, .sipush 128, 3), (141, .if_icmp .ge 62, 3), (144, .iload 5, 2), (146, .iload 4, 2), (148, .if_icmp .ge 15, 3), (151, .iload 6, 2), (153, .bipush 64, 2), (155, .iand, 1), (156, .ifCond .eq 7, 3), (159, .iconst 1, 1), (160, .goto 4, 3), (163, .iconst 0, 1), (164, .istore 8, 2), (166, .iload 8, 2), (168, .ifCond .eq 19, 3), (171, .lload_n 2, 1), (172, .ldc2_w 216, 3), (175, .bipush 7, 2), (177, .iload 5, 2), (179, .iconst 1, 1), (180, .iadd, 1), (181, .imul, 1), (182, .lshl, 1), (183, .lor, 1), (184, .goto 4, 3), (187, .lload_n 2, 1), (188, .lstore_n 2, 1), (189, .iload_n 1, 1), (190, .bipush 32, 2), (192, .if_icmp .ne 9, 3), (195, .lload_n 2, 1), (196, .l2i, 1), (197, .i2l, 1), (198, .goto 4, 3), (201, .lload_n 2, 1), (202, .lreturn, 1), (203, .iinc 5 1, 3), (206, .goto (-187), 3), (209, .lload_n 2, 1), (210, .lreturn, 1)]
theorem D_M_signed : ∀ q ∈ T_M_signed, decode b_M_signed q.1 = .ok (q.2.1, q.2.2) := by decide +kernel

set_option maxHeartbeats 4000000 in
set_option maxRecDepth 100000 in
theorem am_M_signed_L202 (l : Launch) (hfl : l.flags = pinnedFlags ++ [noTraceFlag]) (D : va_G) (A : Nat → Prop) (σ MC MS : Nat) (h0 : xb_H) (Qr : Int64 → xb_H → Prop) (K19 : Nat → Int32 → Int64 → Int32 → Int32 → xb_H → Prop) (hK19 : ∀ (x0 : Nat) (x1 : Int32) (x2 : Int64) (x4 : Int32) (x5 : Int32) (h : xb_H), K19 x0 x1 x2 x4 x5 h → xb_am l D A σ 4 MC MS h0 (fun v h _ _ => ∃ r, v = some (.long r) ∧ Qr r h) (fun _ _ _ _ => False) y_M_signed.cls y_M_signed.name b_M_signed 9 ([] : List ExceptionTableEntry) (some .long) 19 [(0, .ref x0), (1, .int x1), (2, .long x2), (4, .int x4), (5, .int x5)] [] h 0 0) (y0 : Int64) (h : xb_H) (hw : w_M_signed_L202 K19 Qr y0 h) : xb_am l D A σ 4 MC MS h0 (fun v h _ _ => ∃ r, v = some (.long r) ∧ Qr r h) (fun _ _ _ _ => False) y_M_signed.cls y_M_signed.name b_M_signed 9 ([] : List ExceptionTableEntry) (some .long) 202 [] [.long y0] h 0 0 := by
  unfold w_M_signed_L202 at hw
  intro p e s m args below meth c hC H locs ls k n hE hl hR hS hk hn
  obtain ⟨hx, hb, hown, hlocks, htab, hml, hr, hB, hA, hnm⟩ := id hC
  have hts := hB.1.1.at args
  exact xb_lret 0 0 hx hb hr hlocks (show k + 0 ≤ MC by omega) (show n + 0 ≤ MS by omega) hE hR hS (xb_d D_M_signed 106 rfl) hw

set_option maxHeartbeats 4000000 in
set_option maxRecDepth 100000 in
theorem am_M_signed_L188 (l : Launch) (hfl : l.flags = pinnedFlags ++ [noTraceFlag]) (D : va_G) (A : Nat → Prop) (σ MC MS : Nat) (h0 : xb_H) (Qr : Int64 → xb_H → Prop) (K19 : Nat → Int32 → Int64 → Int32 → Int32 → xb_H → Prop) (hK19 : ∀ (x0 : Nat) (x1 : Int32) (x2 : Int64) (x4 : Int32) (x5 : Int32) (h : xb_H), K19 x0 x1 x2 x4 x5 h → xb_am l D A σ 4 MC MS h0 (fun v h _ _ => ∃ r, v = some (.long r) ∧ Qr r h) (fun _ _ _ _ => False) y_M_signed.cls y_M_signed.name b_M_signed 9 ([] : List ExceptionTableEntry) (some .long) 19 [(0, .ref x0), (1, .int x1), (2, .long x2), (4, .int x4), (5, .int x5)] [] h 0 0) (x1 : Int32) (y0 : Int64) (h : xb_H) (hw : w_M_signed_L188 K19 Qr x1 y0 h) : xb_am l D A σ 4 MC MS h0 (fun v h _ _ => ∃ r, v = some (.long r) ∧ Qr r h) (fun _ _ _ _ => False) y_M_signed.cls y_M_signed.name b_M_signed 9 ([] : List ExceptionTableEntry) (some .long) 188 [(1, .int x1)] [.long y0] h 0 0 := by
  unfold w_M_signed_L188 at hw
  intro p e s m args below meth c hC H locs ls k n hE hl hR hS hk hn
  obtain ⟨hx, hb, hown, hlocks, htab, hml, hr, hB, hA, hnm⟩ := id hC
  have hts := hB.1.1.at args
  refine lv_lstore_n hx hb (xb_d D_M_signed 97 rfl) rfl hl (by decide) rfl (fun ls hl => ?_)
  have hl : lv_has ls 9 [(2, .long y0), (1, .int x1)] := hl
  refine lv_iload_n hx hb (xb_d D_M_signed 98 rfl) rfl (lv_at hl 1 rfl) ?_
  refine lv_bipush (v := 32) hx hb (xb_d D_M_signed 99 rfl) (by decide) ?_
  refine lv_icmp_ne (tgt := 201) hx hb (xb_d D_M_signed 100 rfl) rfl (fun hc1 => ?_) (fun hc1 => ?_)
  · have hw := hw.1 hc1
    refine lv_lload_n hx hb (xb_d D_M_signed 105 rfl) rfl (lv_at hl 0 rfl) ?_
    exact am_M_signed_L202 l hfl D A σ MC MS h0 Qr K19 hK19 y0 h hw p e s m args below meth c hC H locs ls k n hE (lv_sub hl [] rfl) hR hS (by omega) (by omega)
  · have hw := hw.2 hc1
    refine lv_lload_n hx hb (xb_d D_M_signed 101 rfl) rfl (lv_at hl 0 rfl) ?_
    refine lv_l2i hx hb (xb_d D_M_signed 102 rfl) rfl ?_
    refine lv_i2l hx hb (xb_d D_M_signed 103 rfl) rfl ?_
    refine lv_goto (tgt := 202) hx hb (xb_d D_M_signed 104 rfl) rfl ?_
    exact am_M_signed_L202 l hfl D A σ MC MS h0 Qr K19 hK19 (Int32.toInt64 (Int64.toInt32 y0)) h hw p e s m args below meth c hC H locs ls k n hE (lv_sub hl [] rfl) hR hS (by omega) (by omega)

set_option maxHeartbeats 4000000 in
set_option maxRecDepth 100000 in
theorem am_M_signed_L164 (l : Launch) (hfl : l.flags = pinnedFlags ++ [noTraceFlag]) (D : va_G) (A : Nat → Prop) (σ MC MS : Nat) (h0 : xb_H) (Qr : Int64 → xb_H → Prop) (K19 : Nat → Int32 → Int64 → Int32 → Int32 → xb_H → Prop) (hK19 : ∀ (x0 : Nat) (x1 : Int32) (x2 : Int64) (x4 : Int32) (x5 : Int32) (h : xb_H), K19 x0 x1 x2 x4 x5 h → xb_am l D A σ 4 MC MS h0 (fun v h _ _ => ∃ r, v = some (.long r) ∧ Qr r h) (fun _ _ _ _ => False) y_M_signed.cls y_M_signed.name b_M_signed 9 ([] : List ExceptionTableEntry) (some .long) 19 [(0, .ref x0), (1, .int x1), (2, .long x2), (4, .int x4), (5, .int x5)] [] h 0 0) (x1 : Int32) (x2 : Int64) (x5 : Int32) (y0 : Int32) (h : xb_H) (hw : w_M_signed_L164 K19 Qr x1 x2 x5 y0 h) : xb_am l D A σ 4 MC MS h0 (fun v h _ _ => ∃ r, v = some (.long r) ∧ Qr r h) (fun _ _ _ _ => False) y_M_signed.cls y_M_signed.name b_M_signed 9 ([] : List ExceptionTableEntry) (some .long) 164 [(1, .int x1), (2, .long x2), (5, .int x5)] [.int y0] h 0 0 := by
  unfold w_M_signed_L164 at hw
  intro p e s m args below meth c hC H locs ls k n hE hl hR hS hk hn
  obtain ⟨hx, hb, hown, hlocks, htab, hml, hr, hB, hA, hnm⟩ := id hC
  have hts := hB.1.1.at args
  refine lv_istore hx hb (xb_d D_M_signed 83 rfl) hl (by decide) rfl (fun ls hl => ?_)
  have hl : lv_has ls 9 [(8, .int y0), (1, .int x1), (2, .long x2), (5, .int x5)] := hl
  refine lv_iload hx hb (xb_d D_M_signed 84 rfl) (lv_at hl 0 rfl) ?_
  refine lv_if_eq (tgt := 187) hx hb (xb_d D_M_signed 85 rfl) rfl (fun hc1 => ?_) (fun hc1 => ?_)
  · have hw := hw.1 hc1
    refine lv_lload_n hx hb (xb_d D_M_signed 96 rfl) rfl (lv_at hl 2 rfl) ?_
    exact am_M_signed_L188 l hfl D A σ MC MS h0 Qr K19 hK19 x1 x2 h hw p e s m args below meth c hC H locs ls k n hE (lv_sub hl [1] rfl) hR hS (by omega) (by omega)
  · have hw := hw.2 hc1
    refine lv_lload_n hx hb (xb_d D_M_signed 86 rfl) rfl (lv_at hl 2 rfl) ?_
    refine lv_ldc2 (v := (-1)) hx hb hown (hts _ m_a1d4f677) (xb_d D_M_signed 87 rfl) ?_
    refine lv_bipush (v := 7) hx hb (xb_d D_M_signed 88 rfl) (by decide) ?_
    refine lv_iload hx hb (xb_d D_M_signed 89 rfl) (lv_at hl 3 rfl) ?_
    refine lv_iconst (v := 1) hx hb (xb_d D_M_signed 90 rfl) (by decide) ?_
    refine lv_iadd hx hb (xb_d D_M_signed 91 rfl) ?_
    refine lv_imul hx hb (xb_d D_M_signed 92 rfl) ?_
    refine lv_lshl (v := (xb_lshl (-1) (7 * (x5 + 1)))) hx hb (xb_d D_M_signed 93 rfl) rfl ?_
    refine lv_lor hx hb (xb_d D_M_signed 94 rfl) ?_
    refine lv_goto (tgt := 188) hx hb (xb_d D_M_signed 95 rfl) rfl ?_
    exact am_M_signed_L188 l hfl D A σ MC MS h0 Qr K19 hK19 x1 (x2 ||| (xb_lshl (-1) (7 * (x5 + 1)))) h hw p e s m args below meth c hC H locs ls k n hE (lv_sub hl [1] rfl) hR hS (by omega) (by omega)

set_option maxHeartbeats 4000000 in
set_option maxRecDepth 100000 in
theorem am_M_signed_L163 (l : Launch) (hfl : l.flags = pinnedFlags ++ [noTraceFlag]) (D : va_G) (A : Nat → Prop) (σ MC MS : Nat) (h0 : xb_H) (Qr : Int64 → xb_H → Prop) (K19 : Nat → Int32 → Int64 → Int32 → Int32 → xb_H → Prop) (hK19 : ∀ (x0 : Nat) (x1 : Int32) (x2 : Int64) (x4 : Int32) (x5 : Int32) (h : xb_H), K19 x0 x1 x2 x4 x5 h → xb_am l D A σ 4 MC MS h0 (fun v h _ _ => ∃ r, v = some (.long r) ∧ Qr r h) (fun _ _ _ _ => False) y_M_signed.cls y_M_signed.name b_M_signed 9 ([] : List ExceptionTableEntry) (some .long) 19 [(0, .ref x0), (1, .int x1), (2, .long x2), (4, .int x4), (5, .int x5)] [] h 0 0) (x1 : Int32) (x2 : Int64) (x5 : Int32) (h : xb_H) (hw : w_M_signed_L163 K19 Qr x1 x2 x5 h) : xb_am l D A σ 4 MC MS h0 (fun v h _ _ => ∃ r, v = some (.long r) ∧ Qr r h) (fun _ _ _ _ => False) y_M_signed.cls y_M_signed.name b_M_signed 9 ([] : List ExceptionTableEntry) (some .long) 163 [(1, .int x1), (2, .long x2), (5, .int x5)] [] h 0 0 := by
  unfold w_M_signed_L163 at hw
  intro p e s m args below meth c hC H locs ls k n hE hl hR hS hk hn
  obtain ⟨hx, hb, hown, hlocks, htab, hml, hr, hB, hA, hnm⟩ := id hC
  have hts := hB.1.1.at args
  refine lv_iconst (v := 0) hx hb (xb_d D_M_signed 82 rfl) (by decide) ?_
  exact am_M_signed_L164 l hfl D A σ MC MS h0 Qr K19 hK19 x1 x2 x5 0 h hw p e s m args below meth c hC H locs ls k n hE (lv_sub hl [0, 1, 2] rfl) hR hS (by omega) (by omega)

set_option maxHeartbeats 4000000 in
set_option maxRecDepth 100000 in
theorem am_M_signed_L112 (l : Launch) (hfl : l.flags = pinnedFlags ++ [noTraceFlag]) (D : va_G) (A : Nat → Prop) (σ MC MS : Nat) (h0 : xb_H) (Qr : Int64 → xb_H → Prop) (K19 : Nat → Int32 → Int64 → Int32 → Int32 → xb_H → Prop) (hK19 : ∀ (x0 : Nat) (x1 : Int32) (x2 : Int64) (x4 : Int32) (x5 : Int32) (h : xb_H), K19 x0 x1 x2 x4 x5 h → xb_am l D A σ 4 MC MS h0 (fun v h _ _ => ∃ r, v = some (.long r) ∧ Qr r h) (fun _ _ _ _ => False) y_M_signed.cls y_M_signed.name b_M_signed 9 ([] : List ExceptionTableEntry) (some .long) 19 [(0, .ref x0), (1, .int x1), (2, .long x2), (4, .int x4), (5, .int x5)] [] h 0 0) (x0 : Nat) (x1 : Int32) (x2 : Int64) (x4 : Int32) (x5 : Int32) (x6 : Int32) (h : xb_H) (hw : w_M_signed_L112 K19 Qr x0 x1 x2 x4 x5 x6 h) : xb_am l D A σ 4 MC MS h0 (fun v h _ _ => ∃ r, v = some (.long r) ∧ Qr r h) (fun _ _ _ _ => False) y_M_signed.cls y_M_signed.name b_M_signed 9 ([] : List ExceptionTableEntry) (some .long) 112 [(0, .ref x0), (1, .int x1), (2, .long x2), (4, .int x4), (5, .int x5), (6, .int x6)] [] h 0 0 := by
  unfold w_M_signed_L112 at hw
  intro p e s m args below meth c hC H locs ls k n hE hl hR hS hk hn
  obtain ⟨hx, hb, hown, hlocks, htab, hml, hr, hB, hA, hnm⟩ := id hC
  have hts := hB.1.1.at args
  refine lv_aload_n hx hb (xb_d D_M_signed 54 rfl) rfl (lv_at hl 0 rfl) ?_
  obtain ⟨hk1, hw⟩ := hw
  refine xb_getI (C := R_M) (T := F_M) (N := 97) hx hb 8 17 hts fin_M hown hR hk1 (by decide) rfl (by decide) rfl (hts _ m_ff69da61) (fun _ h9 => h9) (xb_d D_M_signed 55 rfl) ?_
  refine lv_if_eq (tgt := 121) hx hb (xb_d D_M_signed 56 rfl) rfl (fun hc2 => ?_) (fun hc2 => ?_)
  · have hw := hw.1 hc2
    refine lv_lload_n hx hb (xb_d D_M_signed 59 rfl) rfl (lv_at hl 2 rfl) ?_
    refine lv_iload hx hb (xb_d D_M_signed 60 rfl) (lv_at hl 5 rfl) ?_
    refine lv_bipush (v := 127) hx hb (xb_d D_M_signed 61 rfl) (by decide) ?_
    refine lv_iand hx hb (xb_d D_M_signed 62 rfl) ?_
    refine lv_i2l hx hb (xb_d D_M_signed 63 rfl) rfl ?_
    refine lv_bipush (v := 7) hx hb (xb_d D_M_signed 64 rfl) (by decide) ?_
    refine lv_iload hx hb (xb_d D_M_signed 65 rfl) (lv_at hl 4 rfl) ?_
    refine lv_imul hx hb (xb_d D_M_signed 66 rfl) ?_
    refine lv_lshl (v := (xb_lshl (Int32.toInt64 (x6 &&& 127)) (7 * x5))) hx hb (xb_d D_M_signed 67 rfl) rfl ?_
    refine lv_lor hx hb (xb_d D_M_signed 68 rfl) ?_
    obtain ⟨v3, ev3⟩ : ∃ x : Int64, x = (x2 ||| (xb_lshl (Int32.toInt64 (x6 &&& 127)) (7 * x5))) := ⟨_, rfl⟩
    have hw := hw v3 ev3
    refine xt_numl (y := v3) ev3.symm ?_
    refine lv_lstore_n hx hb (xb_d D_M_signed 69 rfl) rfl hl (by decide) rfl (fun ls hl => ?_)
    have hl : lv_has ls 9 [(2, .long v3), (0, .ref x0), (1, .int x1), (4, .int x4), (5, .int x5), (6, .int x6)] := hl
    refine lv_iload hx hb (xb_d D_M_signed 70 rfl) (lv_at hl 5 rfl) ?_
    refine lv_sipush (v := 128) hx hb (xb_d D_M_signed 71 rfl) (by decide) ?_
    refine lv_icmp_ge (tgt := 203) hx hb (xb_d D_M_signed 72 rfl) rfl (fun hc4 => ?_) (fun hc4 => ?_)
    · have hw := hw.1 hc4
      refine lv_iinc (v := (x5 + 1)) (k := 4) hx hb (xb_d D_M_signed 107 rfl) hl rfl (by first | rfl | decide) (by decide) rfl (fun ls hl => ?_)
      have hl : lv_has ls 9 [(5, .int (x5 + 1)), (2, .long v3), (0, .ref x0), (1, .int x1), (4, .int x4), (6, .int x6)] := hl
      refine lv_goto (tgt := 19) hx hb (xb_d D_M_signed 108 rfl) rfl ?_
      exact hK19 x0 x1 v3 x4 (x5 + 1) h hw p e s m args below meth c hC H locs ls k n hE (lv_sub hl [2, 3, 1, 4, 0] rfl) hR hS (by omega) (by omega)
    · have hw := hw.2 hc4
      refine lv_iload hx hb (xb_d D_M_signed 73 rfl) (lv_at hl 4 rfl) ?_
      refine lv_iload hx hb (xb_d D_M_signed 74 rfl) (lv_at hl 3 rfl) ?_
      refine lv_icmp_ge (tgt := 163) hx hb (xb_d D_M_signed 75 rfl) rfl (fun hc5 => ?_) (fun hc5 => ?_)
      · have hw := hw.1 hc5
        exact am_M_signed_L163 l hfl D A σ MC MS h0 Qr K19 hK19 x1 v3 x5 h hw p e s m args below meth c hC H locs ls k n hE (lv_sub hl [2, 0, 4] rfl) hR hS (by omega) (by omega)
      · have hw := hw.2 hc5
        refine lv_iload hx hb (xb_d D_M_signed 76 rfl) (lv_at hl 5 rfl) ?_
        refine lv_bipush (v := 64) hx hb (xb_d D_M_signed 77 rfl) (by decide) ?_
        refine lv_iand hx hb (xb_d D_M_signed 78 rfl) ?_
        refine lv_if_eq (tgt := 163) hx hb (xb_d D_M_signed 79 rfl) rfl (fun hc6 => ?_) (fun hc6 => ?_)
        · have hw := hw.1 hc6
          exact am_M_signed_L163 l hfl D A σ MC MS h0 Qr K19 hK19 x1 v3 x5 h hw p e s m args below meth c hC H locs ls k n hE (lv_sub hl [2, 0, 4] rfl) hR hS (by omega) (by omega)
        · have hw := hw.2 hc6
          refine lv_iconst (v := 1) hx hb (xb_d D_M_signed 80 rfl) (by decide) ?_
          refine lv_goto (tgt := 164) hx hb (xb_d D_M_signed 81 rfl) rfl ?_
          exact am_M_signed_L164 l hfl D A σ MC MS h0 Qr K19 hK19 x1 v3 x5 1 h hw p e s m args below meth c hC H locs ls k n hE (lv_sub hl [2, 0, 4] rfl) hR hS (by omega) (by omega)
  · have hw := hw.2 hc2
    refine lv_lconst (v := 0) hx hb (xb_d D_M_signed 57 rfl) (by decide) ?_
    exact xb_lret 0 0 hx hb hr hlocks (show k + 0 ≤ MC by omega) (show n + 0 ≤ MS by omega) hE hR hS (xb_d D_M_signed 58 rfl) hw

set_option maxHeartbeats 4000000 in
set_option maxRecDepth 100000 in
theorem am_M_signed_L87 (l : Launch) (hfl : l.flags = pinnedFlags ++ [noTraceFlag]) (D : va_G) (A : Nat → Prop) (σ MC MS : Nat) (h0 : xb_H) (Qr : Int64 → xb_H → Prop) (K19 : Nat → Int32 → Int64 → Int32 → Int32 → xb_H → Prop) (hK19 : ∀ (x0 : Nat) (x1 : Int32) (x2 : Int64) (x4 : Int32) (x5 : Int32) (h : xb_H), K19 x0 x1 x2 x4 x5 h → xb_am l D A σ 4 MC MS h0 (fun v h _ _ => ∃ r, v = some (.long r) ∧ Qr r h) (fun _ _ _ _ => False) y_M_signed.cls y_M_signed.name b_M_signed 9 ([] : List ExceptionTableEntry) (some .long) 19 [(0, .ref x0), (1, .int x1), (2, .long x2), (4, .int x4), (5, .int x5)] [] h 0 0) (x0 : Nat) (x1 : Int32) (x2 : Int64) (x4 : Int32) (x5 : Int32) (x6 : Int32) (y0 : Int32) (h : xb_H) (hw : w_M_signed_L87 K19 Qr x0 x1 x2 x4 x5 x6 y0 h) : xb_am l D A σ 4 MC MS h0 (fun v h _ _ => ∃ r, v = some (.long r) ∧ Qr r h) (fun _ _ _ _ => False) y_M_signed.cls y_M_signed.name b_M_signed 9 ([] : List ExceptionTableEntry) (some .long) 87 [(0, .ref x0), (1, .int x1), (2, .long x2), (4, .int x4), (5, .int x5), (6, .int x6)] [.int y0] h 0 0 := by
  unfold w_M_signed_L87 at hw
  intro p e s m args below meth c hC H locs ls k n hE hl hR hS hk hn
  obtain ⟨hx, hb, hown, hlocks, htab, hml, hr, hB, hA, hnm⟩ := id hC
  have hts := hB.1.1.at args
  refine lv_istore hx hb (xb_d D_M_signed 41 rfl) hl (by decide) rfl (fun ls hl => ?_)
  have hl : lv_has ls 9 [(7, .int y0), (0, .ref x0), (1, .int x1), (2, .long x2), (4, .int x4), (5, .int x5), (6, .int x6)] := hl
  refine lv_aload_n hx hb (xb_d D_M_signed 42 rfl) rfl (lv_at hl 1 rfl) ?_
  obtain ⟨hk1, hw⟩ := hw
  refine xb_getI (C := R_M) (T := F_M) (N := 97) hx hb 8 17 hts fin_M hown hR hk1 (by decide) rfl (by decide) rfl (hts _ m_ff69da61) (fun _ h9 => h9) (xb_d D_M_signed 43 rfl) ?_
  refine lv_if_ne (tgt := 112) hx hb (xb_d D_M_signed 44 rfl) rfl (fun hc2 => ?_) (fun hc2 => ?_)
  · have hw := hw.1 hc2
    exact am_M_signed_L112 l hfl D A σ MC MS h0 Qr K19 hK19 x0 x1 x2 x4 x5 x6 h hw p e s m args below meth c hC H locs ls k n hE (lv_sub hl [1, 2, 3, 4, 5, 6] rfl) hR hS (by omega) (by omega)
  · have hw := hw.2 hc2
    refine lv_iload hx hb (xb_d D_M_signed 45 rfl) (lv_at hl 0 rfl) ?_
    refine lv_if_ne (tgt := 112) hx hb (xb_d D_M_signed 46 rfl) rfl (fun hc3 => ?_) (fun hc3 => ?_)
    · have hw := hw.1 hc3
      exact am_M_signed_L112 l hfl D A σ MC MS h0 Qr K19 hK19 x0 x1 x2 x4 x5 x6 h hw p e s m args below meth c hC H locs ls k n hE (lv_sub hl [1, 2, 3, 4, 5, 6] rfl) hR hS (by omega) (by omega)
    · have hw := hw.2 hc3
      refine lv_aload_n hx hb (xb_d D_M_signed 47 rfl) rfl (lv_at hl 1 rfl) ?_
      refine lv_iconst (v := 3) hx hb (xb_d D_M_signed 48 rfl) (by decide) ?_
      refine lv_aload_n hx hb (xb_d D_M_signed 49 rfl) rfl (lv_at hl 1 rfl) ?_
      refine xb_getI (C := R_M) (T := F_M) (N := 97) hx hb 8 15 hts fin_M hown hR hk1 (by decide) rfl (by decide) rfl (hts _ m_6c2d27ad) (fun _ h9 => h9) (xb_d D_M_signed 50 rfl) ?_
      refine lv_iconst (v := 1) hx hb (xb_d D_M_signed 51 rfl) (by decide) ?_
      refine lv_isub hx hb (xb_d D_M_signed 52 rfl) ?_
      refine xb_call0 (D := D) (A := A) (σ := σ) (h := h) (d := 2) (maxL := 3) (rest := []) (av := [.ref x0, .int 3, .int ((xb_i h x0 15) - 1)]) (fun T hT X => by obtain ⟨cb9, ra9, rb9, rc9⟩ := xb_recv (ci := 8) hR rfl hk1 (by decide); exact xt_invV X hx hown (hts _ m_939052ad) (hts _ m_29cc8c73) (hts _ m_3b1ac7ab) (xt_sigOf (hts _ m_8f062ecd)) nm_M_fail (by rw [hT]; exact ra9) rb9 rc9 (g := F0 m 109 ls [.int ((xb_i h x0 15) - 1), .int 3, .ref x0]) rfl (argsL := [.int 3, .int ((xb_i h x0 15) - 1)]) (rest := []) rfl rfl (by rw [hb]; exact (xb_d D_M_signed 53 rfl))) (ok_M_fail l hfl D A σ x0 3 ((xb_i h x0 15) - 1) h _ hw) (hml.trans hl.1.symm) (by rw [hb]; exact (xb_d D_M_signed 53 rfl)) (Nat.le_of_ble_eq_true rfl) (Nat.le_of_ble_eq_true rfl) (Nat.le_of_ble_eq_true rfl) (show k ≤ MC by omega) (show n ≤ MS by omega) (xt_w1 hB.1 m_8f062ecd) (xt_cdOf hB.1 m_8f062ecd) (hts _ m_d5ed7bed) hB hR hS hA (fun vv h4 H locs hq hEh4 hR hS => ?_)
      obtain ⟨rfl, hw⟩ := hq
      have hw := hw hEh4
      have hE := hE.tr hEh4
      refine W.eq (g2 := F0 m 112 ls []) rfl ?_
      exact am_M_signed_L112 l hfl D A σ MC MS h0 Qr K19 hK19 x0 x1 x2 x4 x5 x6 h4 hw p e s m args below meth c hC H locs ls k n hE (lv_sub hl [1, 2, 3, 4, 5, 6] rfl) hR hS (by omega) (by omega)

set_option maxHeartbeats 4000000 in
set_option maxRecDepth 100000 in
theorem am_M_signed_L86 (l : Launch) (hfl : l.flags = pinnedFlags ++ [noTraceFlag]) (D : va_G) (A : Nat → Prop) (σ MC MS : Nat) (h0 : xb_H) (Qr : Int64 → xb_H → Prop) (K19 : Nat → Int32 → Int64 → Int32 → Int32 → xb_H → Prop) (hK19 : ∀ (x0 : Nat) (x1 : Int32) (x2 : Int64) (x4 : Int32) (x5 : Int32) (h : xb_H), K19 x0 x1 x2 x4 x5 h → xb_am l D A σ 4 MC MS h0 (fun v h _ _ => ∃ r, v = some (.long r) ∧ Qr r h) (fun _ _ _ _ => False) y_M_signed.cls y_M_signed.name b_M_signed 9 ([] : List ExceptionTableEntry) (some .long) 19 [(0, .ref x0), (1, .int x1), (2, .long x2), (4, .int x4), (5, .int x5)] [] h 0 0) (x0 : Nat) (x1 : Int32) (x2 : Int64) (x4 : Int32) (x5 : Int32) (x6 : Int32) (h : xb_H) (hw : w_M_signed_L86 K19 Qr x0 x1 x2 x4 x5 x6 h) : xb_am l D A σ 4 MC MS h0 (fun v h _ _ => ∃ r, v = some (.long r) ∧ Qr r h) (fun _ _ _ _ => False) y_M_signed.cls y_M_signed.name b_M_signed 9 ([] : List ExceptionTableEntry) (some .long) 86 [(0, .ref x0), (1, .int x1), (2, .long x2), (4, .int x4), (5, .int x5), (6, .int x6)] [] h 0 0 := by
  unfold w_M_signed_L86 at hw
  intro p e s m args below meth c hC H locs ls k n hE hl hR hS hk hn
  obtain ⟨hx, hb, hown, hlocks, htab, hml, hr, hB, hA, hnm⟩ := id hC
  have hts := hB.1.1.at args
  refine lv_iconst (v := 0) hx hb (xb_d D_M_signed 40 rfl) (by decide) ?_
  exact am_M_signed_L87 l hfl D A σ MC MS h0 Qr K19 hK19 x0 x1 x2 x4 x5 x6 0 h hw p e s m args below meth c hC H locs ls k n hE (lv_sub hl [0, 1, 2, 3, 4, 5] rfl) hR hS (by omega) (by omega)

set_option maxHeartbeats 4000000 in
set_option maxRecDepth 100000 in
theorem am_M_signed_L82 (l : Launch) (hfl : l.flags = pinnedFlags ++ [noTraceFlag]) (D : va_G) (A : Nat → Prop) (σ MC MS : Nat) (h0 : xb_H) (Qr : Int64 → xb_H → Prop) (K19 : Nat → Int32 → Int64 → Int32 → Int32 → xb_H → Prop) (hK19 : ∀ (x0 : Nat) (x1 : Int32) (x2 : Int64) (x4 : Int32) (x5 : Int32) (h : xb_H), K19 x0 x1 x2 x4 x5 h → xb_am l D A σ 4 MC MS h0 (fun v h _ _ => ∃ r, v = some (.long r) ∧ Qr r h) (fun _ _ _ _ => False) y_M_signed.cls y_M_signed.name b_M_signed 9 ([] : List ExceptionTableEntry) (some .long) 19 [(0, .ref x0), (1, .int x1), (2, .long x2), (4, .int x4), (5, .int x5)] [] h 0 0) (x0 : Nat) (x1 : Int32) (x2 : Int64) (x4 : Int32) (x5 : Int32) (x6 : Int32) (h : xb_H) (hw : w_M_signed_L82 K19 Qr x0 x1 x2 x4 x5 x6 h) : xb_am l D A σ 4 MC MS h0 (fun v h _ _ => ∃ r, v = some (.long r) ∧ Qr r h) (fun _ _ _ _ => False) y_M_signed.cls y_M_signed.name b_M_signed 9 ([] : List ExceptionTableEntry) (some .long) 82 [(0, .ref x0), (1, .int x1), (2, .long x2), (4, .int x4), (5, .int x5), (6, .int x6)] [] h 0 0 := by
  unfold w_M_signed_L82 at hw
  intro p e s m args below meth c hC H locs ls k n hE hl hR hS hk hn
  obtain ⟨hx, hb, hown, hlocks, htab, hml, hr, hB, hA, hnm⟩ := id hC
  have hts := hB.1.1.at args
  refine lv_iconst (v := 1) hx hb (xb_d D_M_signed 38 rfl) (by decide) ?_
  refine lv_goto (tgt := 87) hx hb (xb_d D_M_signed 39 rfl) rfl ?_
  exact am_M_signed_L87 l hfl D A σ MC MS h0 Qr K19 hK19 x0 x1 x2 x4 x5 x6 1 h hw p e s m args below meth c hC H locs ls k n hE (lv_sub hl [0, 1, 2, 3, 4, 5] rfl) hR hS (by omega) (by omega)

set_option maxHeartbeats 4000000 in
set_option maxRecDepth 100000 in
theorem am_M_signed_L19 (l : Launch) (hfl : l.flags = pinnedFlags ++ [noTraceFlag]) (D : va_G) (A : Nat → Prop) (σ MC MS : Nat) (h0 : xb_H) (Qr : Int64 → xb_H → Prop) (n9 : Nat) : ∀ (x0 : Nat) (x1 : Int32) (x2 : Int64) (x4 : Int32) (x5 : Int32) (h : xb_H), w_M_signed_L19 Qr n9 x0 x1 x2 x4 x5 h → xb_am l D A σ 4 MC MS h0 (fun v h _ _ => ∃ r, v = some (.long r) ∧ Qr r h) (fun _ _ _ _ => False) y_M_signed.cls y_M_signed.name b_M_signed 9 ([] : List ExceptionTableEntry) (some .long) 19 [(0, .ref x0), (1, .int x1), (2, .long x2), (4, .int x4), (5, .int x5)] [] h 0 0 := by
  induction n9 with
  | zero => intro x0 x1 x2 x4 x5 h hw; exact False.elim hw
  | succ n9 ih =>
    intro x0 x1 x2 x4 x5 h hw
    unfold w_M_signed_L19 at hw
    intro p e s m args below meth c hC H locs ls k n hE hl hR hS hk hn
    obtain ⟨hx, hb, hown, hlocks, htab, hml, hr, hB, hA, hnm⟩ := id hC
    have hts := hB.1.1.at args
    refine lv_iload hx hb (xb_d D_M_signed 11 rfl) (lv_at hl 4 rfl) ?_
    refine lv_iload hx hb (xb_d D_M_signed 12 rfl) (lv_at hl 3 rfl) ?_
    refine lv_icmp_gt (tgt := 209) hx hb (xb_d D_M_signed 13 rfl) rfl (fun hc1 => ?_) (fun hc1 => ?_)
    · have hw := hw.1 hc1
      refine lv_lload_n hx hb (xb_d D_M_signed 109 rfl) rfl (lv_at hl 2 rfl) ?_
      exact xb_lret 0 0 hx hb hr hlocks (show k + 0 ≤ MC by omega) (show n + 0 ≤ MS by omega) hE hR hS (xb_d D_M_signed 110 rfl) hw
    · have hw := hw.2 hc1
      refine lv_aload_n hx hb (xb_d D_M_signed 14 rfl) rfl (lv_at hl 0 rfl) ?_
      obtain ⟨hk2, hw⟩ := hw
      refine xb_call0 (D := D) (A := A) (σ := σ) (h := h) (d := 3) (maxL := 2) (rest := []) (av := [.ref x0]) (fun T hT X => by obtain ⟨cb9, ra9, rb9, rc9⟩ := xb_recv (ci := 8) hR rfl hk2 (by decide); exact xt_invV X hx hown (hts _ m_0e978570) (hts _ m_40099f98) (hts _ m_a7dbfd07) (xt_sigOf (hts _ m_0af1ec6a)) nm_M_next (by rw [hT]; exact ra9) rb9 rc9 (g := F0 m 27 ls [.ref x0]) rfl (argsL := []) (rest := []) rfl rfl (by rw [hb]; exact (xb_d D_M_signed 15 rfl))) (ok_M_next l hfl D A σ x0 h _ hw) (hml.trans hl.1.symm) (by rw [hb]; exact (xb_d D_M_signed 15 rfl)) (Nat.le_of_ble_eq_true rfl) (Nat.le_of_ble_eq_true rfl) (Nat.le_of_ble_eq_true rfl) (show k ≤ MC by omega) (show n ≤ MS by omega) (xt_w1 hB.1 m_0af1ec6a) (xt_cdOf hB.1 m_0af1ec6a) (hts _ m_d5ed7bed) hB hR hS hA (fun vv h3 H locs hq hEh3 hR hS => ?_)
      obtain ⟨r4, rfl, hw⟩ := hq
      have hw := hw hEh3
      have hE := hE.tr hEh3
      refine W.eq (g2 := F0 m 30 ls [.int r4]) rfl ?_
      refine lv_istore hx hb (xb_d D_M_signed 16 rfl) hl (by decide) rfl (fun ls hl => ?_)
      have hl : lv_has ls 9 [(6, .int r4), (0, .ref x0), (1, .int x1), (2, .long x2), (4, .int x4), (5, .int x5)] := hl
      refine lv_iload hx hb (xb_d D_M_signed 17 rfl) (lv_at hl 5 rfl) ?_
      refine lv_iload hx hb (xb_d D_M_signed 18 rfl) (lv_at hl 4 rfl) ?_
      refine lv_icmp_lt (tgt := 82) hx hb (xb_d D_M_signed 19 rfl) rfl (fun hc5 => ?_) (fun hc5 => ?_)
      · have hw := hw.1 hc5
        exact am_M_signed_L82 l hfl D A σ MC MS h0 Qr (w_M_signed_L19 Qr n9) ih x0 x1 x2 x4 x5 r4 h3 hw p e s m args below meth c hC H locs ls k n hE (lv_sub hl [1, 2, 3, 4, 5, 0] rfl) hR hS (by omega) (by omega)
      · have hw := hw.2 hc5
        refine lv_iload_n hx hb (xb_d D_M_signed 20 rfl) rfl (lv_at hl 2 rfl) ?_
        refine lv_bipush (v := 32) hx hb (xb_d D_M_signed 21 rfl) (by decide) ?_
        refine lv_icmp_ne (tgt := 70) hx hb (xb_d D_M_signed 22 rfl) rfl (fun hc6 => ?_) (fun hc6 => ?_)
        · have hw := hw.1 hc6
          refine lv_iload hx hb (xb_d D_M_signed 33 rfl) (lv_at hl 0 rfl) ?_
          refine lv_if_eq (tgt := 82) hx hb (xb_d D_M_signed 34 rfl) rfl (fun hc7 => ?_) (fun hc7 => ?_)
          · have hw := hw.1 hc7
            exact am_M_signed_L82 l hfl D A σ MC MS h0 Qr (w_M_signed_L19 Qr n9) ih x0 x1 x2 x4 x5 r4 h3 hw p e s m args below meth c hC H locs ls k n hE (lv_sub hl [1, 2, 3, 4, 5, 0] rfl) hR hS (by omega) (by omega)
          · have hw := hw.2 hc7
            refine lv_iload hx hb (xb_d D_M_signed 35 rfl) (lv_at hl 0 rfl) ?_
            refine lv_bipush (v := 127) hx hb (xb_d D_M_signed 36 rfl) (by decide) ?_
            refine lv_icmp_ne (tgt := 86) hx hb (xb_d D_M_signed 37 rfl) rfl (fun hc8 => ?_) (fun hc8 => ?_)
            · have hw := hw.1 hc8
              exact am_M_signed_L86 l hfl D A σ MC MS h0 Qr (w_M_signed_L19 Qr n9) ih x0 x1 x2 x4 x5 r4 h3 hw p e s m args below meth c hC H locs ls k n hE (lv_sub hl [1, 2, 3, 4, 5, 0] rfl) hR hS (by omega) (by omega)
            · have hw := hw.2 hc8
              exact am_M_signed_L82 l hfl D A σ MC MS h0 Qr (w_M_signed_L19 Qr n9) ih x0 x1 x2 x4 x5 r4 h3 hw p e s m args below meth c hC H locs ls k n hE (lv_sub hl [1, 2, 3, 4, 5, 0] rfl) hR hS (by omega) (by omega)
        · have hw := hw.2 hc6
          refine lv_iload hx hb (xb_d D_M_signed 23 rfl) (lv_at hl 0 rfl) ?_
          refine lv_bipush (v := 8) hx hb (xb_d D_M_signed 24 rfl) (by decide) ?_
          refine lv_icmp_lt (tgt := 82) hx hb (xb_d D_M_signed 25 rfl) rfl (fun hc9 => ?_) (fun hc9 => ?_)
          · have hw := hw.1 hc9
            exact am_M_signed_L82 l hfl D A σ MC MS h0 Qr (w_M_signed_L19 Qr n9) ih x0 x1 x2 x4 x5 r4 h3 hw p e s m args below meth c hC H locs ls k n hE (lv_sub hl [1, 2, 3, 4, 5, 0] rfl) hR hS (by omega) (by omega)
          · have hw := hw.2 hc9
            refine lv_iload hx hb (xb_d D_M_signed 26 rfl) (lv_at hl 0 rfl) ?_
            refine lv_bipush (v := 120) hx hb (xb_d D_M_signed 27 rfl) (by decide) ?_
            refine lv_icmp_lt (tgt := 86) hx hb (xb_d D_M_signed 28 rfl) rfl (fun hc10 => ?_) (fun hc10 => ?_)
            · have hw := hw.1 hc10
              exact am_M_signed_L86 l hfl D A σ MC MS h0 Qr (w_M_signed_L19 Qr n9) ih x0 x1 x2 x4 x5 r4 h3 hw p e s m args below meth c hC H locs ls k n hE (lv_sub hl [1, 2, 3, 4, 5, 0] rfl) hR hS (by omega) (by omega)
            · have hw := hw.2 hc10
              refine lv_iload hx hb (xb_d D_M_signed 29 rfl) (lv_at hl 0 rfl) ?_
              refine lv_sipush (v := 128) hx hb (xb_d D_M_signed 30 rfl) (by decide) ?_
              refine lv_icmp_ge (tgt := 86) hx hb (xb_d D_M_signed 31 rfl) rfl (fun hc11 => ?_) (fun hc11 => ?_)
              · have hw := hw.1 hc11
                exact am_M_signed_L86 l hfl D A σ MC MS h0 Qr (w_M_signed_L19 Qr n9) ih x0 x1 x2 x4 x5 r4 h3 hw p e s m args below meth c hC H locs ls k n hE (lv_sub hl [1, 2, 3, 4, 5, 0] rfl) hR hS (by omega) (by omega)
              · have hw := hw.2 hc11
                refine lv_goto (tgt := 82) hx hb (xb_d D_M_signed 32 rfl) rfl ?_
                exact am_M_signed_L82 l hfl D A σ MC MS h0 Qr (w_M_signed_L19 Qr n9) ih x0 x1 x2 x4 x5 r4 h3 hw p e s m args below meth c hC H locs ls k n hE (lv_sub hl [1, 2, 3, 4, 5, 0] rfl) hR hS (by omega) (by omega)

set_option maxHeartbeats 4000000 in
set_option maxRecDepth 100000 in
theorem am_M_signed_L14 (l : Launch) (hfl : l.flags = pinnedFlags ++ [noTraceFlag]) (D : va_G) (A : Nat → Prop) (σ MC MS : Nat) (h0 : xb_H) (Qr : Int64 → xb_H → Prop) (x0 : Nat) (x1 : Int32) (x2 : Int64) (y0 : Int32) (h : xb_H) (hw : w_M_signed_L14 Qr x0 x1 x2 y0 h) : xb_am l D A σ 4 MC MS h0 (fun v h _ _ => ∃ r, v = some (.long r) ∧ Qr r h) (fun _ _ _ _ => False) y_M_signed.cls y_M_signed.name b_M_signed 9 ([] : List ExceptionTableEntry) (some .long) 14 [(0, .ref x0), (1, .int x1), (2, .long x2)] [.int y0] h 0 0 := by
  unfold w_M_signed_L14 at hw
  intro p e s m args below meth c hC H locs ls k n hE hl hR hS hk hn
  obtain ⟨hx, hb, hown, hlocks, htab, hml, hr, hB, hA, hnm⟩ := id hC
  have hts := hB.1.1.at args
  refine lv_istore hx hb (xb_d D_M_signed 8 rfl) hl (by decide) rfl (fun ls hl => ?_)
  have hl : lv_has ls 9 [(4, .int y0), (0, .ref x0), (1, .int x1), (2, .long x2)] := hl
  refine lv_iconst (v := 0) hx hb (xb_d D_M_signed 9 rfl) (by decide) ?_
  refine lv_istore hx hb (xb_d D_M_signed 10 rfl) hl (by decide) rfl (fun ls hl => ?_)
  have hl : lv_has ls 9 [(5, .int 0), (4, .int y0), (0, .ref x0), (1, .int x1), (2, .long x2)] := hl
  obtain ⟨n8, hw⟩ := hw
  exact am_M_signed_L19 l hfl D A σ MC MS h0 Qr n8 x0 x1 x2 y0 0 h hw p e s m args below meth c hC H locs ls k n hE (lv_sub hl [2, 3, 4, 1, 0] rfl) hR hS (by omega) (by omega)

set_option maxHeartbeats 4000000 in
set_option maxRecDepth 100000 in
theorem ok_M_signed (l : Launch) (hfl : l.flags = pinnedFlags ++ [noTraceFlag]) (D : va_G) (A : Nat → Prop) (σ : Nat) (x0 : Nat) (x1 : Int32) (h : xb_H) (Qr : Int64 → xb_H → Prop) (hw : w_M_signed x0 x1 h Qr) : xb_Met l y_M_signed [.code y_M_signed b_M_signed 9 (some .long)] (xb_rm 4 0 0) (xb_Pc D A σ h [.ref x0, .int x1]) (xb_Qc D A h 0 0 (fun v h _ _ => ∃ r, v = some (.long r) ∧ Qr r h) (fun _ _ _ _ => False)) A := by
  refine xb_ofAm (cc := b_M_signed) (by decide) (Nat.le_of_ble_eq_true rfl) ?_
  unfold w_M_signed at hw
  show xb_am l D A σ 4 0 0 h (fun v h _ _ => ∃ r, v = some (.long r) ∧ Qr r h) (fun _ _ _ _ => False) y_M_signed.cls y_M_signed.name b_M_signed 9 ([] : List ExceptionTableEntry) (some .long) 0 [(0, .ref x0), (1, .int x1)] [] h 0 0
  obtain ⟨MC, hMC⟩ : ∃ x, x = 0 := ⟨_, rfl⟩
  obtain ⟨MS, hMS⟩ : ∃ x, x = 0 := ⟨_, rfl⟩
  rw [show xb_am l D A σ 4 0 0 = xb_am l D A σ 4 MC MS by rw [hMC, hMS]]
  obtain ⟨h0, hh0⟩ : ∃ x, x = h := ⟨_, rfl⟩
  rw [show xb_am l D A σ 4 MC MS h = xb_am l D A σ 4 MC MS h0 by rw [hh0]]
  intro p e s m args below meth c hC H locs ls k n hE hl hR hS hk hn
  obtain ⟨hx, hb, hown, hlocks, htab, hml, hr, hB, hA, hnm⟩ := id hC
  have hts := hB.1.1.at args
  refine lv_lconst (v := 0) hx hb (xb_d D_M_signed 0 rfl) (by decide) ?_
  refine lv_lstore_n hx hb (xb_d D_M_signed 1 rfl) rfl hl (by decide) rfl (fun ls hl => ?_)
  have hl : lv_has ls 9 [(2, .long 0), (0, .ref x0), (1, .int x1)] := hl
  refine lv_iload_n hx hb (xb_d D_M_signed 2 rfl) rfl (lv_at hl 2 rfl) ?_
  refine lv_bipush (v := 32) hx hb (xb_d D_M_signed 3 rfl) (by decide) ?_
  refine lv_icmp_ne (tgt := 12) hx hb (xb_d D_M_signed 4 rfl) rfl (fun hc1 => ?_) (fun hc1 => ?_)
  · have hw := hw.1 hc1
    refine lv_bipush (v := 9) hx hb (xb_d D_M_signed 7 rfl) (by decide) ?_
    exact am_M_signed_L14 l hfl D A σ MC MS h0 Qr x0 x1 0 9 h hw p e s m args below meth c hC H locs ls k n hE (lv_sub hl [1, 2, 0] rfl) hR hS (by omega) (by omega)
  · have hw := hw.2 hc1
    refine lv_iconst (v := 4) hx hb (xb_d D_M_signed 5 rfl) (by decide) ?_
    refine lv_goto (tgt := 14) hx hb (xb_d D_M_signed 6 rfl) rfl ?_
    exact am_M_signed_L14 l hfl D A σ MC MS h0 Qr x0 x1 0 4 h hw p e s m args below meth c hC H locs ls k n hE (lv_sub hl [1, 2, 0] rfl) hR hS (by omega) (by omega)

theorem m_4290bf91 : (.methodLink "StackHostModel" 402 y_M_take : Cond) ∈ xt_tbl := xt_in (xt_t11 (List.mem_of_getElem? (i := 173) (by decide +kernel))) (by decide +kernel)
theorem m_641dba55 : (.instanceMethod y_M_take : Cond) ∈ xt_tbl := xt_in (xt_t11 (List.mem_of_getElem? (i := 175) (by decide +kernel))) (by decide +kernel)
theorem m_286bb193 : (.selects "StackHostModel" y_M_take y_M_take : Cond) ∈ xt_tbl := xt_in (xt_v12 (q := (⟨"StackHostModel", "take", "(I)I"⟩, 97)) (List.mem_of_getElem? (i := 0) (by decide +kernel))) (by decide +kernel)
theorem m_8ef3c792 : (.code y_M_take b_M_take 3 (some .int) : Cond) ∈ xt_tbl := xt_in (xt_t11 (List.mem_of_getElem? (i := 176) (by decide +kernel))) (by decide +kernel)
theorem nm_M_take : xt_nm y_M_take 1 := ⟨by decide +kernel, by decide +kernel⟩
set_option maxRecDepth 100000 in
def T_M_takeResult : List (Nat × Instr × Nat) := [(0, .iload_n 1, 1), (1, .bipush 64, 2), (3, .if_icmp .eq 9, 3), (6, .aload_n 0, 1), (7, .iload_n 1, 1), (8, .invokevirtual 402, 3), (11, .pop, 1), (12, .return_, 1)]
theorem D_M_takeResult : ∀ q ∈ T_M_takeResult, decode b_M_takeResult q.1 = .ok (q.2.1, q.2.2) := by decide +kernel

set_option maxHeartbeats 4000000 in
set_option maxRecDepth 100000 in
theorem am_M_takeResult_L12 (l : Launch) (hfl : l.flags = pinnedFlags ++ [noTraceFlag]) (D : va_G) (A : Nat → Prop) (σ MC MS : Nat) (h0 : xb_H) (Qr : xb_H → Prop) (h : xb_H) (hw : w_M_takeResult_L12 Qr h) : xb_am l D A σ 4 MC MS h0 (fun v h _ _ => v = none ∧ Qr h) (fun _ _ _ _ => False) y_M_takeResult.cls y_M_takeResult.name b_M_takeResult 2 ([] : List ExceptionTableEntry) none 12 [] [] h 0 0 := by
  unfold w_M_takeResult_L12 at hw
  intro p e s m args below meth c hC H locs ls k n hE hl hR hS hk hn
  obtain ⟨hx, hb, hown, hlocks, htab, hml, hr, hB, hA, hnm⟩ := id hC
  have hts := hB.1.1.at args
  exact xb_vret 0 0 hx hb hr hlocks (show k + 0 ≤ MC by omega) (show n + 0 ≤ MS by omega) hE hR hS (xb_d D_M_takeResult 7 rfl) hw

set_option maxHeartbeats 4000000 in
set_option maxRecDepth 100000 in
theorem ok_M_takeResult (l : Launch) (hfl : l.flags = pinnedFlags ++ [noTraceFlag]) (D : va_G) (A : Nat → Prop) (σ : Nat) (x0 : Nat) (x1 : Int32) (h : xb_H) (Qr : xb_H → Prop) (hw : w_M_takeResult x0 x1 h Qr) : xb_Met l y_M_takeResult [.code y_M_takeResult b_M_takeResult 2 none] (xb_rm 4 0 0) (xb_Pc D A σ h [.ref x0, .int x1]) (xb_Qc D A h 0 0 (fun v h _ _ => v = none ∧ Qr h) (fun _ _ _ _ => False)) A := by
  refine xb_ofAm (cc := b_M_takeResult) (by decide) (Nat.le_of_ble_eq_true rfl) ?_
  unfold w_M_takeResult at hw
  show xb_am l D A σ 4 0 0 h (fun v h _ _ => v = none ∧ Qr h) (fun _ _ _ _ => False) y_M_takeResult.cls y_M_takeResult.name b_M_takeResult 2 ([] : List ExceptionTableEntry) none 0 [(0, .ref x0), (1, .int x1)] [] h 0 0
  obtain ⟨MC, hMC⟩ : ∃ x, x = 0 := ⟨_, rfl⟩
  obtain ⟨MS, hMS⟩ : ∃ x, x = 0 := ⟨_, rfl⟩
  rw [show xb_am l D A σ 4 0 0 = xb_am l D A σ 4 MC MS by rw [hMC, hMS]]
  obtain ⟨h0, hh0⟩ : ∃ x, x = h := ⟨_, rfl⟩
  rw [show xb_am l D A σ 4 MC MS h = xb_am l D A σ 4 MC MS h0 by rw [hh0]]
  intro p e s m args below meth c hC H locs ls k n hE hl hR hS hk hn
  obtain ⟨hx, hb, hown, hlocks, htab, hml, hr, hB, hA, hnm⟩ := id hC
  have hts := hB.1.1.at args
  refine lv_iload_n hx hb (xb_d D_M_takeResult 0 rfl) rfl (lv_at hl 1 rfl) ?_
  refine lv_bipush (v := 64) hx hb (xb_d D_M_takeResult 1 rfl) (by decide) ?_
  refine lv_icmp_eq (tgt := 12) hx hb (xb_d D_M_takeResult 2 rfl) rfl (fun hc1 => ?_) (fun hc1 => ?_)
  · have hw := hw.1 hc1
    exact am_M_takeResult_L12 l hfl D A σ MC MS h0 Qr h hw p e s m args below meth c hC H locs ls k n hE (lv_sub hl [] rfl) hR hS (by omega) (by omega)
  · have hw := hw.2 hc1
    refine lv_aload_n hx hb (xb_d D_M_takeResult 3 rfl) rfl (lv_at hl 0 rfl) ?_
    refine lv_iload_n hx hb (xb_d D_M_takeResult 4 rfl) rfl (lv_at hl 1 rfl) ?_
    obtain ⟨hk2, hw⟩ := hw
    refine xb_call0 (D := D) (A := A) (σ := σ) (h := h) (d := 3) (maxL := 3) (rest := []) (av := [.ref x0, .int x1]) (fun T hT X => by obtain ⟨cb9, ra9, rb9, rc9⟩ := xb_recv (ci := 8) hR rfl hk2 (by decide); exact xt_invV X hx hown (hts _ m_4290bf91) (hts _ m_641dba55) (hts _ m_286bb193) (xt_sigOf (hts _ m_8ef3c792)) nm_M_take (by rw [hT]; exact ra9) rb9 rc9 (g := F0 m 8 ls [.int x1, .ref x0]) rfl (argsL := [.int x1]) (rest := []) rfl rfl (by rw [hb]; exact (xb_d D_M_takeResult 5 rfl))) (ok_M_take l hfl D A σ x0 x1 h _ hw) (hml.trans hl.1.symm) (by rw [hb]; exact (xb_d D_M_takeResult 5 rfl)) (Nat.le_of_ble_eq_true rfl) (Nat.le_of_ble_eq_true rfl) (Nat.le_of_ble_eq_true rfl) (show k ≤ MC by omega) (show n ≤ MS by omega) (xt_w1 hB.1 m_8ef3c792) (xt_cdOf hB.1 m_8ef3c792) (hts _ m_d5ed7bed) hB hR hS hA (fun vv h3 H locs hq hEh3 hR hS => ?_)
    obtain ⟨r4, rfl, hw⟩ := hq
    have hw := hw hEh3
    have hE := hE.tr hEh3
    refine W.eq (g2 := F0 m 11 ls [.int r4]) rfl ?_
    refine lv_pop hx hb (xb_d D_M_takeResult 6 rfl) rfl ?_
    exact am_M_takeResult_L12 l hfl D A σ MC MS h0 Qr h3 hw p e s m args below meth c hC H locs ls k n hE (lv_sub hl [] rfl) hR hS (by omega) (by omega)

theorem m_7755cbcf : (.methodLink "StackHostModel" 230 y_M_isType : Cond) ∈ xt_tbl := xt_in (xt_t11 (List.mem_of_getElem? (i := 17) (by decide +kernel))) (by decide +kernel)
theorem m_f0ea648f : (.static y_M_isType : Cond) ∈ xt_tbl := xt_in (xt_t11 (List.mem_of_getElem? (i := 18) (by decide +kernel))) (by decide +kernel)
theorem m_3354b7ba : (.code y_M_isType b_M_isType 1 (some .boolean) : Cond) ∈ xt_tbl := xt_in (xt_t11 (List.mem_of_getElem? (i := 19) (by decide +kernel))) (by decide +kernel)
theorem nm_M_isType : xt_nm y_M_isType 1 := ⟨by decide +kernel, by decide +kernel⟩
set_option maxRecDepth 100000 in
def T_M_valueType : List (Nat × Instr × Nat) := [(0, .aload_n 0, 1), (1, .invokevirtual 212, 3), (4, .istore_n 1, 1), (5, .aload_n 0, 1), (6, .getfield 193, 3), (9, .ifCond .ne 21, 3), (12, .iload_n 1, 1), (13, .invokestatic 230, 3), (16, .ifCond .ne 14, 3), (19, .aload_n 0, 1), (20, .iconst 5, 1), (21, .aload_n 0, 1), (22, .getfield 202, 3), (25, .iconst 1, 1), (26, .isub, 1), (27, .invokevirtual 208, 3), (30, .return_, 1)]
theorem D_M_valueType : ∀ q ∈ T_M_valueType, decode b_M_valueType q.1 = .ok (q.2.1, q.2.2) := by decide +kernel

set_option maxHeartbeats 4000000 in
set_option maxRecDepth 100000 in
theorem am_M_valueType_L30 (l : Launch) (hfl : l.flags = pinnedFlags ++ [noTraceFlag]) (D : va_G) (A : Nat → Prop) (σ MC MS : Nat) (h0 : xb_H) (Qr : xb_H → Prop) (h : xb_H) (hw : w_M_valueType_L30 Qr h) : xb_am l D A σ 4 MC MS h0 (fun v h _ _ => v = none ∧ Qr h) (fun _ _ _ _ => False) y_M_valueType.cls y_M_valueType.name b_M_valueType 2 ([] : List ExceptionTableEntry) none 30 [] [] h 0 0 := by
  unfold w_M_valueType_L30 at hw
  intro p e s m args below meth c hC H locs ls k n hE hl hR hS hk hn
  obtain ⟨hx, hb, hown, hlocks, htab, hml, hr, hB, hA, hnm⟩ := id hC
  have hts := hB.1.1.at args
  exact xb_vret 0 0 hx hb hr hlocks (show k + 0 ≤ MC by omega) (show n + 0 ≤ MS by omega) hE hR hS (xb_d D_M_valueType 16 rfl) hw

set_option maxHeartbeats 4000000 in
set_option maxRecDepth 100000 in
theorem ok_M_valueType (l : Launch) (hfl : l.flags = pinnedFlags ++ [noTraceFlag]) (D : va_G) (A : Nat → Prop) (σ : Nat) (x0 : Nat) (h : xb_H) (Qr : xb_H → Prop) (hw : w_M_valueType x0 h Qr) : xb_Met l y_M_valueType [.code y_M_valueType b_M_valueType 2 none] (xb_rm 4 0 0) (xb_Pc D A σ h [.ref x0]) (xb_Qc D A h 0 0 (fun v h _ _ => v = none ∧ Qr h) (fun _ _ _ _ => False)) A := by
  refine xb_ofAm (cc := b_M_valueType) (by decide) (Nat.le_of_ble_eq_true rfl) ?_
  unfold w_M_valueType at hw
  show xb_am l D A σ 4 0 0 h (fun v h _ _ => v = none ∧ Qr h) (fun _ _ _ _ => False) y_M_valueType.cls y_M_valueType.name b_M_valueType 2 ([] : List ExceptionTableEntry) none 0 [(0, .ref x0)] [] h 0 0
  obtain ⟨MC, hMC⟩ : ∃ x, x = 0 := ⟨_, rfl⟩
  obtain ⟨MS, hMS⟩ : ∃ x, x = 0 := ⟨_, rfl⟩
  rw [show xb_am l D A σ 4 0 0 = xb_am l D A σ 4 MC MS by rw [hMC, hMS]]
  obtain ⟨h0, hh0⟩ : ∃ x, x = h := ⟨_, rfl⟩
  rw [show xb_am l D A σ 4 MC MS h = xb_am l D A σ 4 MC MS h0 by rw [hh0]]
  intro p e s m args below meth c hC H locs ls k n hE hl hR hS hk hn
  obtain ⟨hx, hb, hown, hlocks, htab, hml, hr, hB, hA, hnm⟩ := id hC
  have hts := hB.1.1.at args
  refine lv_aload_n hx hb (xb_d D_M_valueType 0 rfl) rfl (lv_at hl 0 rfl) ?_
  obtain ⟨hk1, hw⟩ := hw
  refine xb_call0 (D := D) (A := A) (σ := σ) (h := h) (d := 3) (maxL := 2) (rest := []) (av := [.ref x0]) (fun T hT X => by obtain ⟨cb9, ra9, rb9, rc9⟩ := xb_recv (ci := 8) hR rfl hk1 (by decide); exact xt_invV X hx hown (hts _ m_0e978570) (hts _ m_40099f98) (hts _ m_a7dbfd07) (xt_sigOf (hts _ m_0af1ec6a)) nm_M_next (by rw [hT]; exact ra9) rb9 rc9 (g := F0 m 1 ls [.ref x0]) rfl (argsL := []) (rest := []) rfl rfl (by rw [hb]; exact (xb_d D_M_valueType 1 rfl))) (ok_M_next l hfl D A σ x0 h _ hw) (hml.trans hl.1.symm) (by rw [hb]; exact (xb_d D_M_valueType 1 rfl)) (Nat.le_of_ble_eq_true rfl) (Nat.le_of_ble_eq_true rfl) (Nat.le_of_ble_eq_true rfl) (show k ≤ MC by omega) (show n ≤ MS by omega) (xt_w1 hB.1 m_0af1ec6a) (xt_cdOf hB.1 m_0af1ec6a) (hts _ m_d5ed7bed) hB hR hS hA (fun vv h2 H locs hq hEh2 hR hS => ?_)
  obtain ⟨r3, rfl, hw⟩ := hq
  have hw := hw hEh2
  have hE := hE.tr hEh2
  refine W.eq (g2 := F0 m 4 ls [.int r3]) rfl ?_
  refine lv_istore_n hx hb (xb_d D_M_valueType 2 rfl) rfl hl (by decide) rfl (fun ls hl => ?_)
  have hl : lv_has ls 2 [(1, .int r3), (0, .ref x0)] := hl
  refine lv_aload_n hx hb (xb_d D_M_valueType 3 rfl) rfl (lv_at hl 1 rfl) ?_
  have hk1 : xb_k h2 x0 = 9 := hEh2.k hk1
  refine xb_getI (C := R_M) (T := F_M) (N := 97) hx hb 8 17 hts fin_M hown hR hk1 (by decide) rfl (by decide) rfl (hts _ m_ff69da61) (fun _ h9 => h9) (xb_d D_M_valueType 4 rfl) ?_
  refine lv_if_ne (tgt := 30) hx hb (xb_d D_M_valueType 5 rfl) rfl (fun hc4 => ?_) (fun hc4 => ?_)
  · have hw := hw.1 hc4
    exact am_M_valueType_L30 l hfl D A σ MC MS h0 Qr h2 hw p e s m args below meth c hC H locs ls k n hE (lv_sub hl [] rfl) hR hS (by omega) (by omega)
  · have hw := hw.2 hc4
    refine lv_iload_n hx hb (xb_d D_M_valueType 6 rfl) rfl (lv_at hl 0 rfl) ?_
    refine xb_call0 (D := D) (A := A) (σ := σ) (h := h2) (d := 2) (maxL := 1) (rest := []) (av := [.int r3]) (fun T hT X => xt_invS X hx hown (hts _ m_7755cbcf) (hts _ m_f0ea648f) (hts _ m_d5ed7bed) (xt_sgS (hts _ m_3354b7ba)).1 (xt_sgS (hts _ m_3354b7ba)).2 nm_M_isType (g := F0 m 13 ls [.int r3]) rfl (argsL := [.int r3]) (rest := []) rfl rfl (by rw [hb]; exact (xb_d D_M_valueType 7 rfl))) (ok_M_isType l hfl D A σ r3 h2 _ hw) (hml.trans hl.1.symm) (by rw [hb]; exact (xb_d D_M_valueType 7 rfl)) (Nat.le_of_ble_eq_true rfl) (Nat.le_of_ble_eq_true rfl) (Nat.le_of_ble_eq_true rfl) (show k ≤ MC by omega) (show n ≤ MS by omega) (xt_w1 hB.1 m_3354b7ba) (xt_cdOf hB.1 m_3354b7ba) (hts _ m_d5ed7bed) hB hR hS hA (fun vv h5 H locs hq hEh5 hR hS => ?_)
    obtain ⟨r6, rfl, hw⟩ := hq
    have hw := hw hEh5
    have hE := hE.tr hEh5
    refine W.eq (g2 := F0 m 16 ls [.int r6]) rfl ?_
    refine lv_if_ne (tgt := 30) hx hb (xb_d D_M_valueType 8 rfl) rfl (fun hc7 => ?_) (fun hc7 => ?_)
    · have hw := hw.1 hc7
      exact am_M_valueType_L30 l hfl D A σ MC MS h0 Qr h5 hw p e s m args below meth c hC H locs ls k n hE (lv_sub hl [] rfl) hR hS (by omega) (by omega)
    · have hw := hw.2 hc7
      refine lv_aload_n hx hb (xb_d D_M_valueType 9 rfl) rfl (lv_at hl 1 rfl) ?_
      refine lv_iconst (v := 5) hx hb (xb_d D_M_valueType 10 rfl) (by decide) ?_
      refine lv_aload_n hx hb (xb_d D_M_valueType 11 rfl) rfl (lv_at hl 1 rfl) ?_
      have hk1 : xb_k h5 x0 = 9 := hEh5.k hk1
      refine xb_getI (C := R_M) (T := F_M) (N := 97) hx hb 8 15 hts fin_M hown hR hk1 (by decide) rfl (by decide) rfl (hts _ m_6c2d27ad) (fun _ h9 => h9) (xb_d D_M_valueType 12 rfl) ?_
      refine lv_iconst (v := 1) hx hb (xb_d D_M_valueType 13 rfl) (by decide) ?_
      refine lv_isub hx hb (xb_d D_M_valueType 14 rfl) ?_
      refine xb_call0 (D := D) (A := A) (σ := σ) (h := h5) (d := 2) (maxL := 3) (rest := []) (av := [.ref x0, .int 5, .int ((xb_i h5 x0 15) - 1)]) (fun T hT X => by obtain ⟨cb9, ra9, rb9, rc9⟩ := xb_recv (ci := 8) hR rfl hk1 (by decide); exact xt_invV X hx hown (hts _ m_939052ad) (hts _ m_29cc8c73) (hts _ m_3b1ac7ab) (xt_sigOf (hts _ m_8f062ecd)) nm_M_fail (by rw [hT]; exact ra9) rb9 rc9 (g := F0 m 27 ls [.int ((xb_i h5 x0 15) - 1), .int 5, .ref x0]) rfl (argsL := [.int 5, .int ((xb_i h5 x0 15) - 1)]) (rest := []) rfl rfl (by rw [hb]; exact (xb_d D_M_valueType 15 rfl))) (ok_M_fail l hfl D A σ x0 5 ((xb_i h5 x0 15) - 1) h5 _ hw) (hml.trans hl.1.symm) (by rw [hb]; exact (xb_d D_M_valueType 15 rfl)) (Nat.le_of_ble_eq_true rfl) (Nat.le_of_ble_eq_true rfl) (Nat.le_of_ble_eq_true rfl) (show k ≤ MC by omega) (show n ≤ MS by omega) (xt_w1 hB.1 m_8f062ecd) (xt_cdOf hB.1 m_8f062ecd) (hts _ m_d5ed7bed) hB hR hS hA (fun vv h8 H locs hq hEh8 hR hS => ?_)
      obtain ⟨rfl, hw⟩ := hq
      have hw := hw hEh8
      have hE := hE.tr hEh8
      refine W.eq (g2 := F0 m 30 ls []) rfl ?_
      exact am_M_valueType_L30 l hfl D A σ MC MS h0 Qr h8 hw p e s m args below meth c hC H locs ls k n hE (lv_sub hl [] rfl) hR hS (by omega) (by omega)

set_option maxRecDepth 100000 in
def T_M_wanted : List (Nat × Instr × Nat) := [(0, .aload_n 0, 1), (1, .invokevirtual 212, 3), (4, .istore_n 3, 1), (5, .aload_n 0, 1), (6, .getfield 193, 3), (9, .ifCond .ne 24, 3), (12, .iload_n 3, 1), (13, .iload_n 1, 1), (14, .if_icmp .lt 8, 3), (17, .iload_n 3, 1), (18, .iload_n 2, 1), (19, .if_icmp .le 14, 3), (22, .aload_n 0, 1), (23, .iconst 5, 1), (24, .aload_n 0, 1), (25, .getfield 202, 3), (28, .iconst 1, 1), (29, .isub, 1), (30, .invokevirtual 208, 3), (33, .return_, 1)]
theorem D_M_wanted : ∀ q ∈ T_M_wanted, decode b_M_wanted q.1 = .ok (q.2.1, q.2.2) := by decide +kernel

set_option maxHeartbeats 4000000 in
set_option maxRecDepth 100000 in
theorem am_M_wanted_L33 (l : Launch) (hfl : l.flags = pinnedFlags ++ [noTraceFlag]) (D : va_G) (A : Nat → Prop) (σ MC MS : Nat) (h0 : xb_H) (Qr : xb_H → Prop) (h : xb_H) (hw : w_M_wanted_L33 Qr h) : xb_am l D A σ 4 MC MS h0 (fun v h _ _ => v = none ∧ Qr h) (fun _ _ _ _ => False) y_M_wanted.cls y_M_wanted.name b_M_wanted 4 ([] : List ExceptionTableEntry) none 33 [] [] h 0 0 := by
  unfold w_M_wanted_L33 at hw
  intro p e s m args below meth c hC H locs ls k n hE hl hR hS hk hn
  obtain ⟨hx, hb, hown, hlocks, htab, hml, hr, hB, hA, hnm⟩ := id hC
  have hts := hB.1.1.at args
  exact xb_vret 0 0 hx hb hr hlocks (show k + 0 ≤ MC by omega) (show n + 0 ≤ MS by omega) hE hR hS (xb_d D_M_wanted 19 rfl) hw

set_option maxHeartbeats 4000000 in
set_option maxRecDepth 100000 in
theorem am_M_wanted_L22 (l : Launch) (hfl : l.flags = pinnedFlags ++ [noTraceFlag]) (D : va_G) (A : Nat → Prop) (σ MC MS : Nat) (h0 : xb_H) (Qr : xb_H → Prop) (x0 : Nat) (h : xb_H) (hw : w_M_wanted_L22 Qr x0 h) : xb_am l D A σ 4 MC MS h0 (fun v h _ _ => v = none ∧ Qr h) (fun _ _ _ _ => False) y_M_wanted.cls y_M_wanted.name b_M_wanted 4 ([] : List ExceptionTableEntry) none 22 [(0, .ref x0)] [] h 0 0 := by
  unfold w_M_wanted_L22 at hw
  intro p e s m args below meth c hC H locs ls k n hE hl hR hS hk hn
  obtain ⟨hx, hb, hown, hlocks, htab, hml, hr, hB, hA, hnm⟩ := id hC
  have hts := hB.1.1.at args
  refine lv_aload_n hx hb (xb_d D_M_wanted 12 rfl) rfl (lv_at hl 0 rfl) ?_
  refine lv_iconst (v := 5) hx hb (xb_d D_M_wanted 13 rfl) (by decide) ?_
  refine lv_aload_n hx hb (xb_d D_M_wanted 14 rfl) rfl (lv_at hl 0 rfl) ?_
  obtain ⟨hk1, hw⟩ := hw
  refine xb_getI (C := R_M) (T := F_M) (N := 97) hx hb 8 15 hts fin_M hown hR hk1 (by decide) rfl (by decide) rfl (hts _ m_6c2d27ad) (fun _ h9 => h9) (xb_d D_M_wanted 15 rfl) ?_
  refine lv_iconst (v := 1) hx hb (xb_d D_M_wanted 16 rfl) (by decide) ?_
  refine lv_isub hx hb (xb_d D_M_wanted 17 rfl) ?_
  refine xb_call0 (D := D) (A := A) (σ := σ) (h := h) (d := 2) (maxL := 3) (rest := []) (av := [.ref x0, .int 5, .int ((xb_i h x0 15) - 1)]) (fun T hT X => by obtain ⟨cb9, ra9, rb9, rc9⟩ := xb_recv (ci := 8) hR rfl hk1 (by decide); exact xt_invV X hx hown (hts _ m_939052ad) (hts _ m_29cc8c73) (hts _ m_3b1ac7ab) (xt_sigOf (hts _ m_8f062ecd)) nm_M_fail (by rw [hT]; exact ra9) rb9 rc9 (g := F0 m 30 ls [.int ((xb_i h x0 15) - 1), .int 5, .ref x0]) rfl (argsL := [.int 5, .int ((xb_i h x0 15) - 1)]) (rest := []) rfl rfl (by rw [hb]; exact (xb_d D_M_wanted 18 rfl))) (ok_M_fail l hfl D A σ x0 5 ((xb_i h x0 15) - 1) h _ hw) (hml.trans hl.1.symm) (by rw [hb]; exact (xb_d D_M_wanted 18 rfl)) (Nat.le_of_ble_eq_true rfl) (Nat.le_of_ble_eq_true rfl) (Nat.le_of_ble_eq_true rfl) (show k ≤ MC by omega) (show n ≤ MS by omega) (xt_w1 hB.1 m_8f062ecd) (xt_cdOf hB.1 m_8f062ecd) (hts _ m_d5ed7bed) hB hR hS hA (fun vv h2 H locs hq hEh2 hR hS => ?_)
  obtain ⟨rfl, hw⟩ := hq
  have hw := hw hEh2
  have hE := hE.tr hEh2
  refine W.eq (g2 := F0 m 33 ls []) rfl ?_
  exact am_M_wanted_L33 l hfl D A σ MC MS h0 Qr h2 hw p e s m args below meth c hC H locs ls k n hE (lv_sub hl [] rfl) hR hS (by omega) (by omega)

set_option maxHeartbeats 4000000 in
set_option maxRecDepth 100000 in
theorem ok_M_wanted (l : Launch) (hfl : l.flags = pinnedFlags ++ [noTraceFlag]) (D : va_G) (A : Nat → Prop) (σ : Nat) (x0 : Nat) (x1 : Int32) (x2 : Int32) (h : xb_H) (Qr : xb_H → Prop) (hw : w_M_wanted x0 x1 x2 h Qr) : xb_Met l y_M_wanted [.code y_M_wanted b_M_wanted 4 none] (xb_rm 4 0 0) (xb_Pc D A σ h [.ref x0, .int x1, .int x2]) (xb_Qc D A h 0 0 (fun v h _ _ => v = none ∧ Qr h) (fun _ _ _ _ => False)) A := by
  refine xb_ofAm (cc := b_M_wanted) (by decide) (Nat.le_of_ble_eq_true rfl) ?_
  unfold w_M_wanted at hw
  show xb_am l D A σ 4 0 0 h (fun v h _ _ => v = none ∧ Qr h) (fun _ _ _ _ => False) y_M_wanted.cls y_M_wanted.name b_M_wanted 4 ([] : List ExceptionTableEntry) none 0 [(0, .ref x0), (1, .int x1), (2, .int x2)] [] h 0 0
  obtain ⟨MC, hMC⟩ : ∃ x, x = 0 := ⟨_, rfl⟩
  obtain ⟨MS, hMS⟩ : ∃ x, x = 0 := ⟨_, rfl⟩
  rw [show xb_am l D A σ 4 0 0 = xb_am l D A σ 4 MC MS by rw [hMC, hMS]]
  obtain ⟨h0, hh0⟩ : ∃ x, x = h := ⟨_, rfl⟩
  rw [show xb_am l D A σ 4 MC MS h = xb_am l D A σ 4 MC MS h0 by rw [hh0]]
  intro p e s m args below meth c hC H locs ls k n hE hl hR hS hk hn
  obtain ⟨hx, hb, hown, hlocks, htab, hml, hr, hB, hA, hnm⟩ := id hC
  have hts := hB.1.1.at args
  refine lv_aload_n hx hb (xb_d D_M_wanted 0 rfl) rfl (lv_at hl 0 rfl) ?_
  obtain ⟨hk1, hw⟩ := hw
  refine xb_call0 (D := D) (A := A) (σ := σ) (h := h) (d := 3) (maxL := 2) (rest := []) (av := [.ref x0]) (fun T hT X => by obtain ⟨cb9, ra9, rb9, rc9⟩ := xb_recv (ci := 8) hR rfl hk1 (by decide); exact xt_invV X hx hown (hts _ m_0e978570) (hts _ m_40099f98) (hts _ m_a7dbfd07) (xt_sigOf (hts _ m_0af1ec6a)) nm_M_next (by rw [hT]; exact ra9) rb9 rc9 (g := F0 m 1 ls [.ref x0]) rfl (argsL := []) (rest := []) rfl rfl (by rw [hb]; exact (xb_d D_M_wanted 1 rfl))) (ok_M_next l hfl D A σ x0 h _ hw) (hml.trans hl.1.symm) (by rw [hb]; exact (xb_d D_M_wanted 1 rfl)) (Nat.le_of_ble_eq_true rfl) (Nat.le_of_ble_eq_true rfl) (Nat.le_of_ble_eq_true rfl) (show k ≤ MC by omega) (show n ≤ MS by omega) (xt_w1 hB.1 m_0af1ec6a) (xt_cdOf hB.1 m_0af1ec6a) (hts _ m_d5ed7bed) hB hR hS hA (fun vv h2 H locs hq hEh2 hR hS => ?_)
  obtain ⟨r3, rfl, hw⟩ := hq
  have hw := hw hEh2
  have hE := hE.tr hEh2
  refine W.eq (g2 := F0 m 4 ls [.int r3]) rfl ?_
  refine lv_istore_n hx hb (xb_d D_M_wanted 2 rfl) rfl hl (by decide) rfl (fun ls hl => ?_)
  have hl : lv_has ls 4 [(3, .int r3), (0, .ref x0), (1, .int x1), (2, .int x2)] := hl
  refine lv_aload_n hx hb (xb_d D_M_wanted 3 rfl) rfl (lv_at hl 1 rfl) ?_
  have hk1 : xb_k h2 x0 = 9 := hEh2.k hk1
  refine xb_getI (C := R_M) (T := F_M) (N := 97) hx hb 8 17 hts fin_M hown hR hk1 (by decide) rfl (by decide) rfl (hts _ m_ff69da61) (fun _ h9 => h9) (xb_d D_M_wanted 4 rfl) ?_
  refine lv_if_ne (tgt := 33) hx hb (xb_d D_M_wanted 5 rfl) rfl (fun hc4 => ?_) (fun hc4 => ?_)
  · have hw := hw.1 hc4
    exact am_M_wanted_L33 l hfl D A σ MC MS h0 Qr h2 hw p e s m args below meth c hC H locs ls k n hE (lv_sub hl [] rfl) hR hS (by omega) (by omega)
  · have hw := hw.2 hc4
    refine lv_iload_n hx hb (xb_d D_M_wanted 6 rfl) rfl (lv_at hl 0 rfl) ?_
    refine lv_iload_n hx hb (xb_d D_M_wanted 7 rfl) rfl (lv_at hl 2 rfl) ?_
    refine lv_icmp_lt (tgt := 22) hx hb (xb_d D_M_wanted 8 rfl) rfl (fun hc5 => ?_) (fun hc5 => ?_)
    · have hw := hw.1 hc5
      exact am_M_wanted_L22 l hfl D A σ MC MS h0 Qr x0 h2 hw p e s m args below meth c hC H locs ls k n hE (lv_sub hl [1] rfl) hR hS (by omega) (by omega)
    · have hw := hw.2 hc5
      refine lv_iload_n hx hb (xb_d D_M_wanted 9 rfl) rfl (lv_at hl 0 rfl) ?_
      refine lv_iload_n hx hb (xb_d D_M_wanted 10 rfl) rfl (lv_at hl 3 rfl) ?_
      refine lv_icmp_le (tgt := 33) hx hb (xb_d D_M_wanted 11 rfl) rfl (fun hc6 => ?_) (fun hc6 => ?_)
      · have hw := hw.1 hc6
        exact am_M_wanted_L33 l hfl D A σ MC MS h0 Qr h2 hw p e s m args below meth c hC H locs ls k n hE (lv_sub hl [] rfl) hR hS (by omega) (by omega)
      · have hw := hw.2 hc6
        exact am_M_wanted_L22 l hfl D A σ MC MS h0 Qr x0 h2 hw p e s m args below meth c hC H locs ls k n hE (lv_sub hl [1] rfl) hR hS (by omega) (by omega)

theorem m_3957194a : (.fieldLink "StackHostModel$Exact" 157 "StackHostModel$Exact" "code" "I" : Cond) ∈ xt_tbl := xt_in (xt_t9 (List.mem_of_getElem? (i := 104) (by decide +kernel))) (by decide +kernel)
theorem m_4fe1e435 : (.methodLink "StackHostModel$Exact" 160 y_Exact_divided : Cond) ∈ xt_tbl := xt_in (xt_t13 (List.mem_of_getElem? (i := 102) (by decide +kernel))) (by decide +kernel)
theorem m_f0f72ab9 : (.static y_Exact_divided : Cond) ∈ xt_tbl := xt_in (xt_t13 (List.mem_of_getElem? (i := 103) (by decide +kernel))) (by decide +kernel)
theorem m_ebf6cc91 : (.code y_Exact_divided b_Exact_divided 11 (some .long) : Cond) ∈ xt_tbl := xt_in (xt_t13 (List.mem_of_getElem? (i := 104) (by decide +kernel))) (by decide +kernel)
theorem nm_Exact_divided : xt_nm y_Exact_divided 3 := ⟨by decide +kernel, by decide +kernel⟩
set_option maxRecDepth 100000 in
def T_Exact_byDivision : List (Nat × Instr × Nat) := [(0, .iload_n 1, 1), (1, .bipush 6, 2), (3, .if_icmp .eq 9, 3), (6, .iload_n 1, 1), (7, .bipush 8, 2), (9, .if_icmp .ne 7, 3), (12, .iconst 1, 1), (13, .goto 4, 3), (16, .iconst 0, 1), (17, .istore 7, 2), (19, .iload_n 1, 1), (20, .bipush 7, 2), (22, .if_icmp .le 7, 3), (25, .iconst 1, 1), (26, .goto 4, 3), (29, .iconst 0, 1), (30, .istore 8, 2), (32, .lload 5, 2), (34, .lconst 0, 1), (35, .lcmp, 1), (36, .ifCond .ne 10, 3), (39, .aload_n 0, 1), (40, .iconst 2, 1), (41, .putfield 157, 3), (44, .lconst 0, 1), (45, .lreturn, 1), (46, .iload 7, 2), (48, .ifCond .ne 12, 3), (51, .lload_n 3, 1), (52, .lload 5, 2), (54, .iload 8, 2), (56, .invokestatic 160, 3), (59, .lreturn, 1), (60, .lload_n 3, 1), (61, .iload_n 2, 1), (62, .invokestatic 164, 3), (65, .lstore 9, 2), (67, .lload 5, 2), (69, .iload_n 2, 1), (70, .invokestatic 164, 3), (73, .lstore 11, 2), (75, .lload 9, 2), (77, .lconst 0, 1), (78, .lcmp, 1), (79, .ifCond .ge 9, 3), (82, .lload 9, 2), (84, .lneg, 1), (85, .goto 5, 3), (88, .lload 9, 2), (90, .lload 11, 2), (92, .lconst 0, 1), (93, .lcmp, 1), (94, .ifCond .ge 9, 3), (97, .lload 11, 2), (99, .lneg, 1), (100, .goto 5, 3), (103, .lload 11, 2), (105, .iload 8, 2), (107, .invokestatic 160, 3), (110, .lstore 13, 2), (112, .iload 8, 2), (114, .ifCond .eq 18, 3), (117, .lload 9, 2), (119, .lconst 0, 1), (120, .lcmp, 1), (121, .ifCond .ge 7, 3), (124, .iconst 1, 1), (125, .goto 39, 3), (128, .iconst 0, 1), (129, .goto 35, 3), (132, .lload 9, 2), (134, .lconst 0, 1), (135, .lcmp, 1), (136, .ifCond .ge 7, 3), (139, .iconst 1, 1), (140, .goto 4, 3), (143, .iconst 0, 1), (144, .lload 11, 2), (146, .lconst 0, 1), (147, .lcmp, 1), (148, .ifCond .ge 7, 3), (151, .iconst 1, 1), (152, .goto 4, 3), (155, .iconst 0, 1), (156, .if_icmp .eq 7, 3), (159, .iconst 1, 1), (160, .goto 4, 3), (163, .iconst 0, 1), (164, .istore 15, 2), (166, .iload 8, 2), (168, .ifCond .ne 26, 3), (171, .iload 15, 2), (173, .ifCond .ne 21, 3), (176, .lload 13, 2), (178, .lconst 1, 1), (179, .iload_n 2, 1), (180, .iconst 1, 1), (181, .isub, 1), (182, .lshl, 1), (183, .lcmp, 1), (184, .ifCond .ne 10, 3), (187, .aload_n 0, 1), (188, .iconst 3, 1), (189, .putfield 157, 3), (192, .lconst 0, 1), (193, .lreturn, 1), (194, .iload 15, 2), (196, .ifCond .eq 9, 3), (199, .lload 13, 2), (201, .lneg, 1), (202, .goto 5, 3), (205, .lload 13, 2), (207, .lreturn, 1)]
theorem D_Exact_byDivision : ∀ q ∈ T_Exact_byDivision, decode b_Exact_byDivision q.1 = .ok (q.2.1, q.2.2) := by decide +kernel

set_option maxHeartbeats 4000000 in
set_option maxRecDepth 100000 in
theorem am_Exact_byDivision_L207 (l : Launch) (hfl : l.flags = pinnedFlags ++ [noTraceFlag]) (D : va_G) (A : Nat → Prop) (σ MC MS : Nat) (h0 : xb_H) (Qr : Int64 → xb_H → Prop) (y0 : Int64) (h : xb_H) (hw : w_Exact_byDivision_L207 Qr y0 h) : xb_am l D A σ 4 MC MS h0 (fun v h _ _ => ∃ r, v = some (.long r) ∧ Qr r h) (fun _ _ _ _ => False) y_Exact_byDivision.cls y_Exact_byDivision.name b_Exact_byDivision 16 ([] : List ExceptionTableEntry) (some .long) 207 [] [.long y0] h 0 0 := by
  unfold w_Exact_byDivision_L207 at hw
  intro p e s m args below meth c hC H locs ls k n hE hl hR hS hk hn
  obtain ⟨hx, hb, hown, hlocks, htab, hml, hr, hB, hA, hnm⟩ := id hC
  have hts := hB.1.1.at args
  exact xb_lret 0 0 hx hb hr hlocks (show k + 0 ≤ MC by omega) (show n + 0 ≤ MS by omega) hE hR hS (xb_d D_Exact_byDivision 112 rfl) hw

set_option maxHeartbeats 4000000 in
set_option maxRecDepth 100000 in
theorem am_Exact_byDivision_L194 (l : Launch) (hfl : l.flags = pinnedFlags ++ [noTraceFlag]) (D : va_G) (A : Nat → Prop) (σ MC MS : Nat) (h0 : xb_H) (Qr : Int64 → xb_H → Prop) (x13 : Int64) (x15 : Int32) (h : xb_H) (hw : w_Exact_byDivision_L194 Qr x13 x15 h) : xb_am l D A σ 4 MC MS h0 (fun v h _ _ => ∃ r, v = some (.long r) ∧ Qr r h) (fun _ _ _ _ => False) y_Exact_byDivision.cls y_Exact_byDivision.name b_Exact_byDivision 16 ([] : List ExceptionTableEntry) (some .long) 194 [(13, .long x13), (15, .int x15)] [] h 0 0 := by
  unfold w_Exact_byDivision_L194 at hw
  intro p e s m args below meth c hC H locs ls k n hE hl hR hS hk hn
  obtain ⟨hx, hb, hown, hlocks, htab, hml, hr, hB, hA, hnm⟩ := id hC
  have hts := hB.1.1.at args
  refine lv_iload hx hb (xb_d D_Exact_byDivision 106 rfl) (lv_at hl 1 rfl) ?_
  refine lv_if_eq (tgt := 205) hx hb (xb_d D_Exact_byDivision 107 rfl) rfl (fun hc1 => ?_) (fun hc1 => ?_)
  · have hw := hw.1 hc1
    refine lv_lload hx hb (xb_d D_Exact_byDivision 111 rfl) (lv_at hl 0 rfl) ?_
    exact am_Exact_byDivision_L207 l hfl D A σ MC MS h0 Qr x13 h hw p e s m args below meth c hC H locs ls k n hE (lv_sub hl [] rfl) hR hS (by omega) (by omega)
  · have hw := hw.2 hc1
    refine lv_lload hx hb (xb_d D_Exact_byDivision 108 rfl) (lv_at hl 0 rfl) ?_
    refine lv_lneg hx hb (xb_d D_Exact_byDivision 109 rfl) ?_
    refine lv_goto (tgt := 207) hx hb (xb_d D_Exact_byDivision 110 rfl) rfl ?_
    exact am_Exact_byDivision_L207 l hfl D A σ MC MS h0 Qr (-x13) h hw p e s m args below meth c hC H locs ls k n hE (lv_sub hl [] rfl) hR hS (by omega) (by omega)

set_option maxHeartbeats 4000000 in
set_option maxRecDepth 100000 in
theorem am_Exact_byDivision_L164 (l : Launch) (hfl : l.flags = pinnedFlags ++ [noTraceFlag]) (D : va_G) (A : Nat → Prop) (σ MC MS : Nat) (h0 : xb_H) (Qr : Int64 → xb_H → Prop) (x0 : Nat) (x2 : Int32) (x8 : Int32) (x13 : Int64) (y0 : Int32) (h : xb_H) (hw : w_Exact_byDivision_L164 Qr x0 x2 x8 x13 y0 h) : xb_am l D A σ 4 MC MS h0 (fun v h _ _ => ∃ r, v = some (.long r) ∧ Qr r h) (fun _ _ _ _ => False) y_Exact_byDivision.cls y_Exact_byDivision.name b_Exact_byDivision 16 ([] : List ExceptionTableEntry) (some .long) 164 [(0, .ref x0), (2, .int x2), (8, .int x8), (13, .long x13)] [.int y0] h 0 0 := by
  unfold w_Exact_byDivision_L164 at hw
  intro p e s m args below meth c hC H locs ls k n hE hl hR hS hk hn
  obtain ⟨hx, hb, hown, hlocks, htab, hml, hr, hB, hA, hnm⟩ := id hC
  have hts := hB.1.1.at args
  refine lv_istore hx hb (xb_d D_Exact_byDivision 88 rfl) hl (by decide) rfl (fun ls hl => ?_)
  have hl : lv_has ls 16 [(15, .int y0), (0, .ref x0), (2, .int x2), (8, .int x8), (13, .long x13)] := hl
  refine lv_iload hx hb (xb_d D_Exact_byDivision 89 rfl) (lv_at hl 3 rfl) ?_
  refine lv_if_ne (tgt := 194) hx hb (xb_d D_Exact_byDivision 90 rfl) rfl (fun hc1 => ?_) (fun hc1 => ?_)
  · have hw := hw.1 hc1
    exact am_Exact_byDivision_L194 l hfl D A σ MC MS h0 Qr x13 y0 h hw p e s m args below meth c hC H locs ls k n hE (lv_sub hl [4, 0] rfl) hR hS (by omega) (by omega)
  · have hw := hw.2 hc1
    refine lv_iload hx hb (xb_d D_Exact_byDivision 91 rfl) (lv_at hl 0 rfl) ?_
    refine lv_if_ne (tgt := 194) hx hb (xb_d D_Exact_byDivision 92 rfl) rfl (fun hc2 => ?_) (fun hc2 => ?_)
    · have hw := hw.1 hc2
      exact am_Exact_byDivision_L194 l hfl D A σ MC MS h0 Qr x13 y0 h hw p e s m args below meth c hC H locs ls k n hE (lv_sub hl [4, 0] rfl) hR hS (by omega) (by omega)
    · have hw := hw.2 hc2
      refine lv_lload hx hb (xb_d D_Exact_byDivision 93 rfl) (lv_at hl 4 rfl) ?_
      refine lv_lconst (v := 1) hx hb (xb_d D_Exact_byDivision 94 rfl) (by decide) ?_
      refine lv_iload_n hx hb (xb_d D_Exact_byDivision 95 rfl) rfl (lv_at hl 2 rfl) ?_
      refine lv_iconst (v := 1) hx hb (xb_d D_Exact_byDivision 96 rfl) (by decide) ?_
      refine lv_isub hx hb (xb_d D_Exact_byDivision 97 rfl) ?_
      refine lv_lshl (v := (xb_lshl 1 (x2 - 1))) hx hb (xb_d D_Exact_byDivision 98 rfl) rfl ?_
      refine xb_lc_ne (tgt := 194) hx hb (xb_d D_Exact_byDivision 99 rfl) (xb_d D_Exact_byDivision 100 rfl) rfl (fun hc3 => ?_) (fun hc3 => ?_)
      · have hw := hw.1 hc3
        exact am_Exact_byDivision_L194 l hfl D A σ MC MS h0 Qr x13 y0 h hw p e s m args below meth c hC H locs ls k n hE (lv_sub hl [4, 0] rfl) hR hS (by omega) (by omega)
      · have hw := hw.2 hc3
        refine lv_aload_n hx hb (xb_d D_Exact_byDivision 101 rfl) rfl (lv_at hl 1 rfl) ?_
        refine lv_iconst (v := 3) hx hb (xb_d D_Exact_byDivision 102 rfl) (by decide) ?_
        obtain ⟨hk4, hw⟩ := hw
        refine xb_putI (C := R_Exact) (T := F_Exact) (N := 11) (ty := .int) (x := 3) hx hb 9 0 hts fin_Exact t_Exact t_Exact_ok n_Exact hown hR hS hk4 (by decide) rfl (by decide) rfl (hts _ m_3957194a) (fun _ h9 => h9) rfl (by decide +kernel) rfl rfl (xb_d D_Exact_byDivision 103 rfl) (fun H locs hR hS => ?_)
        obtain ⟨h5, eh5⟩ : ∃ x : xb_H, x = xb_I h x0 0 3 := ⟨_, rfl⟩
        rw [← eh5] at hR
        have hw := hw h5 eh5
        have hE : xb_ext h0 h5 := by rw [eh5]; exact hE
        refine lv_lconst (v := 0) hx hb (xb_d D_Exact_byDivision 104 rfl) (by decide) ?_
        exact xb_lret 0 0 hx hb hr hlocks (show k + 0 ≤ MC by omega) (show n + 0 ≤ MS by omega) hE hR hS (xb_d D_Exact_byDivision 105 rfl) hw

set_option maxHeartbeats 4000000 in
set_option maxRecDepth 100000 in
theorem am_Exact_byDivision_L156 (l : Launch) (hfl : l.flags = pinnedFlags ++ [noTraceFlag]) (D : va_G) (A : Nat → Prop) (σ MC MS : Nat) (h0 : xb_H) (Qr : Int64 → xb_H → Prop) (x0 : Nat) (x2 : Int32) (x8 : Int32) (x13 : Int64) (y0 : Int32) (y1 : Int32) (h : xb_H) (hw : w_Exact_byDivision_L156 Qr x0 x2 x8 x13 y0 y1 h) : xb_am l D A σ 4 MC MS h0 (fun v h _ _ => ∃ r, v = some (.long r) ∧ Qr r h) (fun _ _ _ _ => False) y_Exact_byDivision.cls y_Exact_byDivision.name b_Exact_byDivision 16 ([] : List ExceptionTableEntry) (some .long) 156 [(0, .ref x0), (2, .int x2), (8, .int x8), (13, .long x13)] [.int y0, .int y1] h 0 0 := by
  unfold w_Exact_byDivision_L156 at hw
  intro p e s m args below meth c hC H locs ls k n hE hl hR hS hk hn
  obtain ⟨hx, hb, hown, hlocks, htab, hml, hr, hB, hA, hnm⟩ := id hC
  have hts := hB.1.1.at args
  refine lv_icmp_eq (tgt := 163) hx hb (xb_d D_Exact_byDivision 84 rfl) rfl (fun hc1 => ?_) (fun hc1 => ?_)
  · have hw := hw.1 hc1
    refine lv_iconst (v := 0) hx hb (xb_d D_Exact_byDivision 87 rfl) (by decide) ?_
    exact am_Exact_byDivision_L164 l hfl D A σ MC MS h0 Qr x0 x2 x8 x13 0 h hw p e s m args below meth c hC H locs ls k n hE (lv_sub hl [0, 1, 2, 3] rfl) hR hS (by omega) (by omega)
  · have hw := hw.2 hc1
    refine lv_iconst (v := 1) hx hb (xb_d D_Exact_byDivision 85 rfl) (by decide) ?_
    refine lv_goto (tgt := 164) hx hb (xb_d D_Exact_byDivision 86 rfl) rfl ?_
    exact am_Exact_byDivision_L164 l hfl D A σ MC MS h0 Qr x0 x2 x8 x13 1 h hw p e s m args below meth c hC H locs ls k n hE (lv_sub hl [0, 1, 2, 3] rfl) hR hS (by omega) (by omega)

set_option maxHeartbeats 4000000 in
set_option maxRecDepth 100000 in
theorem am_Exact_byDivision_L144 (l : Launch) (hfl : l.flags = pinnedFlags ++ [noTraceFlag]) (D : va_G) (A : Nat → Prop) (σ MC MS : Nat) (h0 : xb_H) (Qr : Int64 → xb_H → Prop) (x0 : Nat) (x2 : Int32) (x8 : Int32) (x11 : Int64) (x13 : Int64) (y0 : Int32) (h : xb_H) (hw : w_Exact_byDivision_L144 Qr x0 x2 x8 x11 x13 y0 h) : xb_am l D A σ 4 MC MS h0 (fun v h _ _ => ∃ r, v = some (.long r) ∧ Qr r h) (fun _ _ _ _ => False) y_Exact_byDivision.cls y_Exact_byDivision.name b_Exact_byDivision 16 ([] : List ExceptionTableEntry) (some .long) 144 [(0, .ref x0), (2, .int x2), (8, .int x8), (11, .long x11), (13, .long x13)] [.int y0] h 0 0 := by
  unfold w_Exact_byDivision_L144 at hw
  intro p e s m args below meth c hC H locs ls k n hE hl hR hS hk hn
  obtain ⟨hx, hb, hown, hlocks, htab, hml, hr, hB, hA, hnm⟩ := id hC
  have hts := hB.1.1.at args
  refine lv_lload hx hb (xb_d D_Exact_byDivision 77 rfl) (lv_at hl 3 rfl) ?_
  refine lv_lconst (v := 0) hx hb (xb_d D_Exact_byDivision 78 rfl) (by decide) ?_
  refine xb_lc_ge (tgt := 155) hx hb (xb_d D_Exact_byDivision 79 rfl) (xb_d D_Exact_byDivision 80 rfl) rfl (fun hc1 => ?_) (fun hc1 => ?_)
  · have hw := hw.1 hc1
    refine lv_iconst (v := 0) hx hb (xb_d D_Exact_byDivision 83 rfl) (by decide) ?_
    exact am_Exact_byDivision_L156 l hfl D A σ MC MS h0 Qr x0 x2 x8 x13 0 y0 h hw p e s m args below meth c hC H locs ls k n hE (lv_sub hl [0, 1, 2, 4] rfl) hR hS (by omega) (by omega)
  · have hw := hw.2 hc1
    refine lv_iconst (v := 1) hx hb (xb_d D_Exact_byDivision 81 rfl) (by decide) ?_
    refine lv_goto (tgt := 156) hx hb (xb_d D_Exact_byDivision 82 rfl) rfl ?_
    exact am_Exact_byDivision_L156 l hfl D A σ MC MS h0 Qr x0 x2 x8 x13 1 y0 h hw p e s m args below meth c hC H locs ls k n hE (lv_sub hl [0, 1, 2, 4] rfl) hR hS (by omega) (by omega)

set_option maxHeartbeats 4000000 in
set_option maxRecDepth 100000 in
theorem am_Exact_byDivision_L105 (l : Launch) (hfl : l.flags = pinnedFlags ++ [noTraceFlag]) (D : va_G) (A : Nat → Prop) (σ MC MS : Nat) (h0 : xb_H) (Qr : Int64 → xb_H → Prop) (x0 : Nat) (x2 : Int32) (x8 : Int32) (x9 : Int64) (x11 : Int64) (y0 : Int64) (y1 : Int64) (h : xb_H) (hw : w_Exact_byDivision_L105 Qr x0 x2 x8 x9 x11 y0 y1 h) : xb_am l D A σ 4 MC MS h0 (fun v h _ _ => ∃ r, v = some (.long r) ∧ Qr r h) (fun _ _ _ _ => False) y_Exact_byDivision.cls y_Exact_byDivision.name b_Exact_byDivision 16 ([] : List ExceptionTableEntry) (some .long) 105 [(0, .ref x0), (2, .int x2), (8, .int x8), (9, .long x9), (11, .long x11)] [.long y0, .long y1] h 0 0 := by
  unfold w_Exact_byDivision_L105 at hw
  intro p e s m args below meth c hC H locs ls k n hE hl hR hS hk hn
  obtain ⟨hx, hb, hown, hlocks, htab, hml, hr, hB, hA, hnm⟩ := id hC
  have hts := hB.1.1.at args
  refine lv_iload hx hb (xb_d D_Exact_byDivision 57 rfl) (lv_at hl 2 rfl) ?_
  refine xb_call0 (D := D) (A := A) (σ := σ) (h := h) (d := 3) (maxL := 11) (rest := []) (av := [.long y1, .long y0, .int x8]) (fun T hT X => xt_invS X hx hown (hts _ m_4fe1e435) (hts _ m_f0f72ab9) (hts _ m_b807310b) (xt_sgS (hts _ m_ebf6cc91)).1 (xt_sgS (hts _ m_ebf6cc91)).2 nm_Exact_divided (g := F0 m 107 ls [.int x8, .long y0, .long y1]) rfl (argsL := [.long y1, .long y0, .int x8]) (rest := []) rfl rfl (by rw [hb]; exact (xb_d D_Exact_byDivision 58 rfl))) (ok_Exact_divided l hfl D A σ y1 y0 x8 h _ hw) (hml.trans hl.1.symm) (by rw [hb]; exact (xb_d D_Exact_byDivision 58 rfl)) (Nat.le_of_ble_eq_true rfl) (Nat.le_of_ble_eq_true rfl) (Nat.le_of_ble_eq_true rfl) (show k ≤ MC by omega) (show n ≤ MS by omega) (xt_w1 hB.1 m_ebf6cc91) (xt_cdOf hB.1 m_ebf6cc91) (hts _ m_b807310b) hB hR hS hA (fun vv h1 H locs hq hEh1 hR hS => ?_)
  obtain ⟨r2, rfl, hw⟩ := hq
  have hw := hw hEh1
  have hE := hE.tr hEh1
  refine W.eq (g2 := F0 m 110 ls [.long r2]) rfl ?_
  refine lv_lstore hx hb (xb_d D_Exact_byDivision 59 rfl) hl (by decide) rfl (fun ls hl => ?_)
  have hl : lv_has ls 16 [(13, .long r2), (0, .ref x0), (2, .int x2), (8, .int x8), (9, .long x9), (11, .long x11)] := hl
  refine lv_iload hx hb (xb_d D_Exact_byDivision 60 rfl) (lv_at hl 3 rfl) ?_
  refine lv_if_eq (tgt := 132) hx hb (xb_d D_Exact_byDivision 61 rfl) rfl (fun hc3 => ?_) (fun hc3 => ?_)
  · have hw := hw.1 hc3
    refine lv_lload hx hb (xb_d D_Exact_byDivision 70 rfl) (lv_at hl 4 rfl) ?_
    refine lv_lconst (v := 0) hx hb (xb_d D_Exact_byDivision 71 rfl) (by decide) ?_
    refine xb_lc_ge (tgt := 143) hx hb (xb_d D_Exact_byDivision 72 rfl) (xb_d D_Exact_byDivision 73 rfl) rfl (fun hc4 => ?_) (fun hc4 => ?_)
    · have hw := hw.1 hc4
      refine lv_iconst (v := 0) hx hb (xb_d D_Exact_byDivision 76 rfl) (by decide) ?_
      exact am_Exact_byDivision_L144 l hfl D A σ MC MS h0 Qr x0 x2 x8 x11 r2 0 h1 hw p e s m args below meth c hC H locs ls k n hE (lv_sub hl [1, 2, 3, 5, 0] rfl) hR hS (by omega) (by omega)
    · have hw := hw.2 hc4
      refine lv_iconst (v := 1) hx hb (xb_d D_Exact_byDivision 74 rfl) (by decide) ?_
      refine lv_goto (tgt := 144) hx hb (xb_d D_Exact_byDivision 75 rfl) rfl ?_
      exact am_Exact_byDivision_L144 l hfl D A σ MC MS h0 Qr x0 x2 x8 x11 r2 1 h1 hw p e s m args below meth c hC H locs ls k n hE (lv_sub hl [1, 2, 3, 5, 0] rfl) hR hS (by omega) (by omega)
  · have hw := hw.2 hc3
    refine lv_lload hx hb (xb_d D_Exact_byDivision 62 rfl) (lv_at hl 4 rfl) ?_
    refine lv_lconst (v := 0) hx hb (xb_d D_Exact_byDivision 63 rfl) (by decide) ?_
    refine xb_lc_ge (tgt := 128) hx hb (xb_d D_Exact_byDivision 64 rfl) (xb_d D_Exact_byDivision 65 rfl) rfl (fun hc5 => ?_) (fun hc5 => ?_)
    · have hw := hw.1 hc5
      refine lv_iconst (v := 0) hx hb (xb_d D_Exact_byDivision 68 rfl) (by decide) ?_
      refine lv_goto (tgt := 164) hx hb (xb_d D_Exact_byDivision 69 rfl) rfl ?_
      exact am_Exact_byDivision_L164 l hfl D A σ MC MS h0 Qr x0 x2 x8 r2 0 h1 hw p e s m args below meth c hC H locs ls k n hE (lv_sub hl [1, 2, 3, 0] rfl) hR hS (by omega) (by omega)
    · have hw := hw.2 hc5
      refine lv_iconst (v := 1) hx hb (xb_d D_Exact_byDivision 66 rfl) (by decide) ?_
      refine lv_goto (tgt := 164) hx hb (xb_d D_Exact_byDivision 67 rfl) rfl ?_
      exact am_Exact_byDivision_L164 l hfl D A σ MC MS h0 Qr x0 x2 x8 r2 1 h1 hw p e s m args below meth c hC H locs ls k n hE (lv_sub hl [1, 2, 3, 0] rfl) hR hS (by omega) (by omega)

set_option maxHeartbeats 4000000 in
set_option maxRecDepth 100000 in
theorem am_Exact_byDivision_L90 (l : Launch) (hfl : l.flags = pinnedFlags ++ [noTraceFlag]) (D : va_G) (A : Nat → Prop) (σ MC MS : Nat) (h0 : xb_H) (Qr : Int64 → xb_H → Prop) (x0 : Nat) (x2 : Int32) (x8 : Int32) (x9 : Int64) (x11 : Int64) (y0 : Int64) (h : xb_H) (hw : w_Exact_byDivision_L90 Qr x0 x2 x8 x9 x11 y0 h) : xb_am l D A σ 4 MC MS h0 (fun v h _ _ => ∃ r, v = some (.long r) ∧ Qr r h) (fun _ _ _ _ => False) y_Exact_byDivision.cls y_Exact_byDivision.name b_Exact_byDivision 16 ([] : List ExceptionTableEntry) (some .long) 90 [(0, .ref x0), (2, .int x2), (8, .int x8), (9, .long x9), (11, .long x11)] [.long y0] h 0 0 := by
  unfold w_Exact_byDivision_L90 at hw
  intro p e s m args below meth c hC H locs ls k n hE hl hR hS hk hn
  obtain ⟨hx, hb, hown, hlocks, htab, hml, hr, hB, hA, hnm⟩ := id hC
  have hts := hB.1.1.at args
  refine lv_lload hx hb (xb_d D_Exact_byDivision 49 rfl) (lv_at hl 4 rfl) ?_
  refine lv_lconst (v := 0) hx hb (xb_d D_Exact_byDivision 50 rfl) (by decide) ?_
  refine xb_lc_ge (tgt := 103) hx hb (xb_d D_Exact_byDivision 51 rfl) (xb_d D_Exact_byDivision 52 rfl) rfl (fun hc1 => ?_) (fun hc1 => ?_)
  · have hw := hw.1 hc1
    refine lv_lload hx hb (xb_d D_Exact_byDivision 56 rfl) (lv_at hl 4 rfl) ?_
    exact am_Exact_byDivision_L105 l hfl D A σ MC MS h0 Qr x0 x2 x8 x9 x11 x11 y0 h hw p e s m args below meth c hC H locs ls k n hE (lv_sub hl [0, 1, 2, 3, 4] rfl) hR hS (by omega) (by omega)
  · have hw := hw.2 hc1
    refine lv_lload hx hb (xb_d D_Exact_byDivision 53 rfl) (lv_at hl 4 rfl) ?_
    refine lv_lneg hx hb (xb_d D_Exact_byDivision 54 rfl) ?_
    refine lv_goto (tgt := 105) hx hb (xb_d D_Exact_byDivision 55 rfl) rfl ?_
    exact am_Exact_byDivision_L105 l hfl D A σ MC MS h0 Qr x0 x2 x8 x9 x11 (-x11) y0 h hw p e s m args below meth c hC H locs ls k n hE (lv_sub hl [0, 1, 2, 3, 4] rfl) hR hS (by omega) (by omega)

set_option maxHeartbeats 4000000 in
set_option maxRecDepth 100000 in
theorem am_Exact_byDivision_L30 (l : Launch) (hfl : l.flags = pinnedFlags ++ [noTraceFlag]) (D : va_G) (A : Nat → Prop) (σ MC MS : Nat) (h0 : xb_H) (Qr : Int64 → xb_H → Prop) (x0 : Nat) (x2 : Int32) (x3 : Int64) (x5 : Int64) (x7 : Int32) (y0 : Int32) (h : xb_H) (hw : w_Exact_byDivision_L30 Qr x0 x2 x3 x5 x7 y0 h) : xb_am l D A σ 4 MC MS h0 (fun v h _ _ => ∃ r, v = some (.long r) ∧ Qr r h) (fun _ _ _ _ => False) y_Exact_byDivision.cls y_Exact_byDivision.name b_Exact_byDivision 16 ([] : List ExceptionTableEntry) (some .long) 30 [(0, .ref x0), (2, .int x2), (3, .long x3), (5, .long x5), (7, .int x7)] [.int y0] h 0 0 := by
  unfold w_Exact_byDivision_L30 at hw
  intro p e s m args below meth c hC H locs ls k n hE hl hR hS hk hn
  obtain ⟨hx, hb, hown, hlocks, htab, hml, hr, hB, hA, hnm⟩ := id hC
  have hts := hB.1.1.at args
  refine lv_istore hx hb (xb_d D_Exact_byDivision 16 rfl) hl (by decide) rfl (fun ls hl => ?_)
  have hl : lv_has ls 16 [(8, .int y0), (0, .ref x0), (2, .int x2), (3, .long x3), (5, .long x5), (7, .int x7)] := hl
  refine lv_lload hx hb (xb_d D_Exact_byDivision 17 rfl) (lv_at hl 4 rfl) ?_
  refine lv_lconst (v := 0) hx hb (xb_d D_Exact_byDivision 18 rfl) (by decide) ?_
  refine xb_lc_ne (tgt := 46) hx hb (xb_d D_Exact_byDivision 19 rfl) (xb_d D_Exact_byDivision 20 rfl) rfl (fun hc1 => ?_) (fun hc1 => ?_)
  · have hw := hw.1 hc1
    refine lv_iload hx hb (xb_d D_Exact_byDivision 26 rfl) (lv_at hl 5 rfl) ?_
    refine lv_if_ne (tgt := 60) hx hb (xb_d D_Exact_byDivision 27 rfl) rfl (fun hc2 => ?_) (fun hc2 => ?_)
    · have hw := hw.1 hc2
      refine lv_lload_n hx hb (xb_d D_Exact_byDivision 33 rfl) rfl (lv_at hl 3 rfl) ?_
      refine lv_iload_n hx hb (xb_d D_Exact_byDivision 34 rfl) rfl (lv_at hl 2 rfl) ?_
      refine xb_call0 (D := D) (A := A) (σ := σ) (h := h) (d := 2) (maxL := 3) (rest := []) (av := [.long x3, .int x2]) (fun T hT X => xt_invS X hx hown (hts _ m_a66ea30b) (hts _ m_ccb01543) (hts _ m_b807310b) (xt_sgS (hts _ m_dcff08ea)).1 (xt_sgS (hts _ m_dcff08ea)).2 nm_Exact_withSign (g := F0 m 62 ls [.int x2, .long x3]) rfl (argsL := [.long x3, .int x2]) (rest := []) rfl rfl (by rw [hb]; exact (xb_d D_Exact_byDivision 35 rfl))) (ok_Exact_withSign l hfl D A σ x3 x2 h _ hw) (hml.trans hl.1.symm) (by rw [hb]; exact (xb_d D_Exact_byDivision 35 rfl)) (Nat.le_of_ble_eq_true rfl) (Nat.le_of_ble_eq_true rfl) (Nat.le_of_ble_eq_true rfl) (show k ≤ MC by omega) (show n ≤ MS by omega) (xt_w1 hB.1 m_dcff08ea) (xt_cdOf hB.1 m_dcff08ea) (hts _ m_b807310b) hB hR hS hA (fun vv h3 H locs hq hEh3 hR hS => ?_)
      obtain ⟨r4, rfl, hw⟩ := hq
      have hw := hw hEh3
      have hE := hE.tr hEh3
      refine W.eq (g2 := F0 m 65 ls [.long r4]) rfl ?_
      refine lv_lstore hx hb (xb_d D_Exact_byDivision 36 rfl) hl (by decide) rfl (fun ls hl => ?_)
      have hl : lv_has ls 16 [(9, .long r4), (8, .int y0), (0, .ref x0), (2, .int x2), (3, .long x3), (5, .long x5), (7, .int x7)] := hl
      refine lv_lload hx hb (xb_d D_Exact_byDivision 37 rfl) (lv_at hl 5 rfl) ?_
      refine lv_iload_n hx hb (xb_d D_Exact_byDivision 38 rfl) rfl (lv_at hl 3 rfl) ?_
      refine xb_call0 (D := D) (A := A) (σ := σ) (h := h3) (d := 2) (maxL := 3) (rest := []) (av := [.long x5, .int x2]) (fun T hT X => xt_invS X hx hown (hts _ m_a66ea30b) (hts _ m_ccb01543) (hts _ m_b807310b) (xt_sgS (hts _ m_dcff08ea)).1 (xt_sgS (hts _ m_dcff08ea)).2 nm_Exact_withSign (g := F0 m 70 ls [.int x2, .long x5]) rfl (argsL := [.long x5, .int x2]) (rest := []) rfl rfl (by rw [hb]; exact (xb_d D_Exact_byDivision 39 rfl))) (ok_Exact_withSign l hfl D A σ x5 x2 h3 _ hw) (hml.trans hl.1.symm) (by rw [hb]; exact (xb_d D_Exact_byDivision 39 rfl)) (Nat.le_of_ble_eq_true rfl) (Nat.le_of_ble_eq_true rfl) (Nat.le_of_ble_eq_true rfl) (show k ≤ MC by omega) (show n ≤ MS by omega) (xt_w1 hB.1 m_dcff08ea) (xt_cdOf hB.1 m_dcff08ea) (hts _ m_b807310b) hB hR hS hA (fun vv h5 H locs hq hEh5 hR hS => ?_)
      obtain ⟨r6, rfl, hw⟩ := hq
      have hw := hw hEh5
      have hE := hE.tr hEh5
      refine W.eq (g2 := F0 m 73 ls [.long r6]) rfl ?_
      refine lv_lstore hx hb (xb_d D_Exact_byDivision 40 rfl) hl (by decide) rfl (fun ls hl => ?_)
      have hl : lv_has ls 16 [(11, .long r6), (9, .long r4), (8, .int y0), (0, .ref x0), (2, .int x2), (3, .long x3), (5, .long x5), (7, .int x7)] := hl
      refine lv_lload hx hb (xb_d D_Exact_byDivision 41 rfl) (lv_at hl 1 rfl) ?_
      refine lv_lconst (v := 0) hx hb (xb_d D_Exact_byDivision 42 rfl) (by decide) ?_
      refine xb_lc_ge (tgt := 88) hx hb (xb_d D_Exact_byDivision 43 rfl) (xb_d D_Exact_byDivision 44 rfl) rfl (fun hc7 => ?_) (fun hc7 => ?_)
      · have hw := hw.1 hc7
        refine lv_lload hx hb (xb_d D_Exact_byDivision 48 rfl) (lv_at hl 1 rfl) ?_
        exact am_Exact_byDivision_L90 l hfl D A σ MC MS h0 Qr x0 x2 y0 r4 r6 r4 h5 hw p e s m args below meth c hC H locs ls k n hE (lv_sub hl [3, 4, 2, 1, 0] rfl) hR hS (by omega) (by omega)
      · have hw := hw.2 hc7
        refine lv_lload hx hb (xb_d D_Exact_byDivision 45 rfl) (lv_at hl 1 rfl) ?_
        refine lv_lneg hx hb (xb_d D_Exact_byDivision 46 rfl) ?_
        refine lv_goto (tgt := 90) hx hb (xb_d D_Exact_byDivision 47 rfl) rfl ?_
        exact am_Exact_byDivision_L90 l hfl D A σ MC MS h0 Qr x0 x2 y0 r4 r6 (-r4) h5 hw p e s m args below meth c hC H locs ls k n hE (lv_sub hl [3, 4, 2, 1, 0] rfl) hR hS (by omega) (by omega)
    · have hw := hw.2 hc2
      refine lv_lload_n hx hb (xb_d D_Exact_byDivision 28 rfl) rfl (lv_at hl 3 rfl) ?_
      refine lv_lload hx hb (xb_d D_Exact_byDivision 29 rfl) (lv_at hl 4 rfl) ?_
      refine lv_iload hx hb (xb_d D_Exact_byDivision 30 rfl) (lv_at hl 0 rfl) ?_
      refine xb_call0 (D := D) (A := A) (σ := σ) (h := h) (d := 3) (maxL := 11) (rest := []) (av := [.long x3, .long x5, .int y0]) (fun T hT X => xt_invS X hx hown (hts _ m_4fe1e435) (hts _ m_f0f72ab9) (hts _ m_b807310b) (xt_sgS (hts _ m_ebf6cc91)).1 (xt_sgS (hts _ m_ebf6cc91)).2 nm_Exact_divided (g := F0 m 56 ls [.int y0, .long x5, .long x3]) rfl (argsL := [.long x3, .long x5, .int y0]) (rest := []) rfl rfl (by rw [hb]; exact (xb_d D_Exact_byDivision 31 rfl))) (ok_Exact_divided l hfl D A σ x3 x5 y0 h _ hw) (hml.trans hl.1.symm) (by rw [hb]; exact (xb_d D_Exact_byDivision 31 rfl)) (Nat.le_of_ble_eq_true rfl) (Nat.le_of_ble_eq_true rfl) (Nat.le_of_ble_eq_true rfl) (show k ≤ MC by omega) (show n ≤ MS by omega) (xt_w1 hB.1 m_ebf6cc91) (xt_cdOf hB.1 m_ebf6cc91) (hts _ m_b807310b) hB hR hS hA (fun vv h8 H locs hq hEh8 hR hS => ?_)
      obtain ⟨r9, rfl, hw⟩ := hq
      have hw := hw hEh8
      have hE := hE.tr hEh8
      refine W.eq (g2 := F0 m 59 ls [.long r9]) rfl ?_
      exact xb_lret 0 0 hx hb hr hlocks (show k + 0 ≤ MC by omega) (show n + 0 ≤ MS by omega) hE hR hS (xb_d D_Exact_byDivision 32 rfl) hw
  · have hw := hw.2 hc1
    refine lv_aload_n hx hb (xb_d D_Exact_byDivision 21 rfl) rfl (lv_at hl 1 rfl) ?_
    refine lv_iconst (v := 2) hx hb (xb_d D_Exact_byDivision 22 rfl) (by decide) ?_
    obtain ⟨hk10, hw⟩ := hw
    refine xb_putI (C := R_Exact) (T := F_Exact) (N := 11) (ty := .int) (x := 2) hx hb 9 0 hts fin_Exact t_Exact t_Exact_ok n_Exact hown hR hS hk10 (by decide) rfl (by decide) rfl (hts _ m_3957194a) (fun _ h9 => h9) rfl (by decide +kernel) rfl rfl (xb_d D_Exact_byDivision 23 rfl) (fun H locs hR hS => ?_)
    obtain ⟨h11, eh11⟩ : ∃ x : xb_H, x = xb_I h x0 0 2 := ⟨_, rfl⟩
    rw [← eh11] at hR
    have hw := hw h11 eh11
    have hE : xb_ext h0 h11 := by rw [eh11]; exact hE
    refine lv_lconst (v := 0) hx hb (xb_d D_Exact_byDivision 24 rfl) (by decide) ?_
    exact xb_lret 0 0 hx hb hr hlocks (show k + 0 ≤ MC by omega) (show n + 0 ≤ MS by omega) hE hR hS (xb_d D_Exact_byDivision 25 rfl) hw

set_option maxHeartbeats 4000000 in
set_option maxRecDepth 100000 in
theorem am_Exact_byDivision_L17 (l : Launch) (hfl : l.flags = pinnedFlags ++ [noTraceFlag]) (D : va_G) (A : Nat → Prop) (σ MC MS : Nat) (h0 : xb_H) (Qr : Int64 → xb_H → Prop) (x0 : Nat) (x1 : Int32) (x2 : Int32) (x3 : Int64) (x5 : Int64) (y0 : Int32) (h : xb_H) (hw : w_Exact_byDivision_L17 Qr x0 x1 x2 x3 x5 y0 h) : xb_am l D A σ 4 MC MS h0 (fun v h _ _ => ∃ r, v = some (.long r) ∧ Qr r h) (fun _ _ _ _ => False) y_Exact_byDivision.cls y_Exact_byDivision.name b_Exact_byDivision 16 ([] : List ExceptionTableEntry) (some .long) 17 [(0, .ref x0), (1, .int x1), (2, .int x2), (3, .long x3), (5, .long x5)] [.int y0] h 0 0 := by
  unfold w_Exact_byDivision_L17 at hw
  intro p e s m args below meth c hC H locs ls k n hE hl hR hS hk hn
  obtain ⟨hx, hb, hown, hlocks, htab, hml, hr, hB, hA, hnm⟩ := id hC
  have hts := hB.1.1.at args
  refine lv_istore hx hb (xb_d D_Exact_byDivision 9 rfl) hl (by decide) rfl (fun ls hl => ?_)
  have hl : lv_has ls 16 [(7, .int y0), (0, .ref x0), (1, .int x1), (2, .int x2), (3, .long x3), (5, .long x5)] := hl
  refine lv_iload_n hx hb (xb_d D_Exact_byDivision 10 rfl) rfl (lv_at hl 2 rfl) ?_
  refine lv_bipush (v := 7) hx hb (xb_d D_Exact_byDivision 11 rfl) (by decide) ?_
  refine lv_icmp_le (tgt := 29) hx hb (xb_d D_Exact_byDivision 12 rfl) rfl (fun hc1 => ?_) (fun hc1 => ?_)
  · have hw := hw.1 hc1
    refine lv_iconst (v := 0) hx hb (xb_d D_Exact_byDivision 15 rfl) (by decide) ?_
    exact am_Exact_byDivision_L30 l hfl D A σ MC MS h0 Qr x0 x2 x3 x5 y0 0 h hw p e s m args below meth c hC H locs ls k n hE (lv_sub hl [1, 3, 4, 5, 0] rfl) hR hS (by omega) (by omega)
  · have hw := hw.2 hc1
    refine lv_iconst (v := 1) hx hb (xb_d D_Exact_byDivision 13 rfl) (by decide) ?_
    refine lv_goto (tgt := 30) hx hb (xb_d D_Exact_byDivision 14 rfl) rfl ?_
    exact am_Exact_byDivision_L30 l hfl D A σ MC MS h0 Qr x0 x2 x3 x5 y0 1 h hw p e s m args below meth c hC H locs ls k n hE (lv_sub hl [1, 3, 4, 5, 0] rfl) hR hS (by omega) (by omega)

set_option maxHeartbeats 4000000 in
set_option maxRecDepth 100000 in
theorem am_Exact_byDivision_L12 (l : Launch) (hfl : l.flags = pinnedFlags ++ [noTraceFlag]) (D : va_G) (A : Nat → Prop) (σ MC MS : Nat) (h0 : xb_H) (Qr : Int64 → xb_H → Prop) (x0 : Nat) (x1 : Int32) (x2 : Int32) (x3 : Int64) (x5 : Int64) (h : xb_H) (hw : w_Exact_byDivision_L12 Qr x0 x1 x2 x3 x5 h) : xb_am l D A σ 4 MC MS h0 (fun v h _ _ => ∃ r, v = some (.long r) ∧ Qr r h) (fun _ _ _ _ => False) y_Exact_byDivision.cls y_Exact_byDivision.name b_Exact_byDivision 16 ([] : List ExceptionTableEntry) (some .long) 12 [(0, .ref x0), (1, .int x1), (2, .int x2), (3, .long x3), (5, .long x5)] [] h 0 0 := by
  unfold w_Exact_byDivision_L12 at hw
  intro p e s m args below meth c hC H locs ls k n hE hl hR hS hk hn
  obtain ⟨hx, hb, hown, hlocks, htab, hml, hr, hB, hA, hnm⟩ := id hC
  have hts := hB.1.1.at args
  refine lv_iconst (v := 1) hx hb (xb_d D_Exact_byDivision 6 rfl) (by decide) ?_
  refine lv_goto (tgt := 17) hx hb (xb_d D_Exact_byDivision 7 rfl) rfl ?_
  exact am_Exact_byDivision_L17 l hfl D A σ MC MS h0 Qr x0 x1 x2 x3 x5 1 h hw p e s m args below meth c hC H locs ls k n hE (lv_sub hl [0, 1, 2, 3, 4] rfl) hR hS (by omega) (by omega)

set_option maxHeartbeats 4000000 in
set_option maxRecDepth 100000 in
theorem ok_Exact_byDivision (l : Launch) (hfl : l.flags = pinnedFlags ++ [noTraceFlag]) (D : va_G) (A : Nat → Prop) (σ : Nat) (x0 : Nat) (x1 : Int32) (x2 : Int32) (x3 : Int64) (x5 : Int64) (h : xb_H) (Qr : Int64 → xb_H → Prop) (hw : w_Exact_byDivision x0 x1 x2 x3 x5 h Qr) : xb_Met l y_Exact_byDivision [.code y_Exact_byDivision b_Exact_byDivision 16 (some .long)] (xb_rm 4 0 0) (xb_Pc D A σ h [.ref x0, .int x1, .int x2, .long x3, .long x5]) (xb_Qc D A h 0 0 (fun v h _ _ => ∃ r, v = some (.long r) ∧ Qr r h) (fun _ _ _ _ => False)) A := by
  refine xb_ofAm (cc := b_Exact_byDivision) (by decide) (Nat.le_of_ble_eq_true rfl) ?_
  unfold w_Exact_byDivision at hw
  show xb_am l D A σ 4 0 0 h (fun v h _ _ => ∃ r, v = some (.long r) ∧ Qr r h) (fun _ _ _ _ => False) y_Exact_byDivision.cls y_Exact_byDivision.name b_Exact_byDivision 16 ([] : List ExceptionTableEntry) (some .long) 0 [(0, .ref x0), (1, .int x1), (2, .int x2), (3, .long x3), (5, .long x5)] [] h 0 0
  obtain ⟨MC, hMC⟩ : ∃ x, x = 0 := ⟨_, rfl⟩
  obtain ⟨MS, hMS⟩ : ∃ x, x = 0 := ⟨_, rfl⟩
  rw [show xb_am l D A σ 4 0 0 = xb_am l D A σ 4 MC MS by rw [hMC, hMS]]
  obtain ⟨h0, hh0⟩ : ∃ x, x = h := ⟨_, rfl⟩
  rw [show xb_am l D A σ 4 MC MS h = xb_am l D A σ 4 MC MS h0 by rw [hh0]]
  intro p e s m args below meth c hC H locs ls k n hE hl hR hS hk hn
  obtain ⟨hx, hb, hown, hlocks, htab, hml, hr, hB, hA, hnm⟩ := id hC
  have hts := hB.1.1.at args
  refine lv_iload_n hx hb (xb_d D_Exact_byDivision 0 rfl) rfl (lv_at hl 1 rfl) ?_
  refine lv_bipush (v := 6) hx hb (xb_d D_Exact_byDivision 1 rfl) (by decide) ?_
  refine lv_icmp_eq (tgt := 12) hx hb (xb_d D_Exact_byDivision 2 rfl) rfl (fun hc1 => ?_) (fun hc1 => ?_)
  · have hw := hw.1 hc1
    exact am_Exact_byDivision_L12 l hfl D A σ MC MS h0 Qr x0 x1 x2 x3 x5 h hw p e s m args below meth c hC H locs ls k n hE (lv_sub hl [0, 1, 2, 3, 4] rfl) hR hS (by omega) (by omega)
  · have hw := hw.2 hc1
    refine lv_iload_n hx hb (xb_d D_Exact_byDivision 3 rfl) rfl (lv_at hl 1 rfl) ?_
    refine lv_bipush (v := 8) hx hb (xb_d D_Exact_byDivision 4 rfl) (by decide) ?_
    refine lv_icmp_ne (tgt := 16) hx hb (xb_d D_Exact_byDivision 5 rfl) rfl (fun hc2 => ?_) (fun hc2 => ?_)
    · have hw := hw.1 hc2
      refine lv_iconst (v := 0) hx hb (xb_d D_Exact_byDivision 8 rfl) (by decide) ?_
      exact am_Exact_byDivision_L17 l hfl D A σ MC MS h0 Qr x0 x1 x2 x3 x5 0 h hw p e s m args below meth c hC H locs ls k n hE (lv_sub hl [0, 1, 2, 3, 4] rfl) hR hS (by omega) (by omega)
    · have hw := hw.2 hc2
      exact am_Exact_byDivision_L12 l hfl D A σ MC MS h0 Qr x0 x1 x2 x3 x5 h hw p e s m args below meth c hC H locs ls k n hE (lv_sub hl [0, 1, 2, 3, 4] rfl) hR hS (by omega) (by omega)

theorem m_c1bdecd7 : (.methodLink "StackHostModel$Exact" 64 y_Exact_infinite : Cond) ∈ xt_tbl := xt_in (xt_t12 (List.mem_of_getElem? (i := 222) (by decide +kernel))) (by decide +kernel)
theorem m_3ecdf3c0 : (.instanceMethod y_Exact_infinite : Cond) ∈ xt_tbl := xt_in (xt_t12 (List.mem_of_getElem? (i := 224) (by decide +kernel))) (by decide +kernel)
theorem m_93791b31 : (.selects "StackHostModel$Exact" y_Exact_infinite y_Exact_infinite : Cond) ∈ xt_tbl := xt_in (xt_v15 (q := (⟨"StackHostModel$Exact", "infinite", "(Z)J"⟩, 11)) (List.mem_of_getElem? (i := 7) (by decide +kernel))) (by decide +kernel)
theorem m_99b71483 : (.code y_Exact_infinite b_Exact_infinite 2 (some .long) : Cond) ∈ xt_tbl := xt_in (xt_t12 (List.mem_of_getElem? (i := 225) (by decide +kernel))) (by decide +kernel)
theorem nm_Exact_infinite : xt_nm y_Exact_infinite 1 := ⟨by decide +kernel, by decide +kernel⟩
set_option maxRecDepth 100000 in
def T_Exact_isInfinite : List (Nat × Instr × Nat) := [(0, .aload_n 0, 1), (1, .lload_n 1, 1), (2, .invokevirtual 72, 3), (5, .aload_n 0, 1), (6, .iconst 0, 1), (7, .invokevirtual 64, 3), (10, .lcmp, 1), (11, .ifCond .ne 7, 3), (14, .iconst 1, 1), (15, .goto 4, 3), (18, .iconst 0, 1), (19, .ireturn, 1)]
theorem D_Exact_isInfinite : ∀ q ∈ T_Exact_isInfinite, decode b_Exact_isInfinite q.1 = .ok (q.2.1, q.2.2) := by decide +kernel

set_option maxHeartbeats 4000000 in
set_option maxRecDepth 100000 in
theorem am_Exact_isInfinite_L19 (l : Launch) (hfl : l.flags = pinnedFlags ++ [noTraceFlag]) (D : va_G) (A : Nat → Prop) (σ MC MS : Nat) (h0 : xb_H) (Qr : Int32 → xb_H → Prop) (y0 : Int32) (h : xb_H) (hw : w_Exact_isInfinite_L19 Qr y0 h) : xb_am l D A σ 4 MC MS h0 (fun v h _ _ => ∃ r, v = some (.int r) ∧ Qr r h) (fun _ _ _ _ => False) y_Exact_isInfinite.cls y_Exact_isInfinite.name b_Exact_isInfinite 3 ([] : List ExceptionTableEntry) (some .boolean) 19 [] [.int y0] h 0 0 := by
  unfold w_Exact_isInfinite_L19 at hw
  intro p e s m args below meth c hC H locs ls k n hE hl hR hS hk hn
  obtain ⟨hx, hb, hown, hlocks, htab, hml, hr, hB, hA, hnm⟩ := id hC
  have hts := hB.1.1.at args
  exact xb_zret 0 0 hx hb hr hlocks (show k + 0 ≤ MC by omega) (show n + 0 ≤ MS by omega) hw.1 hE hR hS (xb_d D_Exact_isInfinite 11 rfl) hw.2

set_option maxHeartbeats 4000000 in
set_option maxRecDepth 100000 in
theorem ok_Exact_isInfinite (l : Launch) (hfl : l.flags = pinnedFlags ++ [noTraceFlag]) (D : va_G) (A : Nat → Prop) (σ : Nat) (x0 : Nat) (x1 : Int64) (h : xb_H) (Qr : Int32 → xb_H → Prop) (hw : w_Exact_isInfinite x0 x1 h Qr) : xb_Met l y_Exact_isInfinite [.code y_Exact_isInfinite b_Exact_isInfinite 3 (some .boolean)] (xb_rm 4 0 0) (xb_Pc D A σ h [.ref x0, .long x1]) (xb_Qc D A h 0 0 (fun v h _ _ => ∃ r, v = some (.int r) ∧ Qr r h) (fun _ _ _ _ => False)) A := by
  refine xb_ofAm (cc := b_Exact_isInfinite) (by decide) (Nat.le_of_ble_eq_true rfl) ?_
  unfold w_Exact_isInfinite at hw
  show xb_am l D A σ 4 0 0 h (fun v h _ _ => ∃ r, v = some (.int r) ∧ Qr r h) (fun _ _ _ _ => False) y_Exact_isInfinite.cls y_Exact_isInfinite.name b_Exact_isInfinite 3 ([] : List ExceptionTableEntry) (some .boolean) 0 [(0, .ref x0), (1, .long x1)] [] h 0 0
  obtain ⟨MC, hMC⟩ : ∃ x, x = 0 := ⟨_, rfl⟩
  obtain ⟨MS, hMS⟩ : ∃ x, x = 0 := ⟨_, rfl⟩
  rw [show xb_am l D A σ 4 0 0 = xb_am l D A σ 4 MC MS by rw [hMC, hMS]]
  obtain ⟨h0, hh0⟩ : ∃ x, x = h := ⟨_, rfl⟩
  rw [show xb_am l D A σ 4 MC MS h = xb_am l D A σ 4 MC MS h0 by rw [hh0]]
  intro p e s m args below meth c hC H locs ls k n hE hl hR hS hk hn
  obtain ⟨hx, hb, hown, hlocks, htab, hml, hr, hB, hA, hnm⟩ := id hC
  have hts := hB.1.1.at args
  refine lv_aload_n hx hb (xb_d D_Exact_isInfinite 0 rfl) rfl (lv_at hl 0 rfl) ?_
  refine lv_lload_n hx hb (xb_d D_Exact_isInfinite 1 rfl) rfl (lv_at hl 1 rfl) ?_
  obtain ⟨hk1, hw⟩ := hw
  refine xb_call0 (D := D) (A := A) (σ := σ) (h := h) (d := 2) (maxL := 3) (rest := []) (av := [.ref x0, .long x1]) (fun T hT X => by obtain ⟨cb9, ra9, rb9, rc9⟩ := xb_recv (ci := 9) hR rfl hk1 (by decide); exact xt_invV X hx hown (hts _ m_4c81fbb0) (hts _ m_fb12fd6e) (hts _ m_e5146b3f) (xt_sigOf (hts _ m_7f30805a)) nm_Exact_size (by rw [hT]; exact ra9) rb9 rc9 (g := F0 m 2 ls [.long x1, .ref x0]) rfl (argsL := [.long x1]) (rest := []) rfl rfl (by rw [hb]; exact (xb_d D_Exact_isInfinite 2 rfl))) (ok_Exact_size l hfl D A σ x0 x1 h _ hw) (hml.trans hl.1.symm) (by rw [hb]; exact (xb_d D_Exact_isInfinite 2 rfl)) (Nat.le_of_ble_eq_true rfl) (Nat.le_of_ble_eq_true rfl) (Nat.le_of_ble_eq_true rfl) (show k ≤ MC by omega) (show n ≤ MS by omega) (xt_w1 hB.1 m_7f30805a) (xt_cdOf hB.1 m_7f30805a) (hts _ m_b807310b) hB hR hS hA (fun vv h2 H locs hq hEh2 hR hS => ?_)
  obtain ⟨r3, rfl, hw⟩ := hq
  have hw := hw hEh2
  have hE := hE.tr hEh2
  refine W.eq (g2 := F0 m 5 ls [.long r3]) rfl ?_
  refine lv_aload_n hx hb (xb_d D_Exact_isInfinite 3 rfl) rfl (lv_at hl 0 rfl) ?_
  refine lv_iconst (v := 0) hx hb (xb_d D_Exact_isInfinite 4 rfl) (by decide) ?_
  have hk1 : xb_k h2 x0 = 10 := hEh2.k hk1
  refine xb_call0 (D := D) (A := A) (σ := σ) (h := h2) (d := 3) (maxL := 2) (rest := [.long r3]) (av := [.ref x0, .int 0]) (fun T hT X => by obtain ⟨cb9, ra9, rb9, rc9⟩ := xb_recv (ci := 9) hR rfl hk1 (by decide); exact xt_invV X hx hown (hts _ m_c1bdecd7) (hts _ m_3ecdf3c0) (hts _ m_93791b31) (xt_sigOf (hts _ m_99b71483)) nm_Exact_infinite (by rw [hT]; exact ra9) rb9 rc9 (g := F0 m 7 ls [.int 0, .ref x0, .long r3]) rfl (argsL := [.int 0]) (rest := [.long r3]) rfl rfl (by rw [hb]; exact (xb_d D_Exact_isInfinite 5 rfl))) (ok_Exact_infinite l hfl D A σ x0 0 h2 _ hw) (hml.trans hl.1.symm) (by rw [hb]; exact (xb_d D_Exact_isInfinite 5 rfl)) (Nat.le_of_ble_eq_true rfl) (Nat.le_of_ble_eq_true rfl) (Nat.le_of_ble_eq_true rfl) (show k ≤ MC by omega) (show n ≤ MS by omega) (xt_w1 hB.1 m_99b71483) (xt_cdOf hB.1 m_99b71483) (hts _ m_b807310b) hB hR hS hA (fun vv h4 H locs hq hEh4 hR hS => ?_)
  obtain ⟨r5, rfl, hw⟩ := hq
  have hw := hw hEh4
  have hE := hE.tr hEh4
  refine W.eq (g2 := F0 m 10 ls [.long r5, .long r3]) rfl ?_
  refine xb_lc_ne (tgt := 18) hx hb (xb_d D_Exact_isInfinite 6 rfl) (xb_d D_Exact_isInfinite 7 rfl) rfl (fun hc6 => ?_) (fun hc6 => ?_)
  · have hw := hw.1 hc6
    refine lv_iconst (v := 0) hx hb (xb_d D_Exact_isInfinite 10 rfl) (by decide) ?_
    exact am_Exact_isInfinite_L19 l hfl D A σ MC MS h0 Qr 0 h4 hw p e s m args below meth c hC H locs ls k n hE (lv_sub hl [] rfl) hR hS (by omega) (by omega)
  · have hw := hw.2 hc6
    refine lv_iconst (v := 1) hx hb (xb_d D_Exact_isInfinite 8 rfl) (by decide) ?_
    refine lv_goto (tgt := 19) hx hb (xb_d D_Exact_isInfinite 9 rfl) rfl ?_
    exact am_Exact_isInfinite_L19 l hfl D A σ MC MS h0 Qr 1 h4 hw p e s m args below meth c hC H locs ls k n hE (lv_sub hl [] rfl) hR hS (by omega) (by omega)

set_option maxRecDepth 100000 in
def T_Exact_isNone : List (Nat × Instr × Nat) := [(0, .aload_n 0, 1), (1, .lload_n 1, 1), (2, .invokevirtual 72, 3), (5, .aload_n 0, 1), (6, .iconst 0, 1), (7, .invokevirtual 64, 3), (10, .lcmp, 1), (11, .ifCond .le 7, 3), (14, .iconst 1, 1), (15, .goto 4, 3), (18, .iconst 0, 1), (19, .ireturn, 1)]
theorem D_Exact_isNone : ∀ q ∈ T_Exact_isNone, decode b_Exact_isNone q.1 = .ok (q.2.1, q.2.2) := by decide +kernel

set_option maxHeartbeats 4000000 in
set_option maxRecDepth 100000 in
theorem am_Exact_isNone_L19 (l : Launch) (hfl : l.flags = pinnedFlags ++ [noTraceFlag]) (D : va_G) (A : Nat → Prop) (σ MC MS : Nat) (h0 : xb_H) (Qr : Int32 → xb_H → Prop) (y0 : Int32) (h : xb_H) (hw : w_Exact_isNone_L19 Qr y0 h) : xb_am l D A σ 4 MC MS h0 (fun v h _ _ => ∃ r, v = some (.int r) ∧ Qr r h) (fun _ _ _ _ => False) y_Exact_isNone.cls y_Exact_isNone.name b_Exact_isNone 3 ([] : List ExceptionTableEntry) (some .boolean) 19 [] [.int y0] h 0 0 := by
  unfold w_Exact_isNone_L19 at hw
  intro p e s m args below meth c hC H locs ls k n hE hl hR hS hk hn
  obtain ⟨hx, hb, hown, hlocks, htab, hml, hr, hB, hA, hnm⟩ := id hC
  have hts := hB.1.1.at args
  exact xb_zret 0 0 hx hb hr hlocks (show k + 0 ≤ MC by omega) (show n + 0 ≤ MS by omega) hw.1 hE hR hS (xb_d D_Exact_isNone 11 rfl) hw.2

set_option maxHeartbeats 4000000 in
set_option maxRecDepth 100000 in
theorem ok_Exact_isNone (l : Launch) (hfl : l.flags = pinnedFlags ++ [noTraceFlag]) (D : va_G) (A : Nat → Prop) (σ : Nat) (x0 : Nat) (x1 : Int64) (h : xb_H) (Qr : Int32 → xb_H → Prop) (hw : w_Exact_isNone x0 x1 h Qr) : xb_Met l y_Exact_isNone [.code y_Exact_isNone b_Exact_isNone 3 (some .boolean)] (xb_rm 4 0 0) (xb_Pc D A σ h [.ref x0, .long x1]) (xb_Qc D A h 0 0 (fun v h _ _ => ∃ r, v = some (.int r) ∧ Qr r h) (fun _ _ _ _ => False)) A := by
  refine xb_ofAm (cc := b_Exact_isNone) (by decide) (Nat.le_of_ble_eq_true rfl) ?_
  unfold w_Exact_isNone at hw
  show xb_am l D A σ 4 0 0 h (fun v h _ _ => ∃ r, v = some (.int r) ∧ Qr r h) (fun _ _ _ _ => False) y_Exact_isNone.cls y_Exact_isNone.name b_Exact_isNone 3 ([] : List ExceptionTableEntry) (some .boolean) 0 [(0, .ref x0), (1, .long x1)] [] h 0 0
  obtain ⟨MC, hMC⟩ : ∃ x, x = 0 := ⟨_, rfl⟩
  obtain ⟨MS, hMS⟩ : ∃ x, x = 0 := ⟨_, rfl⟩
  rw [show xb_am l D A σ 4 0 0 = xb_am l D A σ 4 MC MS by rw [hMC, hMS]]
  obtain ⟨h0, hh0⟩ : ∃ x, x = h := ⟨_, rfl⟩
  rw [show xb_am l D A σ 4 MC MS h = xb_am l D A σ 4 MC MS h0 by rw [hh0]]
  intro p e s m args below meth c hC H locs ls k n hE hl hR hS hk hn
  obtain ⟨hx, hb, hown, hlocks, htab, hml, hr, hB, hA, hnm⟩ := id hC
  have hts := hB.1.1.at args
  refine lv_aload_n hx hb (xb_d D_Exact_isNone 0 rfl) rfl (lv_at hl 0 rfl) ?_
  refine lv_lload_n hx hb (xb_d D_Exact_isNone 1 rfl) rfl (lv_at hl 1 rfl) ?_
  obtain ⟨hk1, hw⟩ := hw
  refine xb_call0 (D := D) (A := A) (σ := σ) (h := h) (d := 2) (maxL := 3) (rest := []) (av := [.ref x0, .long x1]) (fun T hT X => by obtain ⟨cb9, ra9, rb9, rc9⟩ := xb_recv (ci := 9) hR rfl hk1 (by decide); exact xt_invV X hx hown (hts _ m_4c81fbb0) (hts _ m_fb12fd6e) (hts _ m_e5146b3f) (xt_sigOf (hts _ m_7f30805a)) nm_Exact_size (by rw [hT]; exact ra9) rb9 rc9 (g := F0 m 2 ls [.long x1, .ref x0]) rfl (argsL := [.long x1]) (rest := []) rfl rfl (by rw [hb]; exact (xb_d D_Exact_isNone 2 rfl))) (ok_Exact_size l hfl D A σ x0 x1 h _ hw) (hml.trans hl.1.symm) (by rw [hb]; exact (xb_d D_Exact_isNone 2 rfl)) (Nat.le_of_ble_eq_true rfl) (Nat.le_of_ble_eq_true rfl) (Nat.le_of_ble_eq_true rfl) (show k ≤ MC by omega) (show n ≤ MS by omega) (xt_w1 hB.1 m_7f30805a) (xt_cdOf hB.1 m_7f30805a) (hts _ m_b807310b) hB hR hS hA (fun vv h2 H locs hq hEh2 hR hS => ?_)
  obtain ⟨r3, rfl, hw⟩ := hq
  have hw := hw hEh2
  have hE := hE.tr hEh2
  refine W.eq (g2 := F0 m 5 ls [.long r3]) rfl ?_
  refine lv_aload_n hx hb (xb_d D_Exact_isNone 3 rfl) rfl (lv_at hl 0 rfl) ?_
  refine lv_iconst (v := 0) hx hb (xb_d D_Exact_isNone 4 rfl) (by decide) ?_
  have hk1 : xb_k h2 x0 = 10 := hEh2.k hk1
  refine xb_call0 (D := D) (A := A) (σ := σ) (h := h2) (d := 3) (maxL := 2) (rest := [.long r3]) (av := [.ref x0, .int 0]) (fun T hT X => by obtain ⟨cb9, ra9, rb9, rc9⟩ := xb_recv (ci := 9) hR rfl hk1 (by decide); exact xt_invV X hx hown (hts _ m_c1bdecd7) (hts _ m_3ecdf3c0) (hts _ m_93791b31) (xt_sigOf (hts _ m_99b71483)) nm_Exact_infinite (by rw [hT]; exact ra9) rb9 rc9 (g := F0 m 7 ls [.int 0, .ref x0, .long r3]) rfl (argsL := [.int 0]) (rest := [.long r3]) rfl rfl (by rw [hb]; exact (xb_d D_Exact_isNone 5 rfl))) (ok_Exact_infinite l hfl D A σ x0 0 h2 _ hw) (hml.trans hl.1.symm) (by rw [hb]; exact (xb_d D_Exact_isNone 5 rfl)) (Nat.le_of_ble_eq_true rfl) (Nat.le_of_ble_eq_true rfl) (Nat.le_of_ble_eq_true rfl) (show k ≤ MC by omega) (show n ≤ MS by omega) (xt_w1 hB.1 m_99b71483) (xt_cdOf hB.1 m_99b71483) (hts _ m_b807310b) hB hR hS hA (fun vv h4 H locs hq hEh4 hR hS => ?_)
  obtain ⟨r5, rfl, hw⟩ := hq
  have hw := hw hEh4
  have hE := hE.tr hEh4
  refine W.eq (g2 := F0 m 10 ls [.long r5, .long r3]) rfl ?_
  refine xb_lc_le (tgt := 18) hx hb (xb_d D_Exact_isNone 6 rfl) (xb_d D_Exact_isNone 7 rfl) rfl (fun hc6 => ?_) (fun hc6 => ?_)
  · have hw := hw.1 hc6
    refine lv_iconst (v := 0) hx hb (xb_d D_Exact_isNone 10 rfl) (by decide) ?_
    exact am_Exact_isNone_L19 l hfl D A σ MC MS h0 Qr 0 h4 hw p e s m args below meth c hC H locs ls k n hE (lv_sub hl [] rfl) hR hS (by omega) (by omega)
  · have hw := hw.2 hc6
    refine lv_iconst (v := 1) hx hb (xb_d D_Exact_isNone 8 rfl) (by decide) ?_
    refine lv_goto (tgt := 19) hx hb (xb_d D_Exact_isNone 9 rfl) rfl ?_
    exact am_Exact_isNone_L19 l hfl D A σ MC MS h0 Qr 1 h4 hw p e s m args below meth c hC H locs ls k n hE (lv_sub hl [] rfl) hR hS (by omega) (by omega)

theorem m_eb5d6020 : (.methodLink "StackHostModel$Exact" 93 y_Exact_less : Cond) ∈ xt_tbl := xt_in (xt_t13 (List.mem_of_getElem? (i := 87) (by decide +kernel))) (by decide +kernel)
theorem m_a6ef2795 : (.instanceMethod y_Exact_less : Cond) ∈ xt_tbl := xt_in (xt_t13 (List.mem_of_getElem? (i := 89) (by decide +kernel))) (by decide +kernel)
theorem m_a49f9496 : (.selects "StackHostModel$Exact" y_Exact_less y_Exact_less : Cond) ∈ xt_tbl := xt_in (xt_v16 (q := (⟨"StackHostModel$Exact", "less", "(JZJ)Z"⟩, 11)) (List.mem_of_getElem? (i := 14) (by decide +kernel))) (by decide +kernel)
theorem m_68c5032f : (.code y_Exact_less b_Exact_less 10 (some .boolean) : Cond) ∈ xt_tbl := xt_in (xt_t13 (List.mem_of_getElem? (i := 90) (by decide +kernel))) (by decide +kernel)
theorem m_f9e5bce2 : (.methodLink "StackHostModel$Exact" 104 y_Exact_isZero : Cond) ∈ xt_tbl := xt_in (xt_t13 (List.mem_of_getElem? (i := 43) (by decide +kernel))) (by decide +kernel)
theorem m_d4ccf81e : (.instanceMethod y_Exact_isZero : Cond) ∈ xt_tbl := xt_in (xt_t13 (List.mem_of_getElem? (i := 45) (by decide +kernel))) (by decide +kernel)
theorem m_870ffa92 : (.selects "StackHostModel$Exact" y_Exact_isZero y_Exact_isZero : Cond) ∈ xt_tbl := xt_in (xt_v16 (q := (⟨"StackHostModel$Exact", "isZero", "(J)Z"⟩, 11)) (List.mem_of_getElem? (i := 4) (by decide +kernel))) (by decide +kernel)
theorem m_b231eb2b : (.code y_Exact_isZero b_Exact_isZero 3 (some .boolean) : Cond) ∈ xt_tbl := xt_in (xt_t13 (List.mem_of_getElem? (i := 46) (by decide +kernel))) (by decide +kernel)
theorem nm_Exact_less : xt_nm y_Exact_less 3 := ⟨by decide +kernel, by decide +kernel⟩
theorem nm_Exact_isZero : xt_nm y_Exact_isZero 1 := ⟨by decide +kernel, by decide +kernel⟩
set_option maxRecDepth 100000 in
def T_Exact_lesser : List (Nat × Instr × Nat) := [(0, .aload_n 0, 1), (1, .lload_n 2, 1), (2, .invokevirtual 104, 3), (5, .ifCond .eq 74, 3), (8, .aload_n 0, 1), (9, .lload 4, 2), (11, .invokevirtual 104, 3), (14, .ifCond .eq 65, 3), (17, .iload_n 1, 1), (18, .ifCond .eq 33, 3), (21, .aload_n 0, 1), (22, .lconst 0, 1), (23, .aload_n 0, 1), (24, .lload_n 2, 1), (25, .invokevirtual 76, 3), (28, .ifCond .eq 16, 3), (31, .aload_n 0, 1), (32, .lload 4, 2), (34, .invokevirtual 76, 3), (37, .ifCond .eq 7, 3), (40, .iconst 1, 1), (41, .goto 4, 3), (44, .iconst 0, 1), (45, .invokevirtual 52, 3), (48, .goto 30, 3), (51, .aload_n 0, 1), (52, .lconst 0, 1), (53, .aload_n 0, 1), (54, .lload_n 2, 1), (55, .invokevirtual 76, 3), (58, .ifCond .ne 12, 3), (61, .aload_n 0, 1), (62, .lload 4, 2), (64, .invokevirtual 76, 3), (67, .ifCond .eq 7, 3), (70, .iconst 1, 1), (71, .goto 4, 3), (74, .iconst 0, 1), (75, .invokevirtual 52, 3), (78, .lreturn, 1), (79, .aload_n 0, 1), (80, .lload_n 2, 1), (81, .iconst 1, 1), (82, .lload 4, 2), (84, .invokevirtual 93, 3), (87, .iload_n 1, 1), (88, .if_icmp .eq 7, 3), (91, .lload_n 2, 1), (92, .goto 5, 3), (95, .lload 4, 2), (97, .lreturn, 1)]
theorem D_Exact_lesser : ∀ q ∈ T_Exact_lesser, decode b_Exact_lesser q.1 = .ok (q.2.1, q.2.2) := by decide +kernel

set_option maxHeartbeats 4000000 in
set_option maxRecDepth 100000 in
theorem am_Exact_lesser_L97 (l : Launch) (hfl : l.flags = pinnedFlags ++ [noTraceFlag]) (D : va_G) (A : Nat → Prop) (σ MC MS : Nat) (h0 : xb_H) (Qr : Int64 → xb_H → Prop) (y0 : Int64) (h : xb_H) (hw : w_Exact_lesser_L97 Qr y0 h) : xb_am l D A σ 4 MC MS h0 (fun v h _ _ => ∃ r, v = some (.long r) ∧ Qr r h) (fun _ _ _ _ => False) y_Exact_lesser.cls y_Exact_lesser.name b_Exact_lesser 6 ([] : List ExceptionTableEntry) (some .long) 97 [] [.long y0] h 0 0 := by
  unfold w_Exact_lesser_L97 at hw
  intro p e s m args below meth c hC H locs ls k n hE hl hR hS hk hn
  obtain ⟨hx, hb, hown, hlocks, htab, hml, hr, hB, hA, hnm⟩ := id hC
  have hts := hB.1.1.at args
  exact xb_lret 0 0 hx hb hr hlocks (show k + 0 ≤ MC by omega) (show n + 0 ≤ MS by omega) hE hR hS (xb_d D_Exact_lesser 50 rfl) hw

set_option maxHeartbeats 4000000 in
set_option maxRecDepth 100000 in
theorem am_Exact_lesser_L79 (l : Launch) (hfl : l.flags = pinnedFlags ++ [noTraceFlag]) (D : va_G) (A : Nat → Prop) (σ MC MS : Nat) (h0 : xb_H) (Qr : Int64 → xb_H → Prop) (x0 : Nat) (x1 : Int32) (x2 : Int64) (x4 : Int64) (h : xb_H) (hw : w_Exact_lesser_L79 Qr x0 x1 x2 x4 h) : xb_am l D A σ 4 MC MS h0 (fun v h _ _ => ∃ r, v = some (.long r) ∧ Qr r h) (fun _ _ _ _ => False) y_Exact_lesser.cls y_Exact_lesser.name b_Exact_lesser 6 ([] : List ExceptionTableEntry) (some .long) 79 [(0, .ref x0), (1, .int x1), (2, .long x2), (4, .long x4)] [] h 0 0 := by
  unfold w_Exact_lesser_L79 at hw
  intro p e s m args below meth c hC H locs ls k n hE hl hR hS hk hn
  obtain ⟨hx, hb, hown, hlocks, htab, hml, hr, hB, hA, hnm⟩ := id hC
  have hts := hB.1.1.at args
  refine lv_aload_n hx hb (xb_d D_Exact_lesser 40 rfl) rfl (lv_at hl 0 rfl) ?_
  refine lv_lload_n hx hb (xb_d D_Exact_lesser 41 rfl) rfl (lv_at hl 2 rfl) ?_
  refine lv_iconst (v := 1) hx hb (xb_d D_Exact_lesser 42 rfl) (by decide) ?_
  refine lv_lload hx hb (xb_d D_Exact_lesser 43 rfl) (lv_at hl 3 rfl) ?_
  obtain ⟨hk1, hw⟩ := hw
  refine xb_call0 (D := D) (A := A) (σ := σ) (h := h) (d := 3) (maxL := 10) (rest := []) (av := [.ref x0, .long x2, .int 1, .long x4]) (fun T hT X => by obtain ⟨cb9, ra9, rb9, rc9⟩ := xb_recv (ci := 9) hR rfl hk1 (by decide); exact xt_invV X hx hown (hts _ m_eb5d6020) (hts _ m_a6ef2795) (hts _ m_a49f9496) (xt_sigOf (hts _ m_68c5032f)) nm_Exact_less (by rw [hT]; exact ra9) rb9 rc9 (g := F0 m 84 ls [.long x4, .int 1, .long x2, .ref x0]) rfl (argsL := [.long x2, .int 1, .long x4]) (rest := []) rfl rfl (by rw [hb]; exact (xb_d D_Exact_lesser 44 rfl))) (ok_Exact_less l hfl D A σ x0 x2 1 x4 h _ hw) (hml.trans hl.1.symm) (by rw [hb]; exact (xb_d D_Exact_lesser 44 rfl)) (Nat.le_of_ble_eq_true rfl) (Nat.le_of_ble_eq_true rfl) (Nat.le_of_ble_eq_true rfl) (show k ≤ MC by omega) (show n ≤ MS by omega) (xt_w1 hB.1 m_68c5032f) (xt_cdOf hB.1 m_68c5032f) (hts _ m_b807310b) hB hR hS hA (fun vv h2 H locs hq hEh2 hR hS => ?_)
  obtain ⟨r3, rfl, hw⟩ := hq
  have hw := hw hEh2
  have hE := hE.tr hEh2
  refine W.eq (g2 := F0 m 87 ls [.int r3]) rfl ?_
  refine lv_iload_n hx hb (xb_d D_Exact_lesser 45 rfl) rfl (lv_at hl 1 rfl) ?_
  refine lv_icmp_eq (tgt := 95) hx hb (xb_d D_Exact_lesser 46 rfl) rfl (fun hc4 => ?_) (fun hc4 => ?_)
  · have hw := hw.1 hc4
    refine lv_lload hx hb (xb_d D_Exact_lesser 49 rfl) (lv_at hl 3 rfl) ?_
    exact am_Exact_lesser_L97 l hfl D A σ MC MS h0 Qr x4 h2 hw p e s m args below meth c hC H locs ls k n hE (lv_sub hl [] rfl) hR hS (by omega) (by omega)
  · have hw := hw.2 hc4
    refine lv_lload_n hx hb (xb_d D_Exact_lesser 47 rfl) rfl (lv_at hl 2 rfl) ?_
    refine lv_goto (tgt := 97) hx hb (xb_d D_Exact_lesser 48 rfl) rfl ?_
    exact am_Exact_lesser_L97 l hfl D A σ MC MS h0 Qr x2 h2 hw p e s m args below meth c hC H locs ls k n hE (lv_sub hl [] rfl) hR hS (by omega) (by omega)

set_option maxHeartbeats 4000000 in
set_option maxRecDepth 100000 in
theorem am_Exact_lesser_L78 (l : Launch) (hfl : l.flags = pinnedFlags ++ [noTraceFlag]) (D : va_G) (A : Nat → Prop) (σ MC MS : Nat) (h0 : xb_H) (Qr : Int64 → xb_H → Prop) (y0 : Int64) (h : xb_H) (hw : w_Exact_lesser_L78 Qr y0 h) : xb_am l D A σ 4 MC MS h0 (fun v h _ _ => ∃ r, v = some (.long r) ∧ Qr r h) (fun _ _ _ _ => False) y_Exact_lesser.cls y_Exact_lesser.name b_Exact_lesser 6 ([] : List ExceptionTableEntry) (some .long) 78 [] [.long y0] h 0 0 := by
  unfold w_Exact_lesser_L78 at hw
  intro p e s m args below meth c hC H locs ls k n hE hl hR hS hk hn
  obtain ⟨hx, hb, hown, hlocks, htab, hml, hr, hB, hA, hnm⟩ := id hC
  have hts := hB.1.1.at args
  exact xb_lret 0 0 hx hb hr hlocks (show k + 0 ≤ MC by omega) (show n + 0 ≤ MS by omega) hE hR hS (xb_d D_Exact_lesser 39 rfl) hw

set_option maxHeartbeats 4000000 in
set_option maxRecDepth 100000 in
theorem am_Exact_lesser_L75 (l : Launch) (hfl : l.flags = pinnedFlags ++ [noTraceFlag]) (D : va_G) (A : Nat → Prop) (σ MC MS : Nat) (h0 : xb_H) (Qr : Int64 → xb_H → Prop) (y0 : Int32) (y1 : Int64) (y2 : Nat) (h : xb_H) (hw : w_Exact_lesser_L75 Qr y0 y1 y2 h) : xb_am l D A σ 4 MC MS h0 (fun v h _ _ => ∃ r, v = some (.long r) ∧ Qr r h) (fun _ _ _ _ => False) y_Exact_lesser.cls y_Exact_lesser.name b_Exact_lesser 6 ([] : List ExceptionTableEntry) (some .long) 75 [] [.int y0, .long y1, .ref y2] h 0 0 := by
  unfold w_Exact_lesser_L75 at hw
  intro p e s m args below meth c hC H locs ls k n hE hl hR hS hk hn
  obtain ⟨hx, hb, hown, hlocks, htab, hml, hr, hB, hA, hnm⟩ := id hC
  have hts := hB.1.1.at args
  obtain ⟨hk1, hw⟩ := hw
  refine xb_call0 (D := D) (A := A) (σ := σ) (h := h) (d := 2) (maxL := 4) (rest := []) (av := [.ref y2, .long y1, .int y0]) (fun T hT X => by obtain ⟨cb9, ra9, rb9, rc9⟩ := xb_recv (ci := 9) hR rfl hk1 (by decide); exact xt_invV X hx hown (hts _ m_7b6c7353) (hts _ m_28babb18) (hts _ m_243e01d5) (xt_sigOf (hts _ m_88c0fc78)) nm_Exact_signed (by rw [hT]; exact ra9) rb9 rc9 (g := F0 m 75 ls [.int y0, .long y1, .ref y2]) rfl (argsL := [.long y1, .int y0]) (rest := []) rfl rfl (by rw [hb]; exact (xb_d D_Exact_lesser 38 rfl))) (ok_Exact_signed l hfl D A σ y2 y1 y0 h _ hw) (hml.trans hl.1.symm) (by rw [hb]; exact (xb_d D_Exact_lesser 38 rfl)) (Nat.le_of_ble_eq_true rfl) (Nat.le_of_ble_eq_true rfl) (Nat.le_of_ble_eq_true rfl) (show k ≤ MC by omega) (show n ≤ MS by omega) (xt_w1 hB.1 m_88c0fc78) (xt_cdOf hB.1 m_88c0fc78) (hts _ m_b807310b) hB hR hS hA (fun vv h2 H locs hq hEh2 hR hS => ?_)
  obtain ⟨r3, rfl, hw⟩ := hq
  have hw := hw hEh2
  have hE := hE.tr hEh2
  refine W.eq (g2 := F0 m 78 ls [.long r3]) rfl ?_
  exact am_Exact_lesser_L78 l hfl D A σ MC MS h0 Qr r3 h2 hw p e s m args below meth c hC H locs ls k n hE (lv_sub hl [] rfl) hR hS (by omega) (by omega)

set_option maxHeartbeats 4000000 in
set_option maxRecDepth 100000 in
theorem am_Exact_lesser_L70 (l : Launch) (hfl : l.flags = pinnedFlags ++ [noTraceFlag]) (D : va_G) (A : Nat → Prop) (σ MC MS : Nat) (h0 : xb_H) (Qr : Int64 → xb_H → Prop) (y0 : Int64) (y1 : Nat) (h : xb_H) (hw : w_Exact_lesser_L70 Qr y0 y1 h) : xb_am l D A σ 4 MC MS h0 (fun v h _ _ => ∃ r, v = some (.long r) ∧ Qr r h) (fun _ _ _ _ => False) y_Exact_lesser.cls y_Exact_lesser.name b_Exact_lesser 6 ([] : List ExceptionTableEntry) (some .long) 70 [] [.long y0, .ref y1] h 0 0 := by
  unfold w_Exact_lesser_L70 at hw
  intro p e s m args below meth c hC H locs ls k n hE hl hR hS hk hn
  obtain ⟨hx, hb, hown, hlocks, htab, hml, hr, hB, hA, hnm⟩ := id hC
  have hts := hB.1.1.at args
  refine lv_iconst (v := 1) hx hb (xb_d D_Exact_lesser 35 rfl) (by decide) ?_
  refine lv_goto (tgt := 75) hx hb (xb_d D_Exact_lesser 36 rfl) rfl ?_
  exact am_Exact_lesser_L75 l hfl D A σ MC MS h0 Qr 1 y0 y1 h hw p e s m args below meth c hC H locs ls k n hE (lv_sub hl [] rfl) hR hS (by omega) (by omega)

set_option maxHeartbeats 4000000 in
set_option maxRecDepth 100000 in
theorem am_Exact_lesser_L45 (l : Launch) (hfl : l.flags = pinnedFlags ++ [noTraceFlag]) (D : va_G) (A : Nat → Prop) (σ MC MS : Nat) (h0 : xb_H) (Qr : Int64 → xb_H → Prop) (y0 : Int32) (y1 : Int64) (y2 : Nat) (h : xb_H) (hw : w_Exact_lesser_L45 Qr y0 y1 y2 h) : xb_am l D A σ 4 MC MS h0 (fun v h _ _ => ∃ r, v = some (.long r) ∧ Qr r h) (fun _ _ _ _ => False) y_Exact_lesser.cls y_Exact_lesser.name b_Exact_lesser 6 ([] : List ExceptionTableEntry) (some .long) 45 [] [.int y0, .long y1, .ref y2] h 0 0 := by
  unfold w_Exact_lesser_L45 at hw
  intro p e s m args below meth c hC H locs ls k n hE hl hR hS hk hn
  obtain ⟨hx, hb, hown, hlocks, htab, hml, hr, hB, hA, hnm⟩ := id hC
  have hts := hB.1.1.at args
  obtain ⟨hk1, hw⟩ := hw
  refine xb_call0 (D := D) (A := A) (σ := σ) (h := h) (d := 2) (maxL := 4) (rest := []) (av := [.ref y2, .long y1, .int y0]) (fun T hT X => by obtain ⟨cb9, ra9, rb9, rc9⟩ := xb_recv (ci := 9) hR rfl hk1 (by decide); exact xt_invV X hx hown (hts _ m_7b6c7353) (hts _ m_28babb18) (hts _ m_243e01d5) (xt_sigOf (hts _ m_88c0fc78)) nm_Exact_signed (by rw [hT]; exact ra9) rb9 rc9 (g := F0 m 45 ls [.int y0, .long y1, .ref y2]) rfl (argsL := [.long y1, .int y0]) (rest := []) rfl rfl (by rw [hb]; exact (xb_d D_Exact_lesser 23 rfl))) (ok_Exact_signed l hfl D A σ y2 y1 y0 h _ hw) (hml.trans hl.1.symm) (by rw [hb]; exact (xb_d D_Exact_lesser 23 rfl)) (Nat.le_of_ble_eq_true rfl) (Nat.le_of_ble_eq_true rfl) (Nat.le_of_ble_eq_true rfl) (show k ≤ MC by omega) (show n ≤ MS by omega) (xt_w1 hB.1 m_88c0fc78) (xt_cdOf hB.1 m_88c0fc78) (hts _ m_b807310b) hB hR hS hA (fun vv h2 H locs hq hEh2 hR hS => ?_)
  obtain ⟨r3, rfl, hw⟩ := hq
  have hw := hw hEh2
  have hE := hE.tr hEh2
  refine W.eq (g2 := F0 m 48 ls [.long r3]) rfl ?_
  refine lv_goto (tgt := 78) hx hb (xb_d D_Exact_lesser 24 rfl) rfl ?_
  exact am_Exact_lesser_L78 l hfl D A σ MC MS h0 Qr r3 h2 hw p e s m args below meth c hC H locs ls k n hE (lv_sub hl [] rfl) hR hS (by omega) (by omega)

set_option maxHeartbeats 4000000 in
set_option maxRecDepth 100000 in
theorem am_Exact_lesser_L44 (l : Launch) (hfl : l.flags = pinnedFlags ++ [noTraceFlag]) (D : va_G) (A : Nat → Prop) (σ MC MS : Nat) (h0 : xb_H) (Qr : Int64 → xb_H → Prop) (y0 : Int64) (y1 : Nat) (h : xb_H) (hw : w_Exact_lesser_L44 Qr y0 y1 h) : xb_am l D A σ 4 MC MS h0 (fun v h _ _ => ∃ r, v = some (.long r) ∧ Qr r h) (fun _ _ _ _ => False) y_Exact_lesser.cls y_Exact_lesser.name b_Exact_lesser 6 ([] : List ExceptionTableEntry) (some .long) 44 [] [.long y0, .ref y1] h 0 0 := by
  unfold w_Exact_lesser_L44 at hw
  intro p e s m args below meth c hC H locs ls k n hE hl hR hS hk hn
  obtain ⟨hx, hb, hown, hlocks, htab, hml, hr, hB, hA, hnm⟩ := id hC
  have hts := hB.1.1.at args
  refine lv_iconst (v := 0) hx hb (xb_d D_Exact_lesser 22 rfl) (by decide) ?_
  exact am_Exact_lesser_L45 l hfl D A σ MC MS h0 Qr 0 y0 y1 h hw p e s m args below meth c hC H locs ls k n hE (lv_sub hl [] rfl) hR hS (by omega) (by omega)

set_option maxHeartbeats 4000000 in
set_option maxRecDepth 100000 in
theorem ok_Exact_lesser (l : Launch) (hfl : l.flags = pinnedFlags ++ [noTraceFlag]) (D : va_G) (A : Nat → Prop) (σ : Nat) (x0 : Nat) (x1 : Int32) (x2 : Int64) (x4 : Int64) (h : xb_H) (Qr : Int64 → xb_H → Prop) (hw : w_Exact_lesser x0 x1 x2 x4 h Qr) : xb_Met l y_Exact_lesser [.code y_Exact_lesser b_Exact_lesser 6 (some .long)] (xb_rm 4 0 0) (xb_Pc D A σ h [.ref x0, .int x1, .long x2, .long x4]) (xb_Qc D A h 0 0 (fun v h _ _ => ∃ r, v = some (.long r) ∧ Qr r h) (fun _ _ _ _ => False)) A := by
  refine xb_ofAm (cc := b_Exact_lesser) (by decide) (Nat.le_of_ble_eq_true rfl) ?_
  unfold w_Exact_lesser at hw
  show xb_am l D A σ 4 0 0 h (fun v h _ _ => ∃ r, v = some (.long r) ∧ Qr r h) (fun _ _ _ _ => False) y_Exact_lesser.cls y_Exact_lesser.name b_Exact_lesser 6 ([] : List ExceptionTableEntry) (some .long) 0 [(0, .ref x0), (1, .int x1), (2, .long x2), (4, .long x4)] [] h 0 0
  obtain ⟨MC, hMC⟩ : ∃ x, x = 0 := ⟨_, rfl⟩
  obtain ⟨MS, hMS⟩ : ∃ x, x = 0 := ⟨_, rfl⟩
  rw [show xb_am l D A σ 4 0 0 = xb_am l D A σ 4 MC MS by rw [hMC, hMS]]
  obtain ⟨h0, hh0⟩ : ∃ x, x = h := ⟨_, rfl⟩
  rw [show xb_am l D A σ 4 MC MS h = xb_am l D A σ 4 MC MS h0 by rw [hh0]]
  intro p e s m args below meth c hC H locs ls k n hE hl hR hS hk hn
  obtain ⟨hx, hb, hown, hlocks, htab, hml, hr, hB, hA, hnm⟩ := id hC
  have hts := hB.1.1.at args
  refine lv_aload_n hx hb (xb_d D_Exact_lesser 0 rfl) rfl (lv_at hl 0 rfl) ?_
  refine lv_lload_n hx hb (xb_d D_Exact_lesser 1 rfl) rfl (lv_at hl 2 rfl) ?_
  obtain ⟨hk1, hw⟩ := hw
  refine xb_call0 (D := D) (A := A) (σ := σ) (h := h) (d := 3) (maxL := 3) (rest := []) (av := [.ref x0, .long x2]) (fun T hT X => by obtain ⟨cb9, ra9, rb9, rc9⟩ := xb_recv (ci := 9) hR rfl hk1 (by decide); exact xt_invV X hx hown (hts _ m_f9e5bce2) (hts _ m_d4ccf81e) (hts _ m_870ffa92) (xt_sigOf (hts _ m_b231eb2b)) nm_Exact_isZero (by rw [hT]; exact ra9) rb9 rc9 (g := F0 m 2 ls [.long x2, .ref x0]) rfl (argsL := [.long x2]) (rest := []) rfl rfl (by rw [hb]; exact (xb_d D_Exact_lesser 2 rfl))) (ok_Exact_isZero l hfl D A σ x0 x2 h _ hw) (hml.trans hl.1.symm) (by rw [hb]; exact (xb_d D_Exact_lesser 2 rfl)) (Nat.le_of_ble_eq_true rfl) (Nat.le_of_ble_eq_true rfl) (Nat.le_of_ble_eq_true rfl) (show k ≤ MC by omega) (show n ≤ MS by omega) (xt_w1 hB.1 m_b231eb2b) (xt_cdOf hB.1 m_b231eb2b) (hts _ m_b807310b) hB hR hS hA (fun vv h2 H locs hq hEh2 hR hS => ?_)
  obtain ⟨r3, rfl, hw⟩ := hq
  have hw := hw hEh2
  have hE := hE.tr hEh2
  refine W.eq (g2 := F0 m 5 ls [.int r3]) rfl ?_
  refine lv_if_eq (tgt := 79) hx hb (xb_d D_Exact_lesser 3 rfl) rfl (fun hc4 => ?_) (fun hc4 => ?_)
  · have hw := hw.1 hc4
    exact am_Exact_lesser_L79 l hfl D A σ MC MS h0 Qr x0 x1 x2 x4 h2 hw p e s m args below meth c hC H locs ls k n hE (lv_sub hl [0, 1, 2, 3] rfl) hR hS (by omega) (by omega)
  · have hw := hw.2 hc4
    refine lv_aload_n hx hb (xb_d D_Exact_lesser 4 rfl) rfl (lv_at hl 0 rfl) ?_
    refine lv_lload hx hb (xb_d D_Exact_lesser 5 rfl) (lv_at hl 3 rfl) ?_
    have hk1 : xb_k h2 x0 = 10 := hEh2.k hk1
    refine xb_call0 (D := D) (A := A) (σ := σ) (h := h2) (d := 3) (maxL := 3) (rest := []) (av := [.ref x0, .long x4]) (fun T hT X => by obtain ⟨cb9, ra9, rb9, rc9⟩ := xb_recv (ci := 9) hR rfl hk1 (by decide); exact xt_invV X hx hown (hts _ m_f9e5bce2) (hts _ m_d4ccf81e) (hts _ m_870ffa92) (xt_sigOf (hts _ m_b231eb2b)) nm_Exact_isZero (by rw [hT]; exact ra9) rb9 rc9 (g := F0 m 11 ls [.long x4, .ref x0]) rfl (argsL := [.long x4]) (rest := []) rfl rfl (by rw [hb]; exact (xb_d D_Exact_lesser 6 rfl))) (ok_Exact_isZero l hfl D A σ x0 x4 h2 _ hw) (hml.trans hl.1.symm) (by rw [hb]; exact (xb_d D_Exact_lesser 6 rfl)) (Nat.le_of_ble_eq_true rfl) (Nat.le_of_ble_eq_true rfl) (Nat.le_of_ble_eq_true rfl) (show k ≤ MC by omega) (show n ≤ MS by omega) (xt_w1 hB.1 m_b231eb2b) (xt_cdOf hB.1 m_b231eb2b) (hts _ m_b807310b) hB hR hS hA (fun vv h5 H locs hq hEh5 hR hS => ?_)
    obtain ⟨r6, rfl, hw⟩ := hq
    have hw := hw hEh5
    have hE := hE.tr hEh5
    refine W.eq (g2 := F0 m 14 ls [.int r6]) rfl ?_
    refine lv_if_eq (tgt := 79) hx hb (xb_d D_Exact_lesser 7 rfl) rfl (fun hc7 => ?_) (fun hc7 => ?_)
    · have hw := hw.1 hc7
      exact am_Exact_lesser_L79 l hfl D A σ MC MS h0 Qr x0 x1 x2 x4 h5 hw p e s m args below meth c hC H locs ls k n hE (lv_sub hl [0, 1, 2, 3] rfl) hR hS (by omega) (by omega)
    · have hw := hw.2 hc7
      refine lv_iload_n hx hb (xb_d D_Exact_lesser 8 rfl) rfl (lv_at hl 1 rfl) ?_
      refine lv_if_eq (tgt := 51) hx hb (xb_d D_Exact_lesser 9 rfl) rfl (fun hc8 => ?_) (fun hc8 => ?_)
      · have hw := hw.1 hc8
        refine lv_aload_n hx hb (xb_d D_Exact_lesser 25 rfl) rfl (lv_at hl 0 rfl) ?_
        refine lv_lconst (v := 0) hx hb (xb_d D_Exact_lesser 26 rfl) (by decide) ?_
        refine lv_aload_n hx hb (xb_d D_Exact_lesser 27 rfl) rfl (lv_at hl 0 rfl) ?_
        refine lv_lload_n hx hb (xb_d D_Exact_lesser 28 rfl) rfl (lv_at hl 2 rfl) ?_
        have hk1 : xb_k h5 x0 = 10 := hEh5.k hk1
        refine xb_call0 (D := D) (A := A) (σ := σ) (h := h5) (d := 2) (maxL := 3) (rest := [.long 0, .ref x0]) (av := [.ref x0, .long x2]) (fun T hT X => by obtain ⟨cb9, ra9, rb9, rc9⟩ := xb_recv (ci := 9) hR rfl hk1 (by decide); exact xt_invV X hx hown (hts _ m_de267fc4) (hts _ m_8cf2fba2) (hts _ m_e2188cdf) (xt_sigOf (hts _ m_25d2fde1)) nm_Exact_isMinus (by rw [hT]; exact ra9) rb9 rc9 (g := F0 m 55 ls [.long x2, .ref x0, .long 0, .ref x0]) rfl (argsL := [.long x2]) (rest := [.long 0, .ref x0]) rfl rfl (by rw [hb]; exact (xb_d D_Exact_lesser 29 rfl))) (ok_Exact_isMinus l hfl D A σ x0 x2 h5 _ hw) (hml.trans hl.1.symm) (by rw [hb]; exact (xb_d D_Exact_lesser 29 rfl)) (Nat.le_of_ble_eq_true rfl) (Nat.le_of_ble_eq_true rfl) (Nat.le_of_ble_eq_true rfl) (show k ≤ MC by omega) (show n ≤ MS by omega) (xt_w1 hB.1 m_25d2fde1) (xt_cdOf hB.1 m_25d2fde1) (hts _ m_b807310b) hB hR hS hA (fun vv h9 H locs hq hEh9 hR hS => ?_)
        obtain ⟨r10, rfl, hw⟩ := hq
        have hw := hw hEh9
        have hE := hE.tr hEh9
        refine W.eq (g2 := F0 m 58 ls [.int r10, .long 0, .ref x0]) rfl ?_
        refine lv_if_ne (tgt := 70) hx hb (xb_d D_Exact_lesser 30 rfl) rfl (fun hc11 => ?_) (fun hc11 => ?_)
        · have hw := hw.1 hc11
          exact am_Exact_lesser_L70 l hfl D A σ MC MS h0 Qr 0 x0 h9 hw p e s m args below meth c hC H locs ls k n hE (lv_sub hl [] rfl) hR hS (by omega) (by omega)
        · have hw := hw.2 hc11
          refine lv_aload_n hx hb (xb_d D_Exact_lesser 31 rfl) rfl (lv_at hl 0 rfl) ?_
          refine lv_lload hx hb (xb_d D_Exact_lesser 32 rfl) (lv_at hl 3 rfl) ?_
          have hk1 : xb_k h9 x0 = 10 := hEh9.k hk1
          refine xb_call0 (D := D) (A := A) (σ := σ) (h := h9) (d := 2) (maxL := 3) (rest := [.long 0, .ref x0]) (av := [.ref x0, .long x4]) (fun T hT X => by obtain ⟨cb9, ra9, rb9, rc9⟩ := xb_recv (ci := 9) hR rfl hk1 (by decide); exact xt_invV X hx hown (hts _ m_de267fc4) (hts _ m_8cf2fba2) (hts _ m_e2188cdf) (xt_sigOf (hts _ m_25d2fde1)) nm_Exact_isMinus (by rw [hT]; exact ra9) rb9 rc9 (g := F0 m 64 ls [.long x4, .ref x0, .long 0, .ref x0]) rfl (argsL := [.long x4]) (rest := [.long 0, .ref x0]) rfl rfl (by rw [hb]; exact (xb_d D_Exact_lesser 33 rfl))) (ok_Exact_isMinus l hfl D A σ x0 x4 h9 _ hw) (hml.trans hl.1.symm) (by rw [hb]; exact (xb_d D_Exact_lesser 33 rfl)) (Nat.le_of_ble_eq_true rfl) (Nat.le_of_ble_eq_true rfl) (Nat.le_of_ble_eq_true rfl) (show k ≤ MC by omega) (show n ≤ MS by omega) (xt_w1 hB.1 m_25d2fde1) (xt_cdOf hB.1 m_25d2fde1) (hts _ m_b807310b) hB hR hS hA (fun vv h12 H locs hq hEh12 hR hS => ?_)
          obtain ⟨r13, rfl, hw⟩ := hq
          have hw := hw hEh12
          have hE := hE.tr hEh12
          refine W.eq (g2 := F0 m 67 ls [.int r13, .long 0, .ref x0]) rfl ?_
          refine lv_if_eq (tgt := 74) hx hb (xb_d D_Exact_lesser 34 rfl) rfl (fun hc14 => ?_) (fun hc14 => ?_)
          · have hw := hw.1 hc14
            refine lv_iconst (v := 0) hx hb (xb_d D_Exact_lesser 37 rfl) (by decide) ?_
            exact am_Exact_lesser_L75 l hfl D A σ MC MS h0 Qr 0 0 x0 h12 hw p e s m args below meth c hC H locs ls k n hE (lv_sub hl [] rfl) hR hS (by omega) (by omega)
          · have hw := hw.2 hc14
            exact am_Exact_lesser_L70 l hfl D A σ MC MS h0 Qr 0 x0 h12 hw p e s m args below meth c hC H locs ls k n hE (lv_sub hl [] rfl) hR hS (by omega) (by omega)
      · have hw := hw.2 hc8
        refine lv_aload_n hx hb (xb_d D_Exact_lesser 10 rfl) rfl (lv_at hl 0 rfl) ?_
        refine lv_lconst (v := 0) hx hb (xb_d D_Exact_lesser 11 rfl) (by decide) ?_
        refine lv_aload_n hx hb (xb_d D_Exact_lesser 12 rfl) rfl (lv_at hl 0 rfl) ?_
        refine lv_lload_n hx hb (xb_d D_Exact_lesser 13 rfl) rfl (lv_at hl 2 rfl) ?_
        have hk1 : xb_k h5 x0 = 10 := hEh5.k hk1
        refine xb_call0 (D := D) (A := A) (σ := σ) (h := h5) (d := 2) (maxL := 3) (rest := [.long 0, .ref x0]) (av := [.ref x0, .long x2]) (fun T hT X => by obtain ⟨cb9, ra9, rb9, rc9⟩ := xb_recv (ci := 9) hR rfl hk1 (by decide); exact xt_invV X hx hown (hts _ m_de267fc4) (hts _ m_8cf2fba2) (hts _ m_e2188cdf) (xt_sigOf (hts _ m_25d2fde1)) nm_Exact_isMinus (by rw [hT]; exact ra9) rb9 rc9 (g := F0 m 25 ls [.long x2, .ref x0, .long 0, .ref x0]) rfl (argsL := [.long x2]) (rest := [.long 0, .ref x0]) rfl rfl (by rw [hb]; exact (xb_d D_Exact_lesser 14 rfl))) (ok_Exact_isMinus l hfl D A σ x0 x2 h5 _ hw) (hml.trans hl.1.symm) (by rw [hb]; exact (xb_d D_Exact_lesser 14 rfl)) (Nat.le_of_ble_eq_true rfl) (Nat.le_of_ble_eq_true rfl) (Nat.le_of_ble_eq_true rfl) (show k ≤ MC by omega) (show n ≤ MS by omega) (xt_w1 hB.1 m_25d2fde1) (xt_cdOf hB.1 m_25d2fde1) (hts _ m_b807310b) hB hR hS hA (fun vv h15 H locs hq hEh15 hR hS => ?_)
        obtain ⟨r16, rfl, hw⟩ := hq
        have hw := hw hEh15
        have hE := hE.tr hEh15
        refine W.eq (g2 := F0 m 28 ls [.int r16, .long 0, .ref x0]) rfl ?_
        refine lv_if_eq (tgt := 44) hx hb (xb_d D_Exact_lesser 15 rfl) rfl (fun hc17 => ?_) (fun hc17 => ?_)
        · have hw := hw.1 hc17
          exact am_Exact_lesser_L44 l hfl D A σ MC MS h0 Qr 0 x0 h15 hw p e s m args below meth c hC H locs ls k n hE (lv_sub hl [] rfl) hR hS (by omega) (by omega)
        · have hw := hw.2 hc17
          refine lv_aload_n hx hb (xb_d D_Exact_lesser 16 rfl) rfl (lv_at hl 0 rfl) ?_
          refine lv_lload hx hb (xb_d D_Exact_lesser 17 rfl) (lv_at hl 3 rfl) ?_
          have hk1 : xb_k h15 x0 = 10 := hEh15.k hk1
          refine xb_call0 (D := D) (A := A) (σ := σ) (h := h15) (d := 2) (maxL := 3) (rest := [.long 0, .ref x0]) (av := [.ref x0, .long x4]) (fun T hT X => by obtain ⟨cb9, ra9, rb9, rc9⟩ := xb_recv (ci := 9) hR rfl hk1 (by decide); exact xt_invV X hx hown (hts _ m_de267fc4) (hts _ m_8cf2fba2) (hts _ m_e2188cdf) (xt_sigOf (hts _ m_25d2fde1)) nm_Exact_isMinus (by rw [hT]; exact ra9) rb9 rc9 (g := F0 m 34 ls [.long x4, .ref x0, .long 0, .ref x0]) rfl (argsL := [.long x4]) (rest := [.long 0, .ref x0]) rfl rfl (by rw [hb]; exact (xb_d D_Exact_lesser 18 rfl))) (ok_Exact_isMinus l hfl D A σ x0 x4 h15 _ hw) (hml.trans hl.1.symm) (by rw [hb]; exact (xb_d D_Exact_lesser 18 rfl)) (Nat.le_of_ble_eq_true rfl) (Nat.le_of_ble_eq_true rfl) (Nat.le_of_ble_eq_true rfl) (show k ≤ MC by omega) (show n ≤ MS by omega) (xt_w1 hB.1 m_25d2fde1) (xt_cdOf hB.1 m_25d2fde1) (hts _ m_b807310b) hB hR hS hA (fun vv h18 H locs hq hEh18 hR hS => ?_)
          obtain ⟨r19, rfl, hw⟩ := hq
          have hw := hw hEh18
          have hE := hE.tr hEh18
          refine W.eq (g2 := F0 m 37 ls [.int r19, .long 0, .ref x0]) rfl ?_
          refine lv_if_eq (tgt := 44) hx hb (xb_d D_Exact_lesser 19 rfl) rfl (fun hc20 => ?_) (fun hc20 => ?_)
          · have hw := hw.1 hc20
            exact am_Exact_lesser_L44 l hfl D A σ MC MS h0 Qr 0 x0 h18 hw p e s m args below meth c hC H locs ls k n hE (lv_sub hl [] rfl) hR hS (by omega) (by omega)
          · have hw := hw.2 hc20
            refine lv_iconst (v := 1) hx hb (xb_d D_Exact_lesser 20 rfl) (by decide) ?_
            refine lv_goto (tgt := 45) hx hb (xb_d D_Exact_lesser 21 rfl) rfl ?_
            exact am_Exact_lesser_L45 l hfl D A σ MC MS h0 Qr 1 0 x0 h18 hw p e s m args below meth c hC H locs ls k n hE (lv_sub hl [] rfl) hR hS (by omega) (by omega)

