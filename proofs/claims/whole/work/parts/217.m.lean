theorem m_a62210ac : (.fieldLink "StackHostModel$Exact" 87 "StackHostModel$Exact" "weight" "I" : Cond) ∈ xt_tbl := xt_in (xt_t9 (List.mem_of_getElem? (i := 115) (by decide +kernel))) (by decide +kernel)
theorem m_183e6a18 : (.fieldLink "StackHostModel$Exact" 83 "StackHostModel$Exact" "amount" "J" : Cond) ∈ xt_tbl := xt_in (xt_t9 (List.mem_of_getElem? (i := 114) (by decide +kernel))) (by decide +kernel)
theorem m_124dafb0 : (.fieldLink "StackHostModel$Exact" 80 "StackHostModel$Exact" "minus" "Z" : Cond) ∈ xt_tbl := xt_in (xt_t9 (List.mem_of_getElem? (i := 113) (by decide +kernel))) (by decide +kernel)
set_option maxRecDepth 100000 in
def T_Exact_split : List (Nat × Instr × Nat) := [(0, .aload_n 0, 1), (1, .lload_n 1, 1), (2, .invokevirtual 72, 3), (5, .aload_n 0, 1), (6, .getfield 44, 3), (9, .lshr, 1), (10, .lstore_n 3, 1), (11, .lload_n 1, 1), (12, .lconst 1, 1), (13, .aload_n 0, 1), (14, .getfield 44, 3), (17, .lshl, 1), (18, .lconst 1, 1), (19, .lsub, 1), (20, .land, 1), (21, .lstore 5, 2), (23, .aload_n 0, 1), (24, .aload_n 0, 1), (25, .lload_n 1, 1), (26, .invokevirtual 76, 3), (29, .putfield 80, 3), (32, .aload_n 0, 1), (33, .lload_n 3, 1), (34, .lconst 0, 1), (35, .lcmp, 1), (36, .ifCond .ne 8, 3), (39, .lload 5, 2), (41, .goto 12, 3), (44, .lload 5, 2), (46, .lconst 1, 1), (47, .aload_n 0, 1), (48, .getfield 44, 3), (51, .lshl, 1), (52, .ladd, 1), (53, .putfield 83, 3), (56, .aload_n 0, 1), (57, .lload_n 3, 1), (58, .lconst 0, 1), (59, .lcmp, 1), (60, .ifCond .ne 7, 3), (63, .iconst 1, 1), (64, .goto 5, 3), (67, .lload_n 3, 1), (68, .l2i, 1), (69, .aload_n 0, 1), (70, .getfield 47, 3), (73, .isub, 1), (74, .aload_n 0, 1), (75, .getfield 44, 3), (78, .isub, 1), (79, .putfield 87, 3), (82, .return_, 1)]
theorem D_Exact_split : ∀ q ∈ T_Exact_split, decode b_Exact_split q.1 = .ok (q.2.1, q.2.2) := by decide +kernel
def w_Exact_split_L69 (Qr : xb_H → Prop) (x0 : Nat) (y0 : Int32) (y1 : Nat) (h : xb_H) : Prop :=
    xb_k h x0 = 10 ∧ xb_k h y1 = 10 ∧ ∀ h3 : xb_H, h3 = xb_I h y1 10 ((y0 - (xb_i h x0 7)) - (xb_i h x0 6)) → Qr h3

def w_Exact_split_L53 (Qr : xb_H → Prop) (x0 : Nat) (x3 : Int64) (y0 : Int64) (y1 : Nat) (h : xb_H) : Prop :=
    xb_k h y1 = 10 ∧ ∀ h2 : xb_H, h2 = xb_L h y1 9 y0 → ((¬ x3 = (0 : Int64) → w_Exact_split_L69 Qr x0 (Int64.toInt32 x3) x0 h2) ∧ (x3 = (0 : Int64) → w_Exact_split_L69 Qr x0 1 x0 h2))

def w_Exact_split (x0 : Nat) (x1 : Int64) (h : xb_H) (Qr : xb_H → Prop) : Prop :=
    xb_k h x0 = 10 ∧ w_Exact_size x0 x1 h (fun (r3 : Int64) (h2 : xb_H) => xb_ext h h2 → ∀ v4 : Int64, v4 = (xb_lshr r3 (xb_i h2 x0 6)) → ∀ v5 : Int64, v5 = (x1 &&& ((xb_lshl 1 (xb_i h2 x0 6)) - 1)) → w_Exact_isMinus x0 x1 h2 (fun (r7 : Int32) (h6 : xb_H) => xb_ext h2 h6 → (r7 = 0 ∨ r7 = 1) ∧ ∀ h9 : xb_H, h9 = xb_I h6 x0 8 r7 → ((¬ v4 = (0 : Int64) → w_Exact_split_L53 Qr x0 v4 (v5 + (xb_lshl 1 (xb_i h9 x0 6))) x0 h9) ∧ (v4 = (0 : Int64) → w_Exact_split_L53 Qr x0 v4 v5 x0 h9))))

set_option maxHeartbeats 4000000 in
set_option maxRecDepth 100000 in
theorem am_Exact_split_L69 (l : Launch) (hfl : l.flags = pinnedFlags ++ [noTraceFlag]) (D : va_G) (A : Nat → Prop) (σ MC MS : Nat) (h0 : xb_H) (Qr : xb_H → Prop) (x0 : Nat) (y0 : Int32) (y1 : Nat) (h : xb_H) (hw : w_Exact_split_L69 Qr x0 y0 y1 h) : xb_am l D A σ 3 MC MS h0 (fun v h => v = none ∧ Qr h) (fun _ _ => False) y_Exact_split.cls y_Exact_split.name b_Exact_split 7 ([] : List ExceptionTableEntry) none 69 [(0, .ref x0)] [.int y0, .ref y1] h 0 0 := by
  unfold w_Exact_split_L69 at hw
  intro p e s m args below meth c hC H locs ls k n hE hl hR hS hk hn
  obtain ⟨hx, hb, hown, hlocks, htab, hml, hr, hB, hA, hnm⟩ := id hC
  have hts := hB.1.1.at args
  refine lv_aload_n hx hb (xb_d D_Exact_split 44 rfl) rfl (lv_at hl 0 rfl) ?_
  obtain ⟨hk1, hw⟩ := hw
  refine xb_getI (C := R_Exact) (T := F_Exact) (N := 11) hx hb 9 7 hts fin_Exact hown hR hk1 (by decide) rfl (by decide) rfl (hts _ m_71f7a53b) (fun _ h9 => h9) (xb_d D_Exact_split 45 rfl) ?_
  refine lv_isub hx hb (xb_d D_Exact_split 46 rfl) ?_
  refine lv_aload_n hx hb (xb_d D_Exact_split 47 rfl) rfl (lv_at hl 0 rfl) ?_
  refine xb_getI (C := R_Exact) (T := F_Exact) (N := 11) hx hb 9 6 hts fin_Exact hown hR hk1 (by decide) rfl (by decide) rfl (hts _ m_904a6bc5) (fun _ h9 => h9) (xb_d D_Exact_split 48 rfl) ?_
  refine lv_isub hx hb (xb_d D_Exact_split 49 rfl) ?_
  obtain ⟨hk2, hw⟩ := hw
  refine xb_putI (C := R_Exact) (T := F_Exact) (N := 11) (ty := .int) (x := ((y0 - (xb_i h x0 7)) - (xb_i h x0 6))) hx hb 9 10 hts fin_Exact t_Exact t_Exact_ok n_Exact hown hR hS hk2 (by decide) rfl (by decide) rfl (hts _ m_a62210ac) (fun _ h9 => h9) rfl (by decide +kernel) rfl rfl (xb_d D_Exact_split 50 rfl) (fun H locs hR hS => ?_)
  obtain ⟨h3, eh3⟩ : ∃ x : xb_H, x = xb_I h y1 10 ((y0 - (xb_i h x0 7)) - (xb_i h x0 6)) := ⟨_, rfl⟩
  rw [← eh3] at hR
  have hw := hw h3 eh3
  have hE : xb_ext h0 h3 := by rw [eh3]; exact hE
  exact xb_vret hx hb hr hlocks (show k ≤ MC by omega) (show n ≤ MS by omega) hE hR hS (xb_d D_Exact_split 51 rfl) hw

set_option maxHeartbeats 4000000 in
set_option maxRecDepth 100000 in
theorem am_Exact_split_L53 (l : Launch) (hfl : l.flags = pinnedFlags ++ [noTraceFlag]) (D : va_G) (A : Nat → Prop) (σ MC MS : Nat) (h0 : xb_H) (Qr : xb_H → Prop) (x0 : Nat) (x3 : Int64) (y0 : Int64) (y1 : Nat) (h : xb_H) (hw : w_Exact_split_L53 Qr x0 x3 y0 y1 h) : xb_am l D A σ 3 MC MS h0 (fun v h => v = none ∧ Qr h) (fun _ _ => False) y_Exact_split.cls y_Exact_split.name b_Exact_split 7 ([] : List ExceptionTableEntry) none 53 [(0, .ref x0), (3, .long x3)] [.long y0, .ref y1] h 0 0 := by
  unfold w_Exact_split_L53 at hw
  intro p e s m args below meth c hC H locs ls k n hE hl hR hS hk hn
  obtain ⟨hx, hb, hown, hlocks, htab, hml, hr, hB, hA, hnm⟩ := id hC
  have hts := hB.1.1.at args
  obtain ⟨hk1, hw⟩ := hw
  refine xb_putL (C := R_Exact) (T := F_Exact) (N := 11) (ty := .long) (x := y0) hx hb 9 9 hts fin_Exact t_Exact t_Exact_ok n_Exact hown hR hS hk1 (by decide) rfl (by decide) rfl (hts _ m_183e6a18) (fun _ h9 => h9) rfl (by decide +kernel) rfl rfl (xb_d D_Exact_split 34 rfl) (fun H locs hR hS => ?_)
  obtain ⟨h2, eh2⟩ : ∃ x : xb_H, x = xb_L h y1 9 y0 := ⟨_, rfl⟩
  rw [← eh2] at hR
  have hw := hw h2 eh2
  have hE : xb_ext h0 h2 := by rw [eh2]; exact hE
  refine lv_aload_n hx hb (xb_d D_Exact_split 35 rfl) rfl (lv_at hl 0 rfl) ?_
  refine lv_lload_n hx hb (xb_d D_Exact_split 36 rfl) rfl (lv_at hl 1 rfl) ?_
  refine lv_lconst (v := 0) hx hb (xb_d D_Exact_split 37 rfl) (by decide) ?_
  refine xb_lc_ne (tgt := 67) hx hb (xb_d D_Exact_split 38 rfl) (xb_d D_Exact_split 39 rfl) rfl (fun hc3 => ?_) (fun hc3 => ?_)
  · have hw := hw.1 hc3
    refine lv_lload_n hx hb (xb_d D_Exact_split 42 rfl) rfl (lv_at hl 1 rfl) ?_
    refine lv_l2i hx hb (xb_d D_Exact_split 43 rfl) rfl ?_
    exact am_Exact_split_L69 l hfl D A σ MC MS h0 Qr x0 (Int64.toInt32 x3) x0 h2 hw p e s m args below meth c hC H locs ls k n hE (lv_sub hl [0] rfl) hR hS (by omega) (by omega)
  · have hw := hw.2 hc3
    refine lv_iconst (v := 1) hx hb (xb_d D_Exact_split 40 rfl) (by decide) ?_
    refine lv_goto (tgt := 69) hx hb (xb_d D_Exact_split 41 rfl) rfl ?_
    exact am_Exact_split_L69 l hfl D A σ MC MS h0 Qr x0 1 x0 h2 hw p e s m args below meth c hC H locs ls k n hE (lv_sub hl [0] rfl) hR hS (by omega) (by omega)

set_option maxHeartbeats 4000000 in
set_option maxRecDepth 100000 in
theorem ok_Exact_split (l : Launch) (hfl : l.flags = pinnedFlags ++ [noTraceFlag]) (D : va_G) (A : Nat → Prop) (σ : Nat) (x0 : Nat) (x1 : Int64) (h : xb_H) (Qr : xb_H → Prop) (hw : w_Exact_split x0 x1 h Qr) : xt_Met l y_Exact_split [.code y_Exact_split b_Exact_split 7 none] (xb_rm 3 0 0) (xb_Pc D A σ h [.ref x0, .long x1]) (xb_Qc D A h (fun v h => v = none ∧ Qr h) (fun _ _ => False)) 0 0 A := by
  refine xb_ofAm (cc := b_Exact_split) (by decide) (Nat.le_of_ble_eq_true rfl) ?_
  unfold w_Exact_split at hw
  show xb_am l D A σ 3 0 0 h (fun v h => v = none ∧ Qr h) (fun _ _ => False) y_Exact_split.cls y_Exact_split.name b_Exact_split 7 ([] : List ExceptionTableEntry) none 0 [(0, .ref x0), (1, .long x1)] [] h 0 0
  obtain ⟨MC, hMC⟩ : ∃ x, x = 0 := ⟨_, rfl⟩
  obtain ⟨MS, hMS⟩ : ∃ x, x = 0 := ⟨_, rfl⟩
  rw [show xb_am l D A σ 3 0 0 = xb_am l D A σ 3 MC MS by rw [hMC, hMS]]
  obtain ⟨h0, hh0⟩ : ∃ x, x = h := ⟨_, rfl⟩
  rw [show xb_am l D A σ 3 MC MS h = xb_am l D A σ 3 MC MS h0 by rw [hh0]]
  intro p e s m args below meth c hC H locs ls k n hE hl hR hS hk hn
  obtain ⟨hx, hb, hown, hlocks, htab, hml, hr, hB, hA, hnm⟩ := id hC
  have hts := hB.1.1.at args
  refine lv_aload_n hx hb (xb_d D_Exact_split 0 rfl) rfl (lv_at hl 0 rfl) ?_
  refine lv_lload_n hx hb (xb_d D_Exact_split 1 rfl) rfl (lv_at hl 1 rfl) ?_
  obtain ⟨hk1, hw⟩ := hw
  refine xb_call (D := D) (A := A) (σ := σ) (h := h) (d := 2) (mc := 0) (ms := 0) (maxL := 3) (rest := []) (av := [.ref x0, .long x1]) (fun T hT X => by obtain ⟨cb, r1, r2, r3⟩ := xb_recv (ci := 9) hR rfl hk1 (by decide); exact xt_invV X hx hown (hts _ m_4c81fbb0) (hts _ m_fb12fd6e) (hts _ m_e5146b3f) (xt_sigOf (hts _ m_7f30805a)) nm_Exact_size (by rw [hT]; exact r1) r2 r3 (g := F0 m 2 ls [.long x1, .ref x0]) rfl (argsL := [.long x1]) (rest := []) rfl rfl (by rw [hb]; exact (xb_d D_Exact_split 2 rfl))) (ok_Exact_size l hfl D A σ x0 x1 h _ hw) (hml.trans hl.1.symm) (by rw [hb]; exact (xb_d D_Exact_split 2 rfl)) (Nat.le_of_ble_eq_true rfl) (Nat.le_of_ble_eq_true rfl) (Nat.le_of_ble_eq_true rfl) (show k + 0 ≤ MC by omega) (show n + 0 ≤ MS by omega) (xt_w1 hB.1 m_7f30805a) (xt_cdOf hB.1 m_7f30805a) (hts _ m_b807310b) hB hR hS hA (fun vv h2 H locs hq hEh2 hR hS => ?_) (fun XX ax h2 H locs hq hEh2 hex hR hS => ?_)
  · obtain ⟨r3, rfl, hw⟩ := hq
    have hw := hw hEh2
    have hE := hE.tr hEh2
    refine W.eq (g2 := F0 m 5 ls [.long r3]) rfl ?_
    refine lv_aload_n hx hb (xb_d D_Exact_split 3 rfl) rfl (lv_at hl 0 rfl) ?_
    have hk1 : xb_k h2 x0 = 10 := hEh2.k hk1
    refine xb_getI (C := R_Exact) (T := F_Exact) (N := 11) hx hb 9 6 hts fin_Exact hown hR hk1 (by decide) rfl (by decide) rfl (hts _ m_904a6bc5) (fun _ h9 => h9) (xb_d D_Exact_split 4 rfl) ?_
    refine lv_lshr (v := (xb_lshr r3 (xb_i h2 x0 6))) hx hb (xb_d D_Exact_split 5 rfl) rfl ?_
    obtain ⟨v4, ev4⟩ : ∃ x : Int64, x = (xb_lshr r3 (xb_i h2 x0 6)) := ⟨_, rfl⟩
    have hw := hw v4 ev4
    refine xt_numl (y := v4) ev4.symm ?_
    refine lv_lstore_n hx hb (xb_d D_Exact_split 6 rfl) rfl hl (by decide) rfl (fun ls hl => ?_)
    have hl : lv_has ls 7 [(3, .long v4), (0, .ref x0), (1, .long x1)] := hl
    refine lv_lload_n hx hb (xb_d D_Exact_split 7 rfl) rfl (lv_at hl 2 rfl) ?_
    refine lv_lconst (v := 1) hx hb (xb_d D_Exact_split 8 rfl) (by decide) ?_
    refine lv_aload_n hx hb (xb_d D_Exact_split 9 rfl) rfl (lv_at hl 1 rfl) ?_
    refine xb_getI (C := R_Exact) (T := F_Exact) (N := 11) hx hb 9 6 hts fin_Exact hown hR hk1 (by decide) rfl (by decide) rfl (hts _ m_904a6bc5) (fun _ h9 => h9) (xb_d D_Exact_split 10 rfl) ?_
    refine lv_lshl (v := (xb_lshl 1 (xb_i h2 x0 6))) hx hb (xb_d D_Exact_split 11 rfl) rfl ?_
    refine lv_lconst (v := 1) hx hb (xb_d D_Exact_split 12 rfl) (by decide) ?_
    refine lv_lsub hx hb (xb_d D_Exact_split 13 rfl) ?_
    refine lv_land hx hb (xb_d D_Exact_split 14 rfl) ?_
    obtain ⟨v5, ev5⟩ : ∃ x : Int64, x = (x1 &&& ((xb_lshl 1 (xb_i h2 x0 6)) - 1)) := ⟨_, rfl⟩
    have hw := hw v5 ev5
    refine xt_numl (y := v5) ev5.symm ?_
    refine lv_lstore hx hb (xb_d D_Exact_split 15 rfl) hl (by decide) rfl (fun ls hl => ?_)
    have hl : lv_has ls 7 [(5, .long v5), (3, .long v4), (0, .ref x0), (1, .long x1)] := hl
    refine lv_aload_n hx hb (xb_d D_Exact_split 16 rfl) rfl (lv_at hl 2 rfl) ?_
    refine lv_aload_n hx hb (xb_d D_Exact_split 17 rfl) rfl (lv_at hl 2 rfl) ?_
    refine lv_lload_n hx hb (xb_d D_Exact_split 18 rfl) rfl (lv_at hl 3 rfl) ?_
    refine xb_call (D := D) (A := A) (σ := σ) (h := h2) (d := 2) (mc := 0) (ms := 0) (maxL := 3) (rest := [.ref x0]) (av := [.ref x0, .long x1]) (fun T hT X => by obtain ⟨cb, r1, r2, r3⟩ := xb_recv (ci := 9) hR rfl hk1 (by decide); exact xt_invV X hx hown (hts _ m_de267fc4) (hts _ m_8cf2fba2) (hts _ m_e2188cdf) (xt_sigOf (hts _ m_25d2fde1)) nm_Exact_isMinus (by rw [hT]; exact r1) r2 r3 (g := F0 m 26 ls [.long x1, .ref x0, .ref x0]) rfl (argsL := [.long x1]) (rest := [.ref x0]) rfl rfl (by rw [hb]; exact (xb_d D_Exact_split 19 rfl))) (ok_Exact_isMinus l hfl D A σ x0 x1 h2 _ hw) (hml.trans hl.1.symm) (by rw [hb]; exact (xb_d D_Exact_split 19 rfl)) (Nat.le_of_ble_eq_true rfl) (Nat.le_of_ble_eq_true rfl) (Nat.le_of_ble_eq_true rfl) (show k + 0 ≤ MC by omega) (show n + 0 ≤ MS by omega) (xt_w1 hB.1 m_25d2fde1) (xt_cdOf hB.1 m_25d2fde1) (hts _ m_b807310b) hB hR hS hA (fun vv h6 H locs hq hEh6 hR hS => ?_) (fun XX ax h6 H locs hq hEh6 hex hR hS => ?_)
    · obtain ⟨r7, rfl, hw⟩ := hq
      have hw := hw hEh6
      have hE := hE.tr hEh6
      refine W.eq (g2 := F0 m 29 ls [.int r7, .ref x0]) rfl ?_
      have hk1 : xb_k h6 x0 = 10 := hEh6.k hk1
      obtain ⟨hz8, hw⟩ := hw
      refine xb_putI (C := R_Exact) (T := F_Exact) (N := 11) (ty := .boolean) (x := r7) hx hb 9 8 hts fin_Exact t_Exact t_Exact_ok n_Exact hown hR hS hk1 (by decide) rfl (by decide) rfl (hts _ m_124dafb0) (fun _ h9 => h9) rfl (by decide +kernel) (xb_bn hz8).1 (xb_bn hz8).2 (xb_d D_Exact_split 20 rfl) (fun H locs hR hS => ?_)
      obtain ⟨h9, eh9⟩ : ∃ x : xb_H, x = xb_I h6 x0 8 r7 := ⟨_, rfl⟩
      rw [← eh9] at hR
      have hw := hw h9 eh9
      have hE : xb_ext h0 h9 := by rw [eh9]; exact hE
      refine lv_aload_n hx hb (xb_d D_Exact_split 21 rfl) rfl (lv_at hl 2 rfl) ?_
      refine lv_lload_n hx hb (xb_d D_Exact_split 22 rfl) rfl (lv_at hl 1 rfl) ?_
      refine lv_lconst (v := 0) hx hb (xb_d D_Exact_split 23 rfl) (by decide) ?_
      refine xb_lc_ne (tgt := 44) hx hb (xb_d D_Exact_split 24 rfl) (xb_d D_Exact_split 25 rfl) rfl (fun hc10 => ?_) (fun hc10 => ?_)
      · have hw := hw.1 hc10
        refine lv_lload hx hb (xb_d D_Exact_split 28 rfl) (lv_at hl 0 rfl) ?_
        refine lv_lconst (v := 1) hx hb (xb_d D_Exact_split 29 rfl) (by decide) ?_
        refine lv_aload_n hx hb (xb_d D_Exact_split 30 rfl) rfl (lv_at hl 2 rfl) ?_
        have hk1 : xb_k h9 x0 = 10 := by rw [eh9]; exact hk1
        refine xb_getI (C := R_Exact) (T := F_Exact) (N := 11) hx hb 9 6 hts fin_Exact hown hR hk1 (by decide) rfl (by decide) rfl (hts _ m_904a6bc5) (fun _ h9 => h9) (xb_d D_Exact_split 31 rfl) ?_
        refine lv_lshl (v := (xb_lshl 1 (xb_i h9 x0 6))) hx hb (xb_d D_Exact_split 32 rfl) rfl ?_
        refine lv_ladd hx hb (xb_d D_Exact_split 33 rfl) ?_
        exact am_Exact_split_L53 l hfl D A σ MC MS h0 Qr x0 v4 (v5 + (xb_lshl 1 (xb_i h9 x0 6))) x0 h9 hw p e s m args below meth c hC H locs ls k n hE (lv_sub hl [2, 1] rfl) hR hS (by omega) (by omega)
      · have hw := hw.2 hc10
        refine lv_lload hx hb (xb_d D_Exact_split 26 rfl) (lv_at hl 0 rfl) ?_
        refine lv_goto (tgt := 53) hx hb (xb_d D_Exact_split 27 rfl) rfl ?_
        exact am_Exact_split_L53 l hfl D A σ MC MS h0 Qr x0 v4 v5 x0 h9 hw p e s m args below meth c hC H locs ls k n hE (lv_sub hl [2, 1] rfl) hR hS (by omega) (by omega)
    · exact False.elim hq
  · exact False.elim hq

set_option maxRecDepth 100000 in
def T_Exact_take : List (Nat × Instr × Nat) := [(0, .iconst 0, 1), (1, .istore 4, 2), (3, .sipush 2200, 3), (6, .iload_n 3, 1), (7, .iadd, 1), (8, .istore 5, 2), (10, .lload_n 1, 1), (11, .lstore 6, 2), (13, .aload_n 0, 1), (14, .iload 5, 2), (16, .iload 5, 2), (18, .invokevirtual 37, 3), (21, .lload 6, 2), (23, .lconst 0, 1), (24, .lcmp, 1), (25, .ifCond .ne 8, 3), (28, .iload 4, 2), (30, .ifCond .le 65, 3), (33, .aload_n 0, 1), (34, .getfield 9, 3), (37, .iload 5, 2), (39, .baload, 1), (40, .lload 6, 2), (42, .lconst 1, 1), (43, .land, 1), (44, .l2i, 1), (45, .isub, 1), (46, .iload 4, 2), (48, .isub, 1), (49, .istore 8, 2), (51, .aload_n 0, 1), (52, .getfield 9, 3), (55, .iload 5, 2), (57, .iload 8, 2), (59, .iconst 1, 1), (60, .iand, 1), (61, .i2b, 1), (62, .bastore, 1), (63, .iload 8, 2), (65, .ifCond .ge 7, 3), (68, .iconst 1, 1), (69, .goto 4, 3), (72, .iconst 0, 1), (73, .istore 4, 2), (75, .aload_n 0, 1), (76, .iload 5, 2), (78, .iload 5, 2), (80, .invokevirtual 37, 3), (83, .lload 6, 2), (85, .iconst 1, 1), (86, .lushr, 1), (87, .lstore 6, 2), (89, .iinc 5 1, 3), (92, .goto (-71), 3), (95, .return_, 1)]
theorem D_Exact_take : ∀ q ∈ T_Exact_take, decode b_Exact_take q.1 = .ok (q.2.1, q.2.2) := by decide +kernel
def w_Exact_take_L73 (K21 : Nat → Int32 → Int32 → Int64 → xb_H → Prop) (Qr : xb_H → Prop) (x0 : Nat) (x5 : Int32) (x6 : Int64) (y0 : Int32) (h : xb_H) : Prop :=
    xb_k h x0 = 10 ∧ w_Exact_reach x0 x5 x5 h (fun (h2 : xb_H) => xb_ext h h2 → ∀ v4 : Int64, v4 = (xb_lushr x6 1) → K21 x0 y0 (x5 + 1) v4 h2)

def w_Exact_take_L33 (K21 : Nat → Int32 → Int32 → Int64 → xb_H → Prop) (Qr : xb_H → Prop) (x0 : Nat) (x4 : Int32) (x5 : Int32) (x6 : Int64) (h : xb_H) : Prop :=
    xb_k h x0 = 10 ∧ ∃ b2 : Nat, (xb_r h x0 1) = some b2 ∧ xb_k h b2 = 100 ∧ vp_in x5 (xb_n h b2) ∧ ∀ v5 : Int32, v5 = (((xb_i h b2 (Int32.toNatClampNeg x5)) - (Int64.toInt32 (x6 &&& 1))) - x4) → ∃ b6 : Nat, (xb_r h x0 1) = some b6 ∧ xb_k h b6 = 100 ∧ vp_in x5 (xb_n h b6) ∧ ∀ h9 : xb_H, h9 = xb_I h b6 (Int32.toNatClampNeg x5) (vp_nar .byte ((Int32.toInt8 (v5 &&& 1)).toInt32)) → (((0 : Int32) ≤ v5 → w_Exact_take_L73 K21 Qr x0 x5 x6 0 h9) ∧ (¬ (0 : Int32) ≤ v5 → w_Exact_take_L73 K21 Qr x0 x5 x6 1 h9))

def w_Exact_take_L21 (Qr : xb_H → Prop) : Nat → Nat → Int32 → Int32 → Int64 → xb_H → Prop
  | 0, _, _, _, _, _ => False
  | n9 + 1, x0, x4, x5, x6, h =>
    ((¬ x6 = (0 : Int64) → w_Exact_take_L33 (w_Exact_take_L21 Qr n9) Qr x0 x4 x5 x6 h) ∧ (x6 = (0 : Int64) → ((x4 ≤ (0 : Int32) → Qr h) ∧ (¬ x4 ≤ (0 : Int32) → w_Exact_take_L33 (w_Exact_take_L21 Qr n9) Qr x0 x4 x5 x6 h))))

def w_Exact_take (x0 : Nat) (x1 : Int64) (x3 : Int32) (h : xb_H) (Qr : xb_H → Prop) : Prop :=
    ∀ v1 : Int32, v1 = (2200 + x3) → xb_k h x0 = 10 ∧ w_Exact_reach x0 v1 v1 h (fun (h3 : xb_H) => xb_ext h h3 → (∃ n8 : Nat, w_Exact_take_L21 Qr n8 x0 0 v1 x1 h3))

set_option maxHeartbeats 4000000 in
set_option maxRecDepth 100000 in
theorem am_Exact_take_L73 (l : Launch) (hfl : l.flags = pinnedFlags ++ [noTraceFlag]) (D : va_G) (A : Nat → Prop) (σ MC MS : Nat) (h0 : xb_H) (Qr : xb_H → Prop) (K21 : Nat → Int32 → Int32 → Int64 → xb_H → Prop) (hK21 : ∀ (x0 : Nat) (x4 : Int32) (x5 : Int32) (x6 : Int64) (h : xb_H), K21 x0 x4 x5 x6 h → xb_am l D A σ 3 MC MS h0 (fun v h => v = none ∧ Qr h) (fun _ _ => False) y_Exact_take.cls y_Exact_take.name b_Exact_take 9 ([] : List ExceptionTableEntry) none 21 [(0, .ref x0), (4, .int x4), (5, .int x5), (6, .long x6)] [] h 0 0) (x0 : Nat) (x5 : Int32) (x6 : Int64) (y0 : Int32) (h : xb_H) (hw : w_Exact_take_L73 K21 Qr x0 x5 x6 y0 h) : xb_am l D A σ 3 MC MS h0 (fun v h => v = none ∧ Qr h) (fun _ _ => False) y_Exact_take.cls y_Exact_take.name b_Exact_take 9 ([] : List ExceptionTableEntry) none 73 [(0, .ref x0), (5, .int x5), (6, .long x6)] [.int y0] h 0 0 := by
  unfold w_Exact_take_L73 at hw
  intro p e s m args below meth c hC H locs ls k n hE hl hR hS hk hn
  obtain ⟨hx, hb, hown, hlocks, htab, hml, hr, hB, hA, hnm⟩ := id hC
  have hts := hB.1.1.at args
  refine lv_istore hx hb (xb_d D_Exact_take 43 rfl) hl (by decide) rfl (fun ls hl => ?_)
  have hl : lv_has ls 9 [(4, .int y0), (0, .ref x0), (5, .int x5), (6, .long x6)] := hl
  refine lv_aload_n hx hb (xb_d D_Exact_take 44 rfl) rfl (lv_at hl 1 rfl) ?_
  refine lv_iload hx hb (xb_d D_Exact_take 45 rfl) (lv_at hl 2 rfl) ?_
  refine lv_iload hx hb (xb_d D_Exact_take 46 rfl) (lv_at hl 2 rfl) ?_
  obtain ⟨hk1, hw⟩ := hw
  refine xb_call (D := D) (A := A) (σ := σ) (h := h) (d := 2) (mc := 0) (ms := 0) (maxL := 3) (rest := []) (av := [.ref x0, .int x5, .int x5]) (fun T hT X => by obtain ⟨cb, r1, r2, r3⟩ := xb_recv (ci := 9) hR rfl hk1 (by decide); exact xt_invV X hx hown (hts _ m_2cc3108f) (hts _ m_0a8e7a27) (hts _ m_e255a90f) (xt_sigOf (hts _ m_adf48eee)) nm_Exact_reach (by rw [hT]; exact r1) r2 r3 (g := F0 m 80 ls [.int x5, .int x5, .ref x0]) rfl (argsL := [.int x5, .int x5]) (rest := []) rfl rfl (by rw [hb]; exact (xb_d D_Exact_take 47 rfl))) (ok_Exact_reach l hfl D A σ x0 x5 x5 h _ hw) (hml.trans hl.1.symm) (by rw [hb]; exact (xb_d D_Exact_take 47 rfl)) (Nat.le_of_ble_eq_true rfl) (Nat.le_of_ble_eq_true rfl) (Nat.le_of_ble_eq_true rfl) (show k + 0 ≤ MC by omega) (show n + 0 ≤ MS by omega) (xt_w1 hB.1 m_adf48eee) (xt_cdOf hB.1 m_adf48eee) (hts _ m_b807310b) hB hR hS hA (fun vv h2 H locs hq hEh2 hR hS => ?_) (fun XX ax h2 H locs hq hEh2 hex hR hS => ?_)
  · obtain ⟨rfl, hw⟩ := hq
    have hw := hw hEh2
    have hE := hE.tr hEh2
    refine W.eq (g2 := F0 m 83 ls []) rfl ?_
    refine lv_lload hx hb (xb_d D_Exact_take 48 rfl) (lv_at hl 3 rfl) ?_
    refine lv_iconst (v := 1) hx hb (xb_d D_Exact_take 49 rfl) (by decide) ?_
    refine lv_lushr (v := (xb_lushr x6 1)) hx hb (xb_d D_Exact_take 50 rfl) rfl ?_
    obtain ⟨v4, ev4⟩ : ∃ x : Int64, x = (xb_lushr x6 1) := ⟨_, rfl⟩
    have hw := hw v4 ev4
    refine xt_numl (y := v4) ev4.symm ?_
    refine lv_lstore hx hb (xb_d D_Exact_take 51 rfl) hl (by decide) rfl (fun ls hl => ?_)
    have hl : lv_has ls 9 [(6, .long v4), (4, .int y0), (0, .ref x0), (5, .int x5)] := hl
    refine lv_iinc (v := (x5 + 1)) (k := 3) hx hb (xb_d D_Exact_take 52 rfl) hl rfl (by first | rfl | decide) (by decide) rfl (fun ls hl => ?_)
    have hl : lv_has ls 9 [(5, .int (x5 + 1)), (6, .long v4), (4, .int y0), (0, .ref x0)] := hl
    refine lv_goto (tgt := 21) hx hb (xb_d D_Exact_take 53 rfl) rfl ?_
    exact hK21 x0 y0 (x5 + 1) v4 h2 hw p e s m args below meth c hC H locs ls k n hE (lv_sub hl [3, 2, 0, 1] rfl) hR hS (by omega) (by omega)
  · exact False.elim hq

set_option maxHeartbeats 4000000 in
set_option maxRecDepth 100000 in
theorem am_Exact_take_L33 (l : Launch) (hfl : l.flags = pinnedFlags ++ [noTraceFlag]) (D : va_G) (A : Nat → Prop) (σ MC MS : Nat) (h0 : xb_H) (Qr : xb_H → Prop) (K21 : Nat → Int32 → Int32 → Int64 → xb_H → Prop) (hK21 : ∀ (x0 : Nat) (x4 : Int32) (x5 : Int32) (x6 : Int64) (h : xb_H), K21 x0 x4 x5 x6 h → xb_am l D A σ 3 MC MS h0 (fun v h => v = none ∧ Qr h) (fun _ _ => False) y_Exact_take.cls y_Exact_take.name b_Exact_take 9 ([] : List ExceptionTableEntry) none 21 [(0, .ref x0), (4, .int x4), (5, .int x5), (6, .long x6)] [] h 0 0) (x0 : Nat) (x4 : Int32) (x5 : Int32) (x6 : Int64) (h : xb_H) (hw : w_Exact_take_L33 K21 Qr x0 x4 x5 x6 h) : xb_am l D A σ 3 MC MS h0 (fun v h => v = none ∧ Qr h) (fun _ _ => False) y_Exact_take.cls y_Exact_take.name b_Exact_take 9 ([] : List ExceptionTableEntry) none 33 [(0, .ref x0), (4, .int x4), (5, .int x5), (6, .long x6)] [] h 0 0 := by
  unfold w_Exact_take_L33 at hw
  intro p e s m args below meth c hC H locs ls k n hE hl hR hS hk hn
  obtain ⟨hx, hb, hown, hlocks, htab, hml, hr, hB, hA, hnm⟩ := id hC
  have hts := hB.1.1.at args
  refine lv_aload_n hx hb (xb_d D_Exact_take 18 rfl) rfl (lv_at hl 0 rfl) ?_
  obtain ⟨hk1, hw⟩ := hw
  refine xb_getP (C := R_Exact) (T := F_Exact) (N := 11) hx hb 9 1 hts fin_Exact hown hR hk1 (by decide) rfl (by decide) rfl (hts _ m_3ef37fb8) (fun _ h9 => h9) (xb_d D_Exact_take 19 rfl) ?_
  obtain ⟨b2, eb2, hw⟩ := hw
  refine xb_some eb2 ?_
  refine lv_iload hx hb (xb_d D_Exact_take 20 rfl) (lv_at hl 2 rfl) ?_
  obtain ⟨hk4, hw⟩ := hw
  obtain ⟨hi3, hw⟩ := hw
  refine xb_bald hx hb hR hk4 hi3 (xb_d D_Exact_take 21 rfl) ?_
  refine lv_lload hx hb (xb_d D_Exact_take 22 rfl) (lv_at hl 3 rfl) ?_
  refine lv_lconst (v := 1) hx hb (xb_d D_Exact_take 23 rfl) (by decide) ?_
  refine lv_land hx hb (xb_d D_Exact_take 24 rfl) ?_
  refine lv_l2i hx hb (xb_d D_Exact_take 25 rfl) rfl ?_
  refine lv_isub hx hb (xb_d D_Exact_take 26 rfl) ?_
  refine lv_iload hx hb (xb_d D_Exact_take 27 rfl) (lv_at hl 1 rfl) ?_
  refine lv_isub hx hb (xb_d D_Exact_take 28 rfl) ?_
  obtain ⟨v5, ev5⟩ : ∃ x : Int32, x = (((xb_i h b2 (Int32.toNatClampNeg x5)) - (Int64.toInt32 (x6 &&& 1))) - x4) := ⟨_, rfl⟩
  have hw := hw v5 ev5
  refine xt_numi (y := v5) ev5.symm ?_
  refine lv_istore hx hb (xb_d D_Exact_take 29 rfl) hl (by decide) rfl (fun ls hl => ?_)
  have hl : lv_has ls 9 [(8, .int v5), (0, .ref x0), (4, .int x4), (5, .int x5), (6, .long x6)] := hl
  refine lv_aload_n hx hb (xb_d D_Exact_take 30 rfl) rfl (lv_at hl 1 rfl) ?_
  refine xb_getP (C := R_Exact) (T := F_Exact) (N := 11) hx hb 9 1 hts fin_Exact hown hR hk1 (by decide) rfl (by decide) rfl (hts _ m_3ef37fb8) (fun _ h9 => h9) (xb_d D_Exact_take 31 rfl) ?_
  obtain ⟨b6, eb6, hw⟩ := hw
  refine xb_some eb6 ?_
  refine lv_iload hx hb (xb_d D_Exact_take 32 rfl) (lv_at hl 3 rfl) ?_
  refine lv_iload hx hb (xb_d D_Exact_take 33 rfl) (lv_at hl 0 rfl) ?_
  refine lv_iconst (v := 1) hx hb (xb_d D_Exact_take 34 rfl) (by decide) ?_
  refine lv_iand hx hb (xb_d D_Exact_take 35 rfl) ?_
  refine lv_i2b hx hb (xb_d D_Exact_take 36 rfl) rfl ?_
  obtain ⟨hk7, hw⟩ := hw
  obtain ⟨hi8, hw⟩ := hw
  refine xb_bast hx hb hR hS hk7 hi8 (xb_d D_Exact_take 37 rfl) (fun H locs hR hS => ?_)
  obtain ⟨h9, eh9⟩ : ∃ x : xb_H, x = xb_I h b6 (Int32.toNatClampNeg x5) (vp_nar .byte ((Int32.toInt8 (v5 &&& 1)).toInt32)) := ⟨_, rfl⟩
  rw [← eh9] at hR
  have hw := hw h9 eh9
  have hE : xb_ext h0 h9 := by rw [eh9]; exact hE
  refine lv_iload hx hb (xb_d D_Exact_take 38 rfl) (lv_at hl 0 rfl) ?_
  refine lv_if_ge (tgt := 72) hx hb (xb_d D_Exact_take 39 rfl) rfl (fun hc10 => ?_) (fun hc10 => ?_)
  · have hw := hw.1 hc10
    refine lv_iconst (v := 0) hx hb (xb_d D_Exact_take 42 rfl) (by decide) ?_
    exact am_Exact_take_L73 l hfl D A σ MC MS h0 Qr K21 hK21 x0 x5 x6 0 h9 hw p e s m args below meth c hC H locs ls k n hE (lv_sub hl [1, 3, 4] rfl) hR hS (by omega) (by omega)
  · have hw := hw.2 hc10
    refine lv_iconst (v := 1) hx hb (xb_d D_Exact_take 40 rfl) (by decide) ?_
    refine lv_goto (tgt := 73) hx hb (xb_d D_Exact_take 41 rfl) rfl ?_
    exact am_Exact_take_L73 l hfl D A σ MC MS h0 Qr K21 hK21 x0 x5 x6 1 h9 hw p e s m args below meth c hC H locs ls k n hE (lv_sub hl [1, 3, 4] rfl) hR hS (by omega) (by omega)

set_option maxHeartbeats 4000000 in
set_option maxRecDepth 100000 in
theorem am_Exact_take_L21 (l : Launch) (hfl : l.flags = pinnedFlags ++ [noTraceFlag]) (D : va_G) (A : Nat → Prop) (σ MC MS : Nat) (h0 : xb_H) (Qr : xb_H → Prop) (n9 : Nat) : ∀ (x0 : Nat) (x4 : Int32) (x5 : Int32) (x6 : Int64) (h : xb_H), w_Exact_take_L21 Qr n9 x0 x4 x5 x6 h → xb_am l D A σ 3 MC MS h0 (fun v h => v = none ∧ Qr h) (fun _ _ => False) y_Exact_take.cls y_Exact_take.name b_Exact_take 9 ([] : List ExceptionTableEntry) none 21 [(0, .ref x0), (4, .int x4), (5, .int x5), (6, .long x6)] [] h 0 0 := by
  induction n9 with
  | zero => intro x0 x4 x5 x6 h hw; exact False.elim hw
  | succ n9 ih =>
    intro x0 x4 x5 x6 h hw
    unfold w_Exact_take_L21 at hw
    intro p e s m args below meth c hC H locs ls k n hE hl hR hS hk hn
    obtain ⟨hx, hb, hown, hlocks, htab, hml, hr, hB, hA, hnm⟩ := id hC
    have hts := hB.1.1.at args
    refine lv_lload hx hb (xb_d D_Exact_take 12 rfl) (lv_at hl 3 rfl) ?_
    refine lv_lconst (v := 0) hx hb (xb_d D_Exact_take 13 rfl) (by decide) ?_
    refine xb_lc_ne (tgt := 33) hx hb (xb_d D_Exact_take 14 rfl) (xb_d D_Exact_take 15 rfl) rfl (fun hc1 => ?_) (fun hc1 => ?_)
    · have hw := hw.1 hc1
      exact am_Exact_take_L33 l hfl D A σ MC MS h0 Qr (w_Exact_take_L21 Qr n9) ih x0 x4 x5 x6 h hw p e s m args below meth c hC H locs ls k n hE (lv_sub hl [0, 1, 2, 3] rfl) hR hS (by omega) (by omega)
    · have hw := hw.2 hc1
      refine lv_iload hx hb (xb_d D_Exact_take 16 rfl) (lv_at hl 1 rfl) ?_
      refine lv_if_le (tgt := 95) hx hb (xb_d D_Exact_take 17 rfl) rfl (fun hc2 => ?_) (fun hc2 => ?_)
      · have hw := hw.1 hc2
        exact xb_vret hx hb hr hlocks (show k ≤ MC by omega) (show n ≤ MS by omega) hE hR hS (xb_d D_Exact_take 54 rfl) hw
      · have hw := hw.2 hc2
        exact am_Exact_take_L33 l hfl D A σ MC MS h0 Qr (w_Exact_take_L21 Qr n9) ih x0 x4 x5 x6 h hw p e s m args below meth c hC H locs ls k n hE (lv_sub hl [0, 1, 2, 3] rfl) hR hS (by omega) (by omega)

set_option maxHeartbeats 4000000 in
set_option maxRecDepth 100000 in
theorem ok_Exact_take (l : Launch) (hfl : l.flags = pinnedFlags ++ [noTraceFlag]) (D : va_G) (A : Nat → Prop) (σ : Nat) (x0 : Nat) (x1 : Int64) (x3 : Int32) (h : xb_H) (Qr : xb_H → Prop) (hw : w_Exact_take x0 x1 x3 h Qr) : xt_Met l y_Exact_take [.code y_Exact_take b_Exact_take 9 none] (xb_rm 3 0 0) (xb_Pc D A σ h [.ref x0, .long x1, .int x3]) (xb_Qc D A h (fun v h => v = none ∧ Qr h) (fun _ _ => False)) 0 0 A := by
  refine xb_ofAm (cc := b_Exact_take) (by decide) (Nat.le_of_ble_eq_true rfl) ?_
  unfold w_Exact_take at hw
  show xb_am l D A σ 3 0 0 h (fun v h => v = none ∧ Qr h) (fun _ _ => False) y_Exact_take.cls y_Exact_take.name b_Exact_take 9 ([] : List ExceptionTableEntry) none 0 [(0, .ref x0), (1, .long x1), (3, .int x3)] [] h 0 0
  obtain ⟨MC, hMC⟩ : ∃ x, x = 0 := ⟨_, rfl⟩
  obtain ⟨MS, hMS⟩ : ∃ x, x = 0 := ⟨_, rfl⟩
  rw [show xb_am l D A σ 3 0 0 = xb_am l D A σ 3 MC MS by rw [hMC, hMS]]
  obtain ⟨h0, hh0⟩ : ∃ x, x = h := ⟨_, rfl⟩
  rw [show xb_am l D A σ 3 MC MS h = xb_am l D A σ 3 MC MS h0 by rw [hh0]]
  intro p e s m args below meth c hC H locs ls k n hE hl hR hS hk hn
  obtain ⟨hx, hb, hown, hlocks, htab, hml, hr, hB, hA, hnm⟩ := id hC
  have hts := hB.1.1.at args
  refine lv_iconst (v := 0) hx hb (xb_d D_Exact_take 0 rfl) (by decide) ?_
  refine lv_istore hx hb (xb_d D_Exact_take 1 rfl) hl (by decide) rfl (fun ls hl => ?_)
  have hl : lv_has ls 9 [(4, .int 0), (0, .ref x0), (1, .long x1), (3, .int x3)] := hl
  refine lv_sipush (v := 2200) hx hb (xb_d D_Exact_take 2 rfl) (by decide) ?_
  refine lv_iload_n hx hb (xb_d D_Exact_take 3 rfl) rfl (lv_at hl 3 rfl) ?_
  refine lv_iadd hx hb (xb_d D_Exact_take 4 rfl) ?_
  obtain ⟨v1, ev1⟩ : ∃ x : Int32, x = (2200 + x3) := ⟨_, rfl⟩
  have hw := hw v1 ev1
  refine xt_numi (y := v1) ev1.symm ?_
  refine lv_istore hx hb (xb_d D_Exact_take 5 rfl) hl (by decide) rfl (fun ls hl => ?_)
  have hl : lv_has ls 9 [(5, .int v1), (4, .int 0), (0, .ref x0), (1, .long x1), (3, .int x3)] := hl
  refine lv_lload_n hx hb (xb_d D_Exact_take 6 rfl) rfl (lv_at hl 3 rfl) ?_
  refine lv_lstore hx hb (xb_d D_Exact_take 7 rfl) hl (by decide) rfl (fun ls hl => ?_)
  have hl : lv_has ls 9 [(6, .long x1), (5, .int v1), (4, .int 0), (0, .ref x0), (1, .long x1), (3, .int x3)] := hl
  refine lv_aload_n hx hb (xb_d D_Exact_take 8 rfl) rfl (lv_at hl 3 rfl) ?_
  refine lv_iload hx hb (xb_d D_Exact_take 9 rfl) (lv_at hl 1 rfl) ?_
  refine lv_iload hx hb (xb_d D_Exact_take 10 rfl) (lv_at hl 1 rfl) ?_
  obtain ⟨hk2, hw⟩ := hw
  refine xb_call (D := D) (A := A) (σ := σ) (h := h) (d := 2) (mc := 0) (ms := 0) (maxL := 3) (rest := []) (av := [.ref x0, .int v1, .int v1]) (fun T hT X => by obtain ⟨cb, r1, r2, r3⟩ := xb_recv (ci := 9) hR rfl hk2 (by decide); exact xt_invV X hx hown (hts _ m_2cc3108f) (hts _ m_0a8e7a27) (hts _ m_e255a90f) (xt_sigOf (hts _ m_adf48eee)) nm_Exact_reach (by rw [hT]; exact r1) r2 r3 (g := F0 m 18 ls [.int v1, .int v1, .ref x0]) rfl (argsL := [.int v1, .int v1]) (rest := []) rfl rfl (by rw [hb]; exact (xb_d D_Exact_take 11 rfl))) (ok_Exact_reach l hfl D A σ x0 v1 v1 h _ hw) (hml.trans hl.1.symm) (by rw [hb]; exact (xb_d D_Exact_take 11 rfl)) (Nat.le_of_ble_eq_true rfl) (Nat.le_of_ble_eq_true rfl) (Nat.le_of_ble_eq_true rfl) (show k + 0 ≤ MC by omega) (show n + 0 ≤ MS by omega) (xt_w1 hB.1 m_adf48eee) (xt_cdOf hB.1 m_adf48eee) (hts _ m_b807310b) hB hR hS hA (fun vv h3 H locs hq hEh3 hR hS => ?_) (fun XX ax h3 H locs hq hEh3 hex hR hS => ?_)
  · obtain ⟨rfl, hw⟩ := hq
    have hw := hw hEh3
    have hE := hE.tr hEh3
    refine W.eq (g2 := F0 m 21 ls []) rfl ?_
    obtain ⟨n8, hw⟩ := hw
    exact am_Exact_take_L21 l hfl D A σ MC MS h0 Qr n8 x0 0 v1 x1 h3 hw p e s m args below meth c hC H locs ls k n hE (lv_sub hl [3, 2, 1, 0] rfl) hR hS (by omega) (by omega)
  · exact False.elim hq

theorem m_3eb9d58f : (.methodLink "java/util/Arrays" 13 y_Arrays_rangeCheck : Cond) ∈ xt_tbl := xt_in (xt_t4 (List.mem_of_getElem? (i := 190) (by decide +kernel))) (by decide +kernel)
theorem m_0a3a7c6d : (.static y_Arrays_rangeCheck : Cond) ∈ xt_tbl := xt_in (xt_t4 (List.mem_of_getElem? (i := 191) (by decide +kernel))) (by decide +kernel)
theorem m_326fa5dc : (.code y_Arrays_rangeCheck b_Arrays_rangeCheck 4 none : Cond) ∈ xt_tbl := xt_in (xt_t4 (List.mem_of_getElem? (i := 192) (by decide +kernel))) (by decide +kernel)
theorem nm_Arrays_rangeCheck : xt_nm y_Arrays_rangeCheck 3 := ⟨by decide +kernel, by decide +kernel⟩
set_option maxRecDepth 100000 in
def T_Arrays_fill0 : List (Nat × Instr × Nat) := [(0, .aload_n 0, 1), (1, .arraylength, 1), (2, .iload_n 1, 1), (3, .iload_n 2, 1), (4, .invokestatic 13, 3), (7, .iload_n 1, 1), (8, .istore 4, 2), (10, .iload 4, 2), (12, .iload_n 2, 1), (13, .if_icmp .ge 14, 3), (16, .aload_n 0, 1), (17, .iload 4, 2), (19, .iload_n 3, 1), (20, .bastore, 1), (21, .iinc 4 1, 3), (24, .goto (-14), 3), (27, .return_, 1)]
theorem D_Arrays_fill0 : ∀ q ∈ T_Arrays_fill0, decode b_Arrays_fill0 q.1 = .ok (q.2.1, q.2.2) := by decide +kernel
def w_Arrays_fill0_L10 (Qr : xb_H → Prop) : Nat → Nat → Int32 → Int32 → Int32 → xb_H → Prop
  | 0, _, _, _, _, _ => False
  | n9 + 1, x0, x2, x3, x4, h =>
    ((x2 ≤ x4 → Qr h) ∧ (¬ x2 ≤ x4 → xb_k h x0 = 100 ∧ vp_in x4 (xb_n h x0) ∧ ∀ h4 : xb_H, h4 = xb_I h x0 (Int32.toNatClampNeg x4) (vp_nar .byte x3) → w_Arrays_fill0_L10 Qr n9 x0 x2 x3 (x4 + 1) h4))

def w_Arrays_fill0 (x0 : Nat) (x1 : Int32) (x2 : Int32) (x3 : Int32) (h : xb_H) (Qr : xb_H → Prop) : Prop :=
    xb_k h x0 = 100 ∧ w_Arrays_rangeCheck (nI (xb_n h x0)) x1 x2 h (fun (h2 : xb_H) => xb_ext h h2 → (∃ n8 : Nat, w_Arrays_fill0_L10 Qr n8 x0 x2 x3 x1 h2))

set_option maxHeartbeats 4000000 in
set_option maxRecDepth 100000 in
theorem am_Arrays_fill0_L10 (l : Launch) (hfl : l.flags = pinnedFlags ++ [noTraceFlag]) (D : va_G) (A : Nat → Prop) (σ MC MS : Nat) (h0 : xb_H) (Qr : xb_H → Prop) (n9 : Nat) : ∀ (x0 : Nat) (x2 : Int32) (x3 : Int32) (x4 : Int32) (h : xb_H), w_Arrays_fill0_L10 Qr n9 x0 x2 x3 x4 h → xb_am l D A σ 3 MC MS h0 (fun v h => v = none ∧ Qr h) (fun _ _ => False) y_Arrays_fill0.cls y_Arrays_fill0.name b_Arrays_fill0 5 ([] : List ExceptionTableEntry) none 10 [(0, .ref x0), (2, .int x2), (3, .int x3), (4, .int x4)] [] h 0 0 := by
  induction n9 with
  | zero => intro x0 x2 x3 x4 h hw; exact False.elim hw
  | succ n9 ih =>
    intro x0 x2 x3 x4 h hw
    unfold w_Arrays_fill0_L10 at hw
    intro p e s m args below meth c hC H locs ls k n hE hl hR hS hk hn
    obtain ⟨hx, hb, hown, hlocks, htab, hml, hr, hB, hA, hnm⟩ := id hC
    have hts := hB.1.1.at args
    refine lv_iload hx hb (xb_d D_Arrays_fill0 7 rfl) (lv_at hl 3 rfl) ?_
    refine lv_iload_n hx hb (xb_d D_Arrays_fill0 8 rfl) rfl (lv_at hl 1 rfl) ?_
    refine lv_icmp_ge (tgt := 27) hx hb (xb_d D_Arrays_fill0 9 rfl) rfl (fun hc1 => ?_) (fun hc1 => ?_)
    · have hw := hw.1 hc1
      exact xb_vret hx hb hr hlocks (show k ≤ MC by omega) (show n ≤ MS by omega) hE hR hS (xb_d D_Arrays_fill0 16 rfl) hw
    · have hw := hw.2 hc1
      refine lv_aload_n hx hb (xb_d D_Arrays_fill0 10 rfl) rfl (lv_at hl 0 rfl) ?_
      refine lv_iload hx hb (xb_d D_Arrays_fill0 11 rfl) (lv_at hl 3 rfl) ?_
      refine lv_iload_n hx hb (xb_d D_Arrays_fill0 12 rfl) rfl (lv_at hl 2 rfl) ?_
      obtain ⟨hk2, hw⟩ := hw
      obtain ⟨hi3, hw⟩ := hw
      refine xb_bast hx hb hR hS hk2 hi3 (xb_d D_Arrays_fill0 13 rfl) (fun H locs hR hS => ?_)
      obtain ⟨h4, eh4⟩ : ∃ x : xb_H, x = xb_I h x0 (Int32.toNatClampNeg x4) (vp_nar .byte x3) := ⟨_, rfl⟩
      rw [← eh4] at hR
      have hw := hw h4 eh4
      have hE : xb_ext h0 h4 := by rw [eh4]; exact hE
      refine lv_iinc (v := (x4 + 1)) (k := 3) hx hb (xb_d D_Arrays_fill0 14 rfl) hl rfl (by first | rfl | decide) (by decide) rfl (fun ls hl => ?_)
      have hl : lv_has ls 5 [(4, .int (x4 + 1)), (0, .ref x0), (2, .int x2), (3, .int x3)] := hl
      refine lv_goto (tgt := 10) hx hb (xb_d D_Arrays_fill0 15 rfl) rfl ?_
      exact ih x0 x2 x3 (x4 + 1) h4 hw p e s m args below meth c hC H locs ls k n hE (lv_sub hl [1, 2, 3, 0] rfl) hR hS (by omega) (by omega)

set_option maxHeartbeats 4000000 in
set_option maxRecDepth 100000 in
theorem ok_Arrays_fill0 (l : Launch) (hfl : l.flags = pinnedFlags ++ [noTraceFlag]) (D : va_G) (A : Nat → Prop) (σ : Nat) (x0 : Nat) (x1 : Int32) (x2 : Int32) (x3 : Int32) (h : xb_H) (Qr : xb_H → Prop) (hw : w_Arrays_fill0 x0 x1 x2 x3 h Qr) : xt_Met l y_Arrays_fill0 [.code y_Arrays_fill0 b_Arrays_fill0 5 none] (xb_rm 3 0 0) (xb_Pc D A σ h [.ref x0, .int x1, .int x2, .int x3]) (xb_Qc D A h (fun v h => v = none ∧ Qr h) (fun _ _ => False)) 0 0 A := by
  refine xb_ofAm (cc := b_Arrays_fill0) (by decide) (Nat.le_of_ble_eq_true rfl) ?_
  unfold w_Arrays_fill0 at hw
  show xb_am l D A σ 3 0 0 h (fun v h => v = none ∧ Qr h) (fun _ _ => False) y_Arrays_fill0.cls y_Arrays_fill0.name b_Arrays_fill0 5 ([] : List ExceptionTableEntry) none 0 [(0, .ref x0), (1, .int x1), (2, .int x2), (3, .int x3)] [] h 0 0
  obtain ⟨MC, hMC⟩ : ∃ x, x = 0 := ⟨_, rfl⟩
  obtain ⟨MS, hMS⟩ : ∃ x, x = 0 := ⟨_, rfl⟩
  rw [show xb_am l D A σ 3 0 0 = xb_am l D A σ 3 MC MS by rw [hMC, hMS]]
  obtain ⟨h0, hh0⟩ : ∃ x, x = h := ⟨_, rfl⟩
  rw [show xb_am l D A σ 3 MC MS h = xb_am l D A σ 3 MC MS h0 by rw [hh0]]
  intro p e s m args below meth c hC H locs ls k n hE hl hR hS hk hn
  obtain ⟨hx, hb, hown, hlocks, htab, hml, hr, hB, hA, hnm⟩ := id hC
  have hts := hB.1.1.at args
  refine lv_aload_n hx hb (xb_d D_Arrays_fill0 0 rfl) rfl (lv_at hl 0 rfl) ?_
  obtain ⟨hk1, hw⟩ := hw
  refine xb_alen hx hb hR hk1 (by decide) (xb_d D_Arrays_fill0 1 rfl) ?_
  refine lv_iload_n hx hb (xb_d D_Arrays_fill0 2 rfl) rfl (lv_at hl 1 rfl) ?_
  refine lv_iload_n hx hb (xb_d D_Arrays_fill0 3 rfl) rfl (lv_at hl 2 rfl) ?_
  refine xb_call (D := D) (A := A) (σ := σ) (h := h) (d := 2) (mc := 0) (ms := 0) (maxL := 4) (rest := []) (av := [.int (nI (xb_n h x0)), .int x1, .int x2]) (fun T hT X => xt_invS X hx hown (hts _ m_3eb9d58f) (hts _ m_0a3a7c6d) (hts _ m_b999e92a) (xt_sgS (hts _ m_326fa5dc)).1 (xt_sgS (hts _ m_326fa5dc)).2 nm_Arrays_rangeCheck (g := F0 m 4 ls [.int x2, .int x1, .int (nI (xb_n h x0))]) rfl (argsL := [.int (nI (xb_n h x0)), .int x1, .int x2]) (rest := []) rfl rfl (by rw [hb]; exact (xb_d D_Arrays_fill0 4 rfl))) (ok_Arrays_rangeCheck l hfl D A σ (nI (xb_n h x0)) x1 x2 h _ hw) (hml.trans hl.1.symm) (by rw [hb]; exact (xb_d D_Arrays_fill0 4 rfl)) (Nat.le_of_ble_eq_true rfl) (Nat.le_of_ble_eq_true rfl) (Nat.le_of_ble_eq_true rfl) (show k + 0 ≤ MC by omega) (show n + 0 ≤ MS by omega) (xt_w1 hB.1 m_326fa5dc) (xt_cdOf hB.1 m_326fa5dc) (hts _ m_b999e92a) hB hR hS hA (fun vv h2 H locs hq hEh2 hR hS => ?_) (fun XX ax h2 H locs hq hEh2 hex hR hS => ?_)
  · obtain ⟨rfl, hw⟩ := hq
    have hw := hw hEh2
    have hE := hE.tr hEh2
    refine W.eq (g2 := F0 m 7 ls []) rfl ?_
    refine lv_iload_n hx hb (xb_d D_Arrays_fill0 5 rfl) rfl (lv_at hl 1 rfl) ?_
    refine lv_istore hx hb (xb_d D_Arrays_fill0 6 rfl) hl (by decide) rfl (fun ls hl => ?_)
    have hl : lv_has ls 5 [(4, .int x1), (0, .ref x0), (1, .int x1), (2, .int x2), (3, .int x3)] := hl
    obtain ⟨n8, hw⟩ := hw
    exact am_Arrays_fill0_L10 l hfl D A σ MC MS h0 Qr n8 x0 x2 x3 x1 h2 hw p e s m args below meth c hC H locs ls k n hE (lv_sub hl [1, 3, 4, 0] rfl) hR hS (by omega) (by omega)
  · exact False.elim hq

set_option maxRecDepth 100000 in
def T_Arrays_fill1 : List (Nat × Instr × Nat) := [(0, .aload_n 0, 1), (1, .arraylength, 1), (2, .iload_n 1, 1), (3, .iload_n 2, 1), (4, .invokestatic 13, 3), (7, .iload_n 1, 1), (8, .istore 5, 2), (10, .iload 5, 2), (12, .iload_n 2, 1), (13, .if_icmp .ge 14, 3), (16, .aload_n 0, 1), (17, .iload 5, 2), (19, .lload_n 3, 1), (20, .lastore, 1), (21, .iinc 5 1, 3), (24, .goto (-14), 3), (27, .return_, 1)]
theorem D_Arrays_fill1 : ∀ q ∈ T_Arrays_fill1, decode b_Arrays_fill1 q.1 = .ok (q.2.1, q.2.2) := by decide +kernel
def w_Arrays_fill1_L10 (Qr : xb_H → Prop) : Nat → Nat → Int32 → Int64 → Int32 → xb_H → Prop
  | 0, _, _, _, _, _ => False
  | n9 + 1, x0, x2, x3, x5, h =>
    ((x2 ≤ x5 → Qr h) ∧ (¬ x2 ≤ x5 → xb_k h x0 = 103 ∧ vp_in x5 (xb_n h x0) ∧ ∀ h4 : xb_H, h4 = xb_L h x0 (Int32.toNatClampNeg x5) x3 → w_Arrays_fill1_L10 Qr n9 x0 x2 x3 (x5 + 1) h4))

def w_Arrays_fill1 (x0 : Nat) (x1 : Int32) (x2 : Int32) (x3 : Int64) (h : xb_H) (Qr : xb_H → Prop) : Prop :=
    xb_k h x0 = 103 ∧ w_Arrays_rangeCheck (nI (xb_n h x0)) x1 x2 h (fun (h2 : xb_H) => xb_ext h h2 → (∃ n8 : Nat, w_Arrays_fill1_L10 Qr n8 x0 x2 x3 x1 h2))

set_option maxHeartbeats 4000000 in
set_option maxRecDepth 100000 in
theorem am_Arrays_fill1_L10 (l : Launch) (hfl : l.flags = pinnedFlags ++ [noTraceFlag]) (D : va_G) (A : Nat → Prop) (σ MC MS : Nat) (h0 : xb_H) (Qr : xb_H → Prop) (n9 : Nat) : ∀ (x0 : Nat) (x2 : Int32) (x3 : Int64) (x5 : Int32) (h : xb_H), w_Arrays_fill1_L10 Qr n9 x0 x2 x3 x5 h → xb_am l D A σ 3 MC MS h0 (fun v h => v = none ∧ Qr h) (fun _ _ => False) y_Arrays_fill1.cls y_Arrays_fill1.name b_Arrays_fill1 6 ([] : List ExceptionTableEntry) none 10 [(0, .ref x0), (2, .int x2), (3, .long x3), (5, .int x5)] [] h 0 0 := by
  induction n9 with
  | zero => intro x0 x2 x3 x5 h hw; exact False.elim hw
  | succ n9 ih =>
    intro x0 x2 x3 x5 h hw
    unfold w_Arrays_fill1_L10 at hw
    intro p e s m args below meth c hC H locs ls k n hE hl hR hS hk hn
    obtain ⟨hx, hb, hown, hlocks, htab, hml, hr, hB, hA, hnm⟩ := id hC
    have hts := hB.1.1.at args
    refine lv_iload hx hb (xb_d D_Arrays_fill1 7 rfl) (lv_at hl 3 rfl) ?_
    refine lv_iload_n hx hb (xb_d D_Arrays_fill1 8 rfl) rfl (lv_at hl 1 rfl) ?_
    refine lv_icmp_ge (tgt := 27) hx hb (xb_d D_Arrays_fill1 9 rfl) rfl (fun hc1 => ?_) (fun hc1 => ?_)
    · have hw := hw.1 hc1
      exact xb_vret hx hb hr hlocks (show k ≤ MC by omega) (show n ≤ MS by omega) hE hR hS (xb_d D_Arrays_fill1 16 rfl) hw
    · have hw := hw.2 hc1
      refine lv_aload_n hx hb (xb_d D_Arrays_fill1 10 rfl) rfl (lv_at hl 0 rfl) ?_
      refine lv_iload hx hb (xb_d D_Arrays_fill1 11 rfl) (lv_at hl 3 rfl) ?_
      refine lv_lload_n hx hb (xb_d D_Arrays_fill1 12 rfl) rfl (lv_at hl 2 rfl) ?_
      obtain ⟨hk2, hw⟩ := hw
      obtain ⟨hi3, hw⟩ := hw
      refine xb_last hx hb hR hS hk2 hi3 (xb_d D_Arrays_fill1 13 rfl) (fun H locs hR hS => ?_)
      obtain ⟨h4, eh4⟩ : ∃ x : xb_H, x = xb_L h x0 (Int32.toNatClampNeg x5) x3 := ⟨_, rfl⟩
      rw [← eh4] at hR
      have hw := hw h4 eh4
      have hE : xb_ext h0 h4 := by rw [eh4]; exact hE
      refine lv_iinc (v := (x5 + 1)) (k := 3) hx hb (xb_d D_Arrays_fill1 14 rfl) hl rfl (by first | rfl | decide) (by decide) rfl (fun ls hl => ?_)
      have hl : lv_has ls 6 [(5, .int (x5 + 1)), (0, .ref x0), (2, .int x2), (3, .long x3)] := hl
      refine lv_goto (tgt := 10) hx hb (xb_d D_Arrays_fill1 15 rfl) rfl ?_
      exact ih x0 x2 x3 (x5 + 1) h4 hw p e s m args below meth c hC H locs ls k n hE (lv_sub hl [1, 2, 3, 0] rfl) hR hS (by omega) (by omega)

set_option maxHeartbeats 4000000 in
set_option maxRecDepth 100000 in
theorem ok_Arrays_fill1 (l : Launch) (hfl : l.flags = pinnedFlags ++ [noTraceFlag]) (D : va_G) (A : Nat → Prop) (σ : Nat) (x0 : Nat) (x1 : Int32) (x2 : Int32) (x3 : Int64) (h : xb_H) (Qr : xb_H → Prop) (hw : w_Arrays_fill1 x0 x1 x2 x3 h Qr) : xt_Met l y_Arrays_fill1 [.code y_Arrays_fill1 b_Arrays_fill1 6 none] (xb_rm 3 0 0) (xb_Pc D A σ h [.ref x0, .int x1, .int x2, .long x3]) (xb_Qc D A h (fun v h => v = none ∧ Qr h) (fun _ _ => False)) 0 0 A := by
  refine xb_ofAm (cc := b_Arrays_fill1) (by decide) (Nat.le_of_ble_eq_true rfl) ?_
  unfold w_Arrays_fill1 at hw
  show xb_am l D A σ 3 0 0 h (fun v h => v = none ∧ Qr h) (fun _ _ => False) y_Arrays_fill1.cls y_Arrays_fill1.name b_Arrays_fill1 6 ([] : List ExceptionTableEntry) none 0 [(0, .ref x0), (1, .int x1), (2, .int x2), (3, .long x3)] [] h 0 0
  obtain ⟨MC, hMC⟩ : ∃ x, x = 0 := ⟨_, rfl⟩
  obtain ⟨MS, hMS⟩ : ∃ x, x = 0 := ⟨_, rfl⟩
  rw [show xb_am l D A σ 3 0 0 = xb_am l D A σ 3 MC MS by rw [hMC, hMS]]
  obtain ⟨h0, hh0⟩ : ∃ x, x = h := ⟨_, rfl⟩
  rw [show xb_am l D A σ 3 MC MS h = xb_am l D A σ 3 MC MS h0 by rw [hh0]]
  intro p e s m args below meth c hC H locs ls k n hE hl hR hS hk hn
  obtain ⟨hx, hb, hown, hlocks, htab, hml, hr, hB, hA, hnm⟩ := id hC
  have hts := hB.1.1.at args
  refine lv_aload_n hx hb (xb_d D_Arrays_fill1 0 rfl) rfl (lv_at hl 0 rfl) ?_
  obtain ⟨hk1, hw⟩ := hw
  refine xb_alen hx hb hR hk1 (by decide) (xb_d D_Arrays_fill1 1 rfl) ?_
  refine lv_iload_n hx hb (xb_d D_Arrays_fill1 2 rfl) rfl (lv_at hl 1 rfl) ?_
  refine lv_iload_n hx hb (xb_d D_Arrays_fill1 3 rfl) rfl (lv_at hl 2 rfl) ?_
  refine xb_call (D := D) (A := A) (σ := σ) (h := h) (d := 2) (mc := 0) (ms := 0) (maxL := 4) (rest := []) (av := [.int (nI (xb_n h x0)), .int x1, .int x2]) (fun T hT X => xt_invS X hx hown (hts _ m_3eb9d58f) (hts _ m_0a3a7c6d) (hts _ m_b999e92a) (xt_sgS (hts _ m_326fa5dc)).1 (xt_sgS (hts _ m_326fa5dc)).2 nm_Arrays_rangeCheck (g := F0 m 4 ls [.int x2, .int x1, .int (nI (xb_n h x0))]) rfl (argsL := [.int (nI (xb_n h x0)), .int x1, .int x2]) (rest := []) rfl rfl (by rw [hb]; exact (xb_d D_Arrays_fill1 4 rfl))) (ok_Arrays_rangeCheck l hfl D A σ (nI (xb_n h x0)) x1 x2 h _ hw) (hml.trans hl.1.symm) (by rw [hb]; exact (xb_d D_Arrays_fill1 4 rfl)) (Nat.le_of_ble_eq_true rfl) (Nat.le_of_ble_eq_true rfl) (Nat.le_of_ble_eq_true rfl) (show k + 0 ≤ MC by omega) (show n + 0 ≤ MS by omega) (xt_w1 hB.1 m_326fa5dc) (xt_cdOf hB.1 m_326fa5dc) (hts _ m_b999e92a) hB hR hS hA (fun vv h2 H locs hq hEh2 hR hS => ?_) (fun XX ax h2 H locs hq hEh2 hex hR hS => ?_)
  · obtain ⟨rfl, hw⟩ := hq
    have hw := hw hEh2
    have hE := hE.tr hEh2
    refine W.eq (g2 := F0 m 7 ls []) rfl ?_
    refine lv_iload_n hx hb (xb_d D_Arrays_fill1 5 rfl) rfl (lv_at hl 1 rfl) ?_
    refine lv_istore hx hb (xb_d D_Arrays_fill1 6 rfl) hl (by decide) rfl (fun ls hl => ?_)
    have hl : lv_has ls 6 [(5, .int x1), (0, .ref x0), (1, .int x1), (2, .int x2), (3, .long x3)] := hl
    obtain ⟨n8, hw⟩ := hw
    exact am_Arrays_fill1_L10 l hfl D A σ MC MS h0 Qr n8 x0 x2 x3 x1 h2 hw p e s m args below meth c hC H locs ls k n hE (lv_sub hl [1, 3, 4, 0] rfl) hR hS (by omega) (by omega)
  · exact False.elim hq

theorem m_c6d1f440 : (.methodLink "StackHost" 3 objectInit : Cond) ∈ xt_tbl := xt_in (xt_t1 (List.mem_of_getElem? (i := 39) (by decide +kernel))) (by decide +kernel)
theorem m_051f4bf9 : (.classLink "StackHost" 13 "StackHost$StackModule" : Cond) ∈ xt_tbl := xt_in (xt_t1 (List.mem_of_getElem? (i := 42) (by decide +kernel))) (by decide +kernel)
theorem m_ccacbc17 : (.arrayOver (.object "StackHost$StackModule") : Cond) ∈ xt_tbl := xt_in (xt_t1 (List.mem_of_getElem? (i := 43) (by decide +kernel))) (by decide +kernel)
theorem m_99dc72aa : (.classLink "StackHost" 19 "StackHost$Reader" : Cond) ∈ xt_tbl := xt_in (xt_t1 (List.mem_of_getElem? (i := 44) (by decide +kernel))) (by decide +kernel)
theorem m_8861008b : (.instantiable "StackHost$Reader" 6 : Cond) ∈ xt_tbl := xt_in (xt_t1 (List.mem_of_getElem? (i := 45) (by decide +kernel))) (by decide +kernel)
theorem m_8c352f93 : (.methodLinkNest "StackHost" 21 y_Reader_init "StackHost" : Cond) ∈ xt_tbl := xt_in (xt_t1 (List.mem_of_getElem? (i := 46) (by decide +kernel))) (by decide +kernel)
theorem m_121e95dc : (.instanceMethod y_Reader_init : Cond) ∈ xt_tbl := xt_in (xt_t1 (List.mem_of_getElem? (i := 47) (by decide +kernel))) (by decide +kernel)
theorem m_65ca0432 : (.code y_Reader_init b_Reader_init 1 none : Cond) ∈ xt_tbl := xt_in (xt_t1 (List.mem_of_getElem? (i := 48) (by decide +kernel))) (by decide +kernel)
theorem m_95161389 : (.fieldLink "StackHost" 22 "StackHost" "reader" "LStackHost$Reader;" : Cond) ∈ xt_tbl := xt_in (xt_t2 (List.mem_of_getElem? (i := 86) (by decide +kernel))) (by decide +kernel)
theorem m_ea8200a1 : (.classLink "StackHost" 26 "StackHost$Checker" : Cond) ∈ xt_tbl := xt_in (xt_t1 (List.mem_of_getElem? (i := 71) (by decide +kernel))) (by decide +kernel)
theorem m_ad1ec43e : (.instantiable "StackHost$Checker" 17 : Cond) ∈ xt_tbl := xt_in (xt_t1 (List.mem_of_getElem? (i := 72) (by decide +kernel))) (by decide +kernel)
theorem m_f8611504 : (.methodLinkNest "StackHost" 28 y_Checker_init "StackHost" : Cond) ∈ xt_tbl := xt_in (xt_t1 (List.mem_of_getElem? (i := 73) (by decide +kernel))) (by decide +kernel)
theorem m_6d444e05 : (.instanceMethod y_Checker_init : Cond) ∈ xt_tbl := xt_in (xt_t1 (List.mem_of_getElem? (i := 74) (by decide +kernel))) (by decide +kernel)
theorem m_dfdc58b8 : (.code y_Checker_init b_Checker_init 1 none : Cond) ∈ xt_tbl := xt_in (xt_t1 (List.mem_of_getElem? (i := 75) (by decide +kernel))) (by decide +kernel)
theorem m_b8585ab6 : (.fieldLink "StackHost" 29 "StackHost" "checker" "LStackHost$Checker;" : Cond) ∈ xt_tbl := xt_in (xt_t2 (List.mem_of_getElem? (i := 87) (by decide +kernel))) (by decide +kernel)
theorem m_08a89f80 : (.classLink "StackHost" 33 "StackHost$World" : Cond) ∈ xt_tbl := xt_in (xt_t1 (List.mem_of_getElem? (i := 130) (by decide +kernel))) (by decide +kernel)
theorem m_b1e54c7b : (.instantiable "StackHost$World" 16 : Cond) ∈ xt_tbl := xt_in (xt_t1 (List.mem_of_getElem? (i := 131) (by decide +kernel))) (by decide +kernel)
theorem m_4534b440 : (.initialized "StackHost$World" : Cond) ∈ xt_tbl := xt_in (xt_t1 (List.mem_of_getElem? (i := 4) (by decide +kernel))) (by decide +kernel)
theorem m_dcffba6a : (.methodLinkNest "StackHost" 35 y_World_init "StackHost" : Cond) ∈ xt_tbl := xt_in (xt_t1 (List.mem_of_getElem? (i := 132) (by decide +kernel))) (by decide +kernel)
theorem m_703bbbc2 : (.instanceMethod y_World_init : Cond) ∈ xt_tbl := xt_in (xt_t1 (List.mem_of_getElem? (i := 133) (by decide +kernel))) (by decide +kernel)
theorem m_ee1213d4 : (.code y_World_init b_World_init 1 none : Cond) ∈ xt_tbl := xt_in (xt_t1 (List.mem_of_getElem? (i := 134) (by decide +kernel))) (by decide +kernel)
theorem m_e1594143 : (.classLink "StackHost" 40 "StackHost$Machine" : Cond) ∈ xt_tbl := xt_in (xt_t1 (List.mem_of_getElem? (i := 230) (by decide +kernel))) (by decide +kernel)
theorem m_dad258f8 : (.instantiable "StackHost$Machine" 18 : Cond) ∈ xt_tbl := xt_in (xt_t1 (List.mem_of_getElem? (i := 231) (by decide +kernel))) (by decide +kernel)
theorem m_44e19a1a : (.methodLink "StackHost" 42 y_Machine_init : Cond) ∈ xt_tbl := xt_in (xt_t1 (List.mem_of_getElem? (i := 232) (by decide +kernel))) (by decide +kernel)
theorem m_a743133a : (.instanceMethod y_Machine_init : Cond) ∈ xt_tbl := xt_in (xt_t1 (List.mem_of_getElem? (i := 233) (by decide +kernel))) (by decide +kernel)
theorem m_2400c418 : (.code y_Machine_init b_Machine_init 2 none : Cond) ∈ xt_tbl := xt_in (xt_t1 (List.mem_of_getElem? (i := 234) (by decide +kernel))) (by decide +kernel)
theorem m_66fa6db5 : (.classLink "StackHost" 49 "StackHost$Row" : Cond) ∈ xt_tbl := xt_in (xt_t2 (List.mem_of_getElem? (i := 80) (by decide +kernel))) (by decide +kernel)
theorem m_b28a71f1 : (.methodLink "StackHost" 51 y_Row_init : Cond) ∈ xt_tbl := xt_in (xt_t2 (List.mem_of_getElem? (i := 81) (by decide +kernel))) (by decide +kernel)
theorem m_3f9b649c : (.fieldLink "StackHost" 54 "StackHost" "arguments" "LStackHost$Row;" : Cond) ∈ xt_tbl := xt_in (xt_t2 (List.mem_of_getElem? (i := 90) (by decide +kernel))) (by decide +kernel)
theorem nm_Reader_init : xt_nm y_Reader_init 0 := ⟨by decide +kernel, by decide +kernel⟩
theorem nm_Checker_init : xt_nm y_Checker_init 0 := ⟨by decide +kernel, by decide +kernel⟩
theorem nm_World_init : xt_nm y_World_init 0 := ⟨by decide +kernel, by decide +kernel⟩
theorem nm_Machine_init : xt_nm y_Machine_init 1 := ⟨by decide +kernel, by decide +kernel⟩
set_option maxRecDepth 100000 in
def T_H_init : List (Nat × Instr × Nat) := [(0, .aload_n 0, 1), (1, .invokespecial 3, 3), (4, .aload_n 0, 1), (5, .bipush 20, 2), (7, .newarray .byte, 2), (9, .putfield 9, 3), (12, .aload_n 0, 1), (13, .bipush 64, 2), (15, .anewarray 13, 3), (18, .putfield 15, 3), (21, .aload_n 0, 1), (22, .new 19, 3), (25, .dup, 1), (26, .invokespecial 21, 3), (29, .putfield 22, 3), (32, .aload_n 0, 1), (33, .new 26, 3), (36, .dup, 1), (37, .invokespecial 28, 3), (40, .putfield 29, 3), (43, .aload_n 0, 1), (44, .new 33, 3), (47, .dup, 1), (48, .invokespecial 35, 3), (51, .putfield 36, 3), (54, .aload_n 0, 1), (55, .new 40, 3), (58, .dup, 1), (59, .aload_n 0, 1), (60, .getfield 36, 3), (63, .invokespecial 42, 3), (66, .putfield 45, 3), (69, .aload_n 0, 1), (70, .new 49, 3), (73, .dup, 1), (74, .iconst 1, 1), (75, .invokespecial 51, 3), (78, .putfield 54, 3), (81, .return_, 1)]
theorem D_H_init : ∀ q ∈ T_H_init, decode b_H_init q.1 = .ok (q.2.1, q.2.2) := by decide +kernel
def w_H_init (x0 : Nat) (h : xb_H) (bc : Nat) (bs : Nat) (Qr : xb_H → Prop) : Prop :=
    1 ≤ bc ∧ 20 ≤ bs ∧ ∀ q1 : Nat, xb_k h q1 = 0 → ∀ h2 : xb_H, h2 = xb_new h q1 100 20 → xb_k h2 x0 = 1 ∧ ∀ h5 : xb_H, h5 = xb_P h2 x0 0 (some q1) → 1 ≤ (bc - 1) ∧ 64 ≤ (bs - 20) ∧ ∀ q6 : Nat, xb_k h5 q6 = 0 → ∀ h7 : xb_H, h7 = xb_new h5 q6 104 64 → ∀ h9 : xb_H, h9 = xb_P h7 x0 2 (some q6) → 1 ≤ ((bc - 1) - 1) ∧ 6 ≤ ((bs - 20) - 64) ∧ ∀ q10 : Nat, xb_k h9 q10 = 0 → ∀ h11 : xb_H, h11 = xb_new h9 q10 4 0 → ∃ c15 sc15 : Nat, c15 ≤ (((bc - 1) - 1) - 1) ∧ sc15 ≤ (((bs - 20) - 64) - 6) ∧ w_Reader_init q10 h11 c15 sc15 (fun (h13 : xb_H) => xb_ext h11 h13 → ∀ h16 : xb_H, h16 = xb_P h13 x0 4 (some q10) → 1 ≤ ((((bc - 1) - 1) - 1) - c15) ∧ 17 ≤ ((((bs - 20) - 64) - 6) - sc15) ∧ ∀ q17 : Nat, xb_k h16 q17 = 0 → ∀ h18 : xb_H, h18 = xb_new h16 q17 5 0 → ∃ c22 sc22 : Nat, c22 ≤ (((((bc - 1) - 1) - 1) - c15) - 1) ∧ sc22 ≤ (((((bs - 20) - 64) - 6) - sc15) - 17) ∧ w_Checker_init q17 h18 c22 sc22 (fun (h20 : xb_H) => xb_ext h18 h20 → ∀ h23 : xb_H, h23 = xb_P h20 x0 5 (some q17) → 1 ≤ ((((((bc - 1) - 1) - 1) - c15) - 1) - c22) ∧ 16 ≤ ((((((bs - 20) - 64) - 6) - sc15) - 17) - sc22) ∧ ∀ q24 : Nat, xb_k h23 q24 = 0 → ∀ h25 : xb_H, h25 = xb_new h23 q24 7 0 → ∃ c29 sc29 : Nat, c29 ≤ (((((((bc - 1) - 1) - 1) - c15) - 1) - c22) - 1) ∧ sc29 ≤ (((((((bs - 20) - 64) - 6) - sc15) - 17) - sc22) - 16) ∧ w_World_init q24 h25 c29 sc29 (fun (h27 : xb_H) => xb_ext h25 h27 → ∀ h30 : xb_H, h30 = xb_P h27 x0 6 (some q24) → 1 ≤ ((((((((bc - 1) - 1) - 1) - c15) - 1) - c22) - 1) - c29) ∧ 18 ≤ ((((((((bs - 20) - 64) - 6) - sc15) - 17) - sc22) - 16) - sc29) ∧ ∀ q31 : Nat, xb_k h30 q31 = 0 → ∀ h32 : xb_H, h32 = xb_new h30 q31 8 0 → ∃ b34 : Nat, (xb_r h32 x0 6) = some b34 ∧ ∃ c37 sc37 : Nat, c37 ≤ (((((((((bc - 1) - 1) - 1) - c15) - 1) - c22) - 1) - c29) - 1) ∧ sc37 ≤ (((((((((bs - 20) - 64) - 6) - sc15) - 17) - sc22) - 16) - sc29) - 18) ∧ w_Machine_init q31 b34 h32 c37 sc37 (fun (h35 : xb_H) => xb_ext h32 h35 → ∀ h38 : xb_H, h38 = xb_P h35 x0 7 (some q31) → 1 ≤ ((((((((((bc - 1) - 1) - 1) - c15) - 1) - c22) - 1) - c29) - 1) - c37) ∧ 3 ≤ ((((((((((bs - 20) - 64) - 6) - sc15) - 17) - sc22) - 16) - sc29) - 18) - sc37) ∧ ∀ q39 : Nat, xb_k h38 q39 = 0 → ∀ h40 : xb_H, h40 = xb_new h38 q39 2 0 → ∃ c44 sc44 : Nat, c44 ≤ (((((((((((bc - 1) - 1) - 1) - c15) - 1) - c22) - 1) - c29) - 1) - c37) - 1) ∧ sc44 ≤ (((((((((((bs - 20) - 64) - 6) - sc15) - 17) - sc22) - 16) - sc29) - 18) - sc37) - 3) ∧ w_Row_init q39 1 h40 c44 sc44 (fun (h42 : xb_H) => xb_ext h40 h42 → ∀ h45 : xb_H, h45 = xb_P h42 x0 8 (some q39) → Qr h45)))))

set_option maxHeartbeats 4000000 in
set_option maxRecDepth 100000 in
theorem ok_H_init (l : Launch) (hfl : l.flags = pinnedFlags ++ [noTraceFlag]) (D : va_G) (A : Nat → Prop) (σ : Nat) (x0 : Nat) (h : xb_H) (bc : Nat) (bs : Nat) (Qr : xb_H → Prop) (hw : w_H_init x0 h bc bs Qr) : xt_Met l y_H_init [.code y_H_init b_H_init 1 none] (xb_rm 4 bc bs) (xb_Pc D A σ h [.ref x0]) (xb_Qc D A h (fun v h => v = none ∧ Qr h) (fun _ _ => False)) bc bs A := by
  refine xb_ofAm (cc := b_H_init) (by decide) (Nat.le_of_ble_eq_true rfl) ?_
  unfold w_H_init at hw
  show xb_am l D A σ 4 bc bs h (fun v h => v = none ∧ Qr h) (fun _ _ => False) y_H_init.cls y_H_init.name b_H_init 1 ([] : List ExceptionTableEntry) none 0 [(0, .ref x0)] [] h bc bs
  obtain ⟨MC, hMC⟩ : ∃ x, x = bc := ⟨_, rfl⟩
  obtain ⟨MS, hMS⟩ : ∃ x, x = bs := ⟨_, rfl⟩
  rw [show xb_am l D A σ 4 bc bs = xb_am l D A σ 4 MC MS by rw [hMC, hMS]]
  obtain ⟨h0, hh0⟩ : ∃ x, x = h := ⟨_, rfl⟩
  rw [show xb_am l D A σ 4 MC MS h = xb_am l D A σ 4 MC MS h0 by rw [hh0]]
  intro p e s m args below meth c hC H locs ls k n hE hl hR hS hk hn
  obtain ⟨hx, hb, hown, hlocks, htab, hml, hr, hB, hA, hnm⟩ := id hC
  have hts := hB.1.1.at args
  refine lv_aload_n hx hb (xb_d D_H_init 0 rfl) rfl (lv_at hl 0 rfl) ?_
  refine W.objInit hx hb hown (hts _ m_c6d1f440) (hts _ m_fba9d542) (hts _ m_9febdb7e) rfl (hml.trans hl.1.symm).symm rfl (xb_d D_H_init 1 rfl) (by show 1 ≤ 8 + _; omega) (Nat.le_trans (Nat.le_of_ble_eq_true rfl : _ ≤ 40) (by show 40 ≤ 120 + _; omega)) ?_
  refine W.eq (g2 := F0 m 4 ls []) rfl ?_
  refine lv_aload_n hx hb (xb_d D_H_init 2 rfl) rfl (lv_at hl 0 rfl) ?_
  refine lv_bipush (v := 20) hx hb (xb_d D_H_init 3 rfl) (by decide) ?_
  obtain ⟨hcq1, hsq1, hw⟩ := hw
  have enq1 : (20 : Int32).toNatClampNeg = 20 := by decide
  refine xb_newa_b hx hb (hts _ m_2503b19f) hR hS hA (by decide) (by decide +kernel) (show k + 1 ≤ MC by omega) (show n + _ ≤ MS by rw [enq1]; omega) (xb_d D_H_init 4 rfl) (fun q1 H hqq1 hR hS => ?_)
  rw [enq1] at hR ⊢
  have hw := hw q1 hqq1
  obtain ⟨h2, eh2⟩ : ∃ x : xb_H, x = xb_new h q1 100 20 := ⟨_, rfl⟩
  rw [← eh2] at hR
  have hw := hw h2 eh2
  have hE : xb_ext h0 h2 := by rw [eh2]; exact hE.new _ _ hqq1
  have hk3 : xb_k h2 q1 = 100 := by rw [eh2]; exact xb_new_k _ _ _ _
  obtain ⟨hk4, hw⟩ := hw
  refine xb_putP (C := R_H) (T := F_H) (N := 11) (ty := .array .byte) (x := (some q1)) hx hb 0 0 hts fin_H t_H t_H_ok n_H hown hR hS hk4 (by decide) rfl (by decide) rfl (hts _ m_4570233e) (fun _ h9 => h9) rfl (by decide +kernel) (xb_pnA _ _).1 (xb_pnA _ _).2 (xb_d D_H_init 5 rfl) (fun H locs hR hS => ?_)
  obtain ⟨h5, eh5⟩ : ∃ x : xb_H, x = xb_P h2 x0 0 (some q1) := ⟨_, rfl⟩
  rw [← eh5] at hR
  have hw := hw h5 eh5
  have hE : xb_ext h0 h5 := by rw [eh5]; exact hE
  refine lv_aload_n hx hb (xb_d D_H_init 6 rfl) rfl (lv_at hl 0 rfl) ?_
  refine lv_bipush (v := 64) hx hb (xb_d D_H_init 7 rfl) (by decide) ?_
  obtain ⟨hcq6, hsq6, hw⟩ := hw
  have enq6 : (64 : Int32).toNatClampNeg = 64 := by decide
  refine xb_newq104 hx hb hown (hts _ m_051f4bf9) (va_AO.of (hts _ m_ccacbc17)) hR hS hA (by decide) (by decide +kernel) (show (k + 1) + 1 ≤ MC by omega) (show (n + 20) + _ ≤ MS by rw [enq6]; omega) (xb_d D_H_init 8 rfl) (fun q6 H hqq6 hR hS => ?_)
  rw [enq6] at hR ⊢
  have hw := hw q6 hqq6
  obtain ⟨h7, eh7⟩ : ∃ x : xb_H, x = xb_new h5 q6 104 64 := ⟨_, rfl⟩
  rw [← eh7] at hR
  have hw := hw h7 eh7
  have hE : xb_ext h0 h7 := by rw [eh7]; exact hE.new _ _ hqq6
  have hk8 : xb_k h7 q6 = 104 := by rw [eh7]; exact xb_new_k _ _ _ _
  have hk4 : xb_k h5 x0 = 1 := by rw [eh5]; exact hk4
  have hk4 : xb_k h7 x0 = 1 := by rw [eh7]; exact xb_nk hqq6 hk4
  refine xb_putPF (C := R_H) (T := F_H) (N := 11) (ty := .array (.object "StackHost$StackModule")) (x := (some q6)) hx hb 0 2 hts fin_H t_H t_H_ok n_H hown hR hS hk4 (by decide) rfl (by decide) rfl (hts _ m_3f8a3106) (fun _ h9 => h9) rfl hnm rfl (by decide +kernel) (xb_pnA _ _).1 (xb_pnA _ _).2 (xb_d D_H_init 9 rfl) (fun H locs hR hS => ?_)
  obtain ⟨h9, eh9⟩ : ∃ x : xb_H, x = xb_P h7 x0 2 (some q6) := ⟨_, rfl⟩
  rw [← eh9] at hR
  have hw := hw h9 eh9
  have hE : xb_ext h0 h9 := by rw [eh9]; exact hE
  refine lv_aload_n hx hb (xb_d D_H_init 10 rfl) rfl (lv_at hl 0 rfl) ?_
  obtain ⟨hcq10, hsq10, hw⟩ := hw
  refine xb_newo (C := R_Reader) (T := F_Reader) (N := 6) hx hb 3 hts fin_Reader t_Reader t_Reader_ok hown (hts _ m_99dc72aa) (hts _ m_8861008b) (hts _ m_938fcec4) hR hS hA (by decide) rfl dg_Reader (show ((k + 1) + 1) + 1 ≤ MC by omega) (show ((n + 20) + 64) + 6 ≤ MS by omega) (xb_d D_H_init 11 rfl) (fun q10 H hqq10 hR hS => ?_)
  have hw := hw q10 hqq10
  obtain ⟨h11, eh11⟩ : ∃ x : xb_H, x = xb_new h9 q10 4 0 := ⟨_, rfl⟩
  rw [← eh11] at hR
  have hw := hw h11 eh11
  have hE : xb_ext h0 h11 := by rw [eh11]; exact hE.new _ _ hqq10
  have hk12 : xb_k h11 q10 = 4 := by rw [eh11]; exact xb_new_k _ _ _ _
  refine lv_dup hx hb (xb_d D_H_init 12 rfl) rfl ?_
  obtain ⟨c15, sc15, hlc15, hlsc15, hw⟩ := hw
  refine xb_call (D := D) (A := A) (σ := σ) (h := h11) (d := 2) (mc := c15) (ms := sc15) (maxL := 1) (rest := [.ref q10, .ref x0]) (av := [.ref q10]) (fun T hT X => xt_invIN X hx hown rfl (hts _ m_8c352f93) (hts _ m_121e95dc) (hts _ m_65ca0432) nm_Reader_init (g := F0 m 26 ls [.ref q10, .ref q10, .ref x0]) rfl (b := q10) (argsL := []) (rest := [.ref q10, .ref x0]) rfl rfl (by rw [hb]; exact (xb_d D_H_init 13 rfl))) (ok_Reader_init l hfl D A σ q10 h11 c15 sc15 _ hw) (hml.trans hl.1.symm) (by rw [hb]; exact (xb_d D_H_init 13 rfl)) (Nat.le_of_ble_eq_true rfl) (Nat.le_of_ble_eq_true rfl) (Nat.le_of_ble_eq_true rfl) (show (((k + 1) + 1) + 1) + c15 ≤ MC by omega) (show (((n + 20) + 64) + 6) + sc15 ≤ MS by omega) (xt_w1 hB.1 m_65ca0432) (xt_cdOf hB.1 m_65ca0432) (hts _ m_938fcec4) hB hR hS hA (fun vv h13 H locs hq hEh13 hR hS => ?_) (fun XX ax h13 H locs hq hEh13 hex hR hS => ?_)
  · obtain ⟨rfl, hw⟩ := hq
    have hw := hw hEh13
    have hE := hE.tr hEh13
    refine W.eq (g2 := F0 m 29 ls [.ref q10, .ref x0]) rfl ?_
    have hk4 : xb_k h9 x0 = 1 := by rw [eh9]; exact hk4
    have hk4 : xb_k h11 x0 = 1 := by rw [eh11]; exact xb_nk hqq10 hk4
    have hk4 : xb_k h13 x0 = 1 := hEh13.k hk4
    refine xb_putPF (C := R_H) (T := F_H) (N := 11) (ty := .object "StackHost$Reader") (x := (some q10)) hx hb 0 4 hts fin_H t_H t_H_ok n_H hown hR hS hk4 (by decide) rfl (by decide) rfl (hts _ m_95161389) (fun _ h9 => h9) rfl hnm rfl (by decide +kernel) (xb_pnO _ _).1 (xb_pnO _ _).2 (xb_d D_H_init 14 rfl) (fun H locs hR hS => ?_)
    obtain ⟨h16, eh16⟩ : ∃ x : xb_H, x = xb_P h13 x0 4 (some q10) := ⟨_, rfl⟩
    rw [← eh16] at hR
    have hw := hw h16 eh16
    have hE : xb_ext h0 h16 := by rw [eh16]; exact hE
    refine lv_aload_n hx hb (xb_d D_H_init 15 rfl) rfl (lv_at hl 0 rfl) ?_
    obtain ⟨hcq17, hsq17, hw⟩ := hw
    refine xb_newo (C := R_Checker) (T := F_Checker) (N := 17) hx hb 4 hts fin_Checker t_Checker t_Checker_ok hown (hts _ m_ea8200a1) (hts _ m_ad1ec43e) (hts _ m_44748ce5) hR hS hA (by decide) rfl dg_Checker (show ((((k + 1) + 1) + 1) + c15) + 1 ≤ MC by omega) (show ((((n + 20) + 64) + 6) + sc15) + 17 ≤ MS by omega) (xb_d D_H_init 16 rfl) (fun q17 H hqq17 hR hS => ?_)
    have hw := hw q17 hqq17
    obtain ⟨h18, eh18⟩ : ∃ x : xb_H, x = xb_new h16 q17 5 0 := ⟨_, rfl⟩
    rw [← eh18] at hR
    have hw := hw h18 eh18
    have hE : xb_ext h0 h18 := by rw [eh18]; exact hE.new _ _ hqq17
    have hk19 : xb_k h18 q17 = 5 := by rw [eh18]; exact xb_new_k _ _ _ _
    refine lv_dup hx hb (xb_d D_H_init 17 rfl) rfl ?_
    obtain ⟨c22, sc22, hlc22, hlsc22, hw⟩ := hw
    refine xb_call (D := D) (A := A) (σ := σ) (h := h18) (d := 2) (mc := c22) (ms := sc22) (maxL := 1) (rest := [.ref q17, .ref x0]) (av := [.ref q17]) (fun T hT X => xt_invIN X hx hown rfl (hts _ m_f8611504) (hts _ m_6d444e05) (hts _ m_dfdc58b8) nm_Checker_init (g := F0 m 37 ls [.ref q17, .ref q17, .ref x0]) rfl (b := q17) (argsL := []) (rest := [.ref q17, .ref x0]) rfl rfl (by rw [hb]; exact (xb_d D_H_init 18 rfl))) (ok_Checker_init l hfl D A σ q17 h18 c22 sc22 _ hw) (hml.trans hl.1.symm) (by rw [hb]; exact (xb_d D_H_init 18 rfl)) (Nat.le_of_ble_eq_true rfl) (Nat.le_of_ble_eq_true rfl) (Nat.le_of_ble_eq_true rfl) (show (((((k + 1) + 1) + 1) + c15) + 1) + c22 ≤ MC by omega) (show (((((n + 20) + 64) + 6) + sc15) + 17) + sc22 ≤ MS by omega) (xt_w1 hB.1 m_dfdc58b8) (xt_cdOf hB.1 m_dfdc58b8) (hts _ m_44748ce5) hB hR hS hA (fun vv h20 H locs hq hEh20 hR hS => ?_) (fun XX ax h20 H locs hq hEh20 hex hR hS => ?_)
    · obtain ⟨rfl, hw⟩ := hq
      have hw := hw hEh20
      have hE := hE.tr hEh20
      refine W.eq (g2 := F0 m 40 ls [.ref q17, .ref x0]) rfl ?_
      have hk4 : xb_k h16 x0 = 1 := by rw [eh16]; exact hk4
      have hk4 : xb_k h18 x0 = 1 := by rw [eh18]; exact xb_nk hqq17 hk4
      have hk4 : xb_k h20 x0 = 1 := hEh20.k hk4
      refine xb_putPF (C := R_H) (T := F_H) (N := 11) (ty := .object "StackHost$Checker") (x := (some q17)) hx hb 0 5 hts fin_H t_H t_H_ok n_H hown hR hS hk4 (by decide) rfl (by decide) rfl (hts _ m_b8585ab6) (fun _ h9 => h9) rfl hnm rfl (by decide +kernel) (xb_pnO _ _).1 (xb_pnO _ _).2 (xb_d D_H_init 19 rfl) (fun H locs hR hS => ?_)
      obtain ⟨h23, eh23⟩ : ∃ x : xb_H, x = xb_P h20 x0 5 (some q17) := ⟨_, rfl⟩
      rw [← eh23] at hR
      have hw := hw h23 eh23
      have hE : xb_ext h0 h23 := by rw [eh23]; exact hE
      refine lv_aload_n hx hb (xb_d D_H_init 20 rfl) rfl (lv_at hl 0 rfl) ?_
      obtain ⟨hcq24, hsq24, hw⟩ := hw
      refine xb_newo (C := R_World) (T := F_World) (N := 16) hx hb 6 hts fin_World t_World t_World_ok hown (hts _ m_08a89f80) (hts _ m_b1e54c7b) (hts _ m_4534b440) hR hS hA (by decide) rfl dg_World (show ((((((k + 1) + 1) + 1) + c15) + 1) + c22) + 1 ≤ MC by omega) (show ((((((n + 20) + 64) + 6) + sc15) + 17) + sc22) + 16 ≤ MS by omega) (xb_d D_H_init 21 rfl) (fun q24 H hqq24 hR hS => ?_)
      have hw := hw q24 hqq24
      obtain ⟨h25, eh25⟩ : ∃ x : xb_H, x = xb_new h23 q24 7 0 := ⟨_, rfl⟩
      rw [← eh25] at hR
      have hw := hw h25 eh25
      have hE : xb_ext h0 h25 := by rw [eh25]; exact hE.new _ _ hqq24
      have hk26 : xb_k h25 q24 = 7 := by rw [eh25]; exact xb_new_k _ _ _ _
      refine lv_dup hx hb (xb_d D_H_init 22 rfl) rfl ?_
      obtain ⟨c29, sc29, hlc29, hlsc29, hw⟩ := hw
      refine xb_call (D := D) (A := A) (σ := σ) (h := h25) (d := 3) (mc := c29) (ms := sc29) (maxL := 1) (rest := [.ref q24, .ref x0]) (av := [.ref q24]) (fun T hT X => xt_invIN X hx hown rfl (hts _ m_dcffba6a) (hts _ m_703bbbc2) (hts _ m_ee1213d4) nm_World_init (g := F0 m 48 ls [.ref q24, .ref q24, .ref x0]) rfl (b := q24) (argsL := []) (rest := [.ref q24, .ref x0]) rfl rfl (by rw [hb]; exact (xb_d D_H_init 23 rfl))) (ok_World_init l hfl D A σ q24 h25 c29 sc29 _ hw) (hml.trans hl.1.symm) (by rw [hb]; exact (xb_d D_H_init 23 rfl)) (Nat.le_of_ble_eq_true rfl) (Nat.le_of_ble_eq_true rfl) (Nat.le_of_ble_eq_true rfl) (show (((((((k + 1) + 1) + 1) + c15) + 1) + c22) + 1) + c29 ≤ MC by omega) (show (((((((n + 20) + 64) + 6) + sc15) + 17) + sc22) + 16) + sc29 ≤ MS by omega) (xt_w1 hB.1 m_ee1213d4) (xt_cdOf hB.1 m_ee1213d4) (hts _ m_4534b440) hB hR hS hA (fun vv h27 H locs hq hEh27 hR hS => ?_) (fun XX ax h27 H locs hq hEh27 hex hR hS => ?_)
      · obtain ⟨rfl, hw⟩ := hq
        have hw := hw hEh27
        have hE := hE.tr hEh27
        refine W.eq (g2 := F0 m 51 ls [.ref q24, .ref x0]) rfl ?_
        have hk4 : xb_k h23 x0 = 1 := by rw [eh23]; exact hk4
        have hk4 : xb_k h25 x0 = 1 := by rw [eh25]; exact xb_nk hqq24 hk4
        have hk4 : xb_k h27 x0 = 1 := hEh27.k hk4
        refine xb_putPF (C := R_H) (T := F_H) (N := 11) (ty := .object "StackHost$World") (x := (some q24)) hx hb 0 6 hts fin_H t_H t_H_ok n_H hown hR hS hk4 (by decide) rfl (by decide) rfl (hts _ m_3ac6c4ed) (fun _ h9 => h9) rfl hnm rfl (by decide +kernel) (xb_pnO _ _).1 (xb_pnO _ _).2 (xb_d D_H_init 24 rfl) (fun H locs hR hS => ?_)
        obtain ⟨h30, eh30⟩ : ∃ x : xb_H, x = xb_P h27 x0 6 (some q24) := ⟨_, rfl⟩
        rw [← eh30] at hR
        have hw := hw h30 eh30
        have hE : xb_ext h0 h30 := by rw [eh30]; exact hE
        refine lv_aload_n hx hb (xb_d D_H_init 25 rfl) rfl (lv_at hl 0 rfl) ?_
        obtain ⟨hcq31, hsq31, hw⟩ := hw
        refine xb_newo (C := R_Machine) (T := F_Machine) (N := 18) hx hb 7 hts fin_Machine t_Machine t_Machine_ok hown (hts _ m_e1594143) (hts _ m_dad258f8) (hts _ m_73451f9b) hR hS hA (by decide) rfl dg_Machine (show ((((((((k + 1) + 1) + 1) + c15) + 1) + c22) + 1) + c29) + 1 ≤ MC by omega) (show ((((((((n + 20) + 64) + 6) + sc15) + 17) + sc22) + 16) + sc29) + 18 ≤ MS by omega) (xb_d D_H_init 26 rfl) (fun q31 H hqq31 hR hS => ?_)
        have hw := hw q31 hqq31
        obtain ⟨h32, eh32⟩ : ∃ x : xb_H, x = xb_new h30 q31 8 0 := ⟨_, rfl⟩
        rw [← eh32] at hR
        have hw := hw h32 eh32
        have hE : xb_ext h0 h32 := by rw [eh32]; exact hE.new _ _ hqq31
        have hk33 : xb_k h32 q31 = 8 := by rw [eh32]; exact xb_new_k _ _ _ _
        refine lv_dup hx hb (xb_d D_H_init 27 rfl) rfl ?_
        refine lv_aload_n hx hb (xb_d D_H_init 28 rfl) rfl (lv_at hl 0 rfl) ?_
        have hk4 : xb_k h30 x0 = 1 := by rw [eh30]; exact hk4
        have hk4 : xb_k h32 x0 = 1 := by rw [eh32]; exact xb_nk hqq31 hk4
        refine xb_getP (C := R_H) (T := F_H) (N := 11) hx hb 0 6 hts fin_H hown hR hk4 (by decide) rfl (by decide) rfl (hts _ m_3ac6c4ed) (fun _ h9 => h9) (xb_d D_H_init 29 rfl) ?_
        obtain ⟨b34, eb34, hw⟩ := hw
        refine xb_some eb34 ?_
        obtain ⟨c37, sc37, hlc37, hlsc37, hw⟩ := hw
        refine xb_call (D := D) (A := A) (σ := σ) (h := h32) (d := 3) (mc := c37) (ms := sc37) (maxL := 2) (rest := [.ref q31, .ref x0]) (av := [.ref q31, .ref b34]) (fun T hT X => xt_invI X hx hown rfl (hts _ m_44e19a1a) (hts _ m_a743133a) (hts _ m_2400c418) nm_Machine_init (g := F0 m 63 ls [.ref b34, .ref q31, .ref q31, .ref x0]) rfl (b := q31) (argsL := [.ref b34]) (rest := [.ref q31, .ref x0]) rfl rfl (by rw [hb]; exact (xb_d D_H_init 30 rfl))) (ok_Machine_init l hfl D A σ q31 b34 h32 c37 sc37 _ hw) (hml.trans hl.1.symm) (by rw [hb]; exact (xb_d D_H_init 30 rfl)) (Nat.le_of_ble_eq_true rfl) (Nat.le_of_ble_eq_true rfl) (Nat.le_of_ble_eq_true rfl) (show (((((((((k + 1) + 1) + 1) + c15) + 1) + c22) + 1) + c29) + 1) + c37 ≤ MC by omega) (show (((((((((n + 20) + 64) + 6) + sc15) + 17) + sc22) + 16) + sc29) + 18) + sc37 ≤ MS by omega) (xt_w1 hB.1 m_2400c418) (xt_cdOf hB.1 m_2400c418) (hts _ m_73451f9b) hB hR hS hA (fun vv h35 H locs hq hEh35 hR hS => ?_) (fun XX ax h35 H locs hq hEh35 hex hR hS => ?_)
        · obtain ⟨rfl, hw⟩ := hq
          have hw := hw hEh35
          have hE := hE.tr hEh35
          refine W.eq (g2 := F0 m 66 ls [.ref q31, .ref x0]) rfl ?_
          have hk4 : xb_k h35 x0 = 1 := hEh35.k hk4
          refine xb_putPF (C := R_H) (T := F_H) (N := 11) (ty := .object "StackHost$Machine") (x := (some q31)) hx hb 0 7 hts fin_H t_H t_H_ok n_H hown hR hS hk4 (by decide) rfl (by decide) rfl (hts _ m_ab10058e) (fun _ h9 => h9) rfl hnm rfl (by decide +kernel) (xb_pnO _ _).1 (xb_pnO _ _).2 (xb_d D_H_init 31 rfl) (fun H locs hR hS => ?_)
          obtain ⟨h38, eh38⟩ : ∃ x : xb_H, x = xb_P h35 x0 7 (some q31) := ⟨_, rfl⟩
          rw [← eh38] at hR
          have hw := hw h38 eh38
          have hE : xb_ext h0 h38 := by rw [eh38]; exact hE
          refine lv_aload_n hx hb (xb_d D_H_init 32 rfl) rfl (lv_at hl 0 rfl) ?_
          obtain ⟨hcq39, hsq39, hw⟩ := hw
          refine xb_newo (C := R_Row) (T := F_Row) (N := 3) hx hb 1 hts fin_Row t_Row t_Row_ok hown (hts _ m_66fa6db5) (hts _ m_decbd935) (hts _ m_c1bef504) hR hS hA (by decide) rfl dg_Row (show ((((((((((k + 1) + 1) + 1) + c15) + 1) + c22) + 1) + c29) + 1) + c37) + 1 ≤ MC by omega) (show ((((((((((n + 20) + 64) + 6) + sc15) + 17) + sc22) + 16) + sc29) + 18) + sc37) + 3 ≤ MS by omega) (xb_d D_H_init 33 rfl) (fun q39 H hqq39 hR hS => ?_)
          have hw := hw q39 hqq39
          obtain ⟨h40, eh40⟩ : ∃ x : xb_H, x = xb_new h38 q39 2 0 := ⟨_, rfl⟩
          rw [← eh40] at hR
          have hw := hw h40 eh40
          have hE : xb_ext h0 h40 := by rw [eh40]; exact hE.new _ _ hqq39
          have hk41 : xb_k h40 q39 = 2 := by rw [eh40]; exact xb_new_k _ _ _ _
          refine lv_dup hx hb (xb_d D_H_init 34 rfl) rfl ?_
          refine lv_iconst (v := 1) hx hb (xb_d D_H_init 35 rfl) (by decide) ?_
          obtain ⟨c44, sc44, hlc44, hlsc44, hw⟩ := hw
          refine xb_call (D := D) (A := A) (σ := σ) (h := h40) (d := 2) (mc := c44) (ms := sc44) (maxL := 2) (rest := [.ref q39, .ref x0]) (av := [.ref q39, .int 1]) (fun T hT X => xt_invI X hx hown rfl (hts _ m_b28a71f1) (hts _ m_16ca0e9f) (hts _ m_3d9e18a6) nm_Row_init (g := F0 m 75 ls [.int 1, .ref q39, .ref q39, .ref x0]) rfl (b := q39) (argsL := [.int 1]) (rest := [.ref q39, .ref x0]) rfl rfl (by rw [hb]; exact (xb_d D_H_init 36 rfl))) (ok_Row_init l hfl D A σ q39 1 h40 c44 sc44 _ hw) (hml.trans hl.1.symm) (by rw [hb]; exact (xb_d D_H_init 36 rfl)) (Nat.le_of_ble_eq_true rfl) (Nat.le_of_ble_eq_true rfl) (Nat.le_of_ble_eq_true rfl) (show (((((((((((k + 1) + 1) + 1) + c15) + 1) + c22) + 1) + c29) + 1) + c37) + 1) + c44 ≤ MC by omega) (show (((((((((((n + 20) + 64) + 6) + sc15) + 17) + sc22) + 16) + sc29) + 18) + sc37) + 3) + sc44 ≤ MS by omega) (xt_w1 hB.1 m_3d9e18a6) (xt_cdOf hB.1 m_3d9e18a6) (hts _ m_c1bef504) hB hR hS hA (fun vv h42 H locs hq hEh42 hR hS => ?_) (fun XX ax h42 H locs hq hEh42 hex hR hS => ?_)
          · obtain ⟨rfl, hw⟩ := hq
            have hw := hw hEh42
            have hE := hE.tr hEh42
            refine W.eq (g2 := F0 m 78 ls [.ref q39, .ref x0]) rfl ?_
            have hk4 : xb_k h38 x0 = 1 := by rw [eh38]; exact hk4
            have hk4 : xb_k h40 x0 = 1 := by rw [eh40]; exact xb_nk hqq39 hk4
            have hk4 : xb_k h42 x0 = 1 := hEh42.k hk4
            refine xb_putPF (C := R_H) (T := F_H) (N := 11) (ty := .object "StackHost$Row") (x := (some q39)) hx hb 0 8 hts fin_H t_H t_H_ok n_H hown hR hS hk4 (by decide) rfl (by decide) rfl (hts _ m_3f9b649c) (fun _ h9 => h9) rfl hnm rfl (by decide +kernel) (xb_pnO _ _).1 (xb_pnO _ _).2 (xb_d D_H_init 37 rfl) (fun H locs hR hS => ?_)
            obtain ⟨h45, eh45⟩ : ∃ x : xb_H, x = xb_P h42 x0 8 (some q39) := ⟨_, rfl⟩
            rw [← eh45] at hR
            have hw := hw h45 eh45
            have hE : xb_ext h0 h45 := by rw [eh45]; exact hE
            exact xb_vret hx hb hr hlocks (show ((((((((((((k + 1) + 1) + 1) + c15) + 1) + c22) + 1) + c29) + 1) + c37) + 1) + c44) ≤ MC by omega) (show ((((((((((((n + 20) + 64) + 6) + sc15) + 17) + sc22) + 16) + sc29) + 18) + sc37) + 3) + sc44) ≤ MS by omega) hE hR hS (xb_d D_H_init 38 rfl) hw
          · exact False.elim hq
        · exact False.elim hq
      · exact False.elim hq
    · exact False.elim hq
  · exact False.elim hq

theorem m_dec1b4f0 : (.fieldLink "StackHost" 318 "StackHost$Instance" "table" "LStackHost$Table;" : Cond) ∈ xt_tbl := xt_in (xt_t7 (List.mem_of_getElem? (i := 15) (by decide +kernel))) (by decide +kernel)
theorem m_0b0ad3d1 : (.fieldLink "StackHost" 322 "StackHost$Table" "size" "I" : Cond) ∈ xt_tbl := xt_in (xt_t7 (List.mem_of_getElem? (i := 57) (by decide +kernel))) (by decide +kernel)
theorem m_f8210b1b : (.fieldLink "StackHost" 327 "StackHost$World" "elements" "LStackHost$Row;" : Cond) ∈ xt_tbl := xt_in (xt_t1 (List.mem_of_getElem? (i := 177) (by decide +kernel))) (by decide +kernel)
theorem m_cdf2e386 : (.fieldLink "StackHost" 328 "StackHost$Table" "from" "I" : Cond) ∈ xt_tbl := xt_in (xt_t7 (List.mem_of_getElem? (i := 53) (by decide +kernel))) (by decide +kernel)
theorem m_d56dd52f : (.methodLink "StackHost" 332 y_World_ownerOf : Cond) ∈ xt_tbl := xt_in (xt_t9 (List.mem_of_getElem? (i := 78) (by decide +kernel))) (by decide +kernel)
theorem m_905f65dc : (.instanceMethod y_World_ownerOf : Cond) ∈ xt_tbl := xt_in (xt_t6 (List.mem_of_getElem? (i := 140) (by decide +kernel))) (by decide +kernel)
theorem m_94d0d6f7 : (.selects "StackHost$World" y_World_ownerOf y_World_ownerOf : Cond) ∈ xt_tbl := xt_in (xt_t6 (List.mem_of_getElem? (i := 141) (by decide +kernel))) (by decide +kernel)
theorem m_267eaad3 : (.code y_World_ownerOf b_World_ownerOf 2 (some (.object "StackHost$Instance")) : Cond) ∈ xt_tbl := xt_in (xt_t6 (List.mem_of_getElem? (i := 142) (by decide +kernel))) (by decide +kernel)
theorem m_20b89c04 : (.fieldLink "StackHost" 204 "StackHost$Instance" "number" "I" : Cond) ∈ xt_tbl := xt_in (xt_t7 (List.mem_of_getElem? (i := 2) (by decide +kernel))) (by decide +kernel)
theorem m_32fb6afe : (.methodLink "StackHost" 335 y_Instance_numberOf : Cond) ∈ xt_tbl := xt_in (xt_t9 (List.mem_of_getElem? (i := 79) (by decide +kernel))) (by decide +kernel)
theorem m_5272c608 : (.instanceMethod y_Instance_numberOf : Cond) ∈ xt_tbl := xt_in (xt_t6 (List.mem_of_getElem? (i := 144) (by decide +kernel))) (by decide +kernel)
theorem m_455039e8 : (.selects "StackHost$Instance" y_Instance_numberOf y_Instance_numberOf : Cond) ∈ xt_tbl := xt_in (xt_t6 (List.mem_of_getElem? (i := 145) (by decide +kernel))) (by decide +kernel)
theorem m_bf66480a : (.code y_Instance_numberOf b_Instance_numberOf 2 (some .int) : Cond) ∈ xt_tbl := xt_in (xt_t6 (List.mem_of_getElem? (i := 146) (by decide +kernel))) (by decide +kernel)
theorem m_0e104814 : (.constant "StackHost" 331 2147418112 : Cond) ∈ xt_tbl := xt_in (xt_t9 (List.mem_of_getElem? (i := 77) (by decide +kernel))) (by decide +kernel)
theorem nm_World_ownerOf : xt_nm y_World_ownerOf 1 := ⟨by decide +kernel, by decide +kernel⟩
theorem nm_Instance_numberOf : xt_nm y_Instance_numberOf 1 := ⟨by decide +kernel, by decide +kernel⟩
set_option maxRecDepth 100000 in
def T_H_element : List (Nat × Instr × Nat) := [(0, .aload_n 0, 1), (1, .iload_n 1, 1), (2, .invokevirtual 200, 3), (5, .getfield 318, 3), (8, .astore_n 3, 1), (9, .aload_n 3, 1), (10, .ifnull 15, 3), (13, .iload_n 2, 1), (14, .ifCond .lt 11, 3), (17, .iload_n 2, 1), (18, .aload_n 3, 1), (19, .getfield 322, 3), (22, .if_icmp .lt 14, 3), (25, .new 117, 3), (28, .dup, 1), (29, .ldc_w 325, 3), (32, .invokespecial 121, 3), (35, .athrow, 1), (36, .aload_n 0, 1), (37, .getfield 36, 3), (40, .getfield 327, 3), (43, .aload_n 3, 1), (44, .getfield 328, 3), (47, .iload_n 2, 1), (48, .iadd, 1), (49, .iconst 0, 1), (50, .invokevirtual 166, 3), (53, .istore 4, 2), (55, .iload 4, 2), (57, .iconst (-1), 1), (58, .if_icmp .ne 5, 3), (61, .iconst (-1), 1), (62, .ireturn, 1), (63, .iload 4, 2), (65, .sipush 8192, 3), (68, .if_icmp .lt 14, 3), (71, .ldc_w 331, 3), (74, .iload 4, 2), (76, .sipush 8192, 3), (79, .isub, 1), (80, .iadd, 1), (81, .ireturn, 1), (82, .aload_n 0, 1), (83, .getfield 36, 3), (86, .iload 4, 2), (88, .invokevirtual 332, 3), (91, .astore 5, 2), (93, .ldc 70, 2), (95, .aload 5, 2), (97, .getfield 204, 3), (100, .imul, 1), (101, .aload 5, 2), (103, .iload 4, 2), (105, .invokevirtual 335, 3), (108, .iadd, 1), (109, .ireturn, 1)]
theorem D_H_element : ∀ q ∈ T_H_element, decode b_H_element q.1 = .ok (q.2.1, q.2.2) := by decide +kernel
def w_H_element_L25 (Qr : Int32 → xb_H → Prop) (Qt : String → xb_H → Prop) (h : xb_H) (bc : Nat) (bs : Nat) : Prop :=
    1 ≤ bc ∧ 6 ≤ bs ∧ Qt "java/lang/IndexOutOfBoundsException" h

def w_H_element (x0 : Nat) (x1 : Int32) (x2 : Int32) (h : xb_H) (bc : Nat) (bs : Nat) (Qr : Int32 → xb_H → Prop) (Qt : String → xb_H → Prop) : Prop :=
    xb_k h x0 = 1 ∧ ∃ c4 sc4 : Nat, c4 ≤ bc ∧ sc4 ≤ bs ∧ w_H_instanceNumbered x0 x1 h c4 sc4 (fun (r3 : Nat) (h2 : xb_H) => xb_ext h h2 → xb_k h2 r3 = 11 ∧ (((xb_r h2 r3 6) = none → w_H_element_L25 Qr Qt h2 (bc - c4) (bs - sc4)) ∧ (∀ b6 : Nat, (xb_r h2 r3 6) = some b6 → ((x2 < (0 : Int32) → w_H_element_L25 Qr Qt h2 (bc - c4) (bs - sc4)) ∧ (¬ x2 < (0 : Int32) → xb_k h2 b6 = 12 ∧ ((x2 < (xb_i h2 b6 1) → ∃ b10 : Nat, (xb_r h2 x0 6) = some b10 ∧ xb_k h2 b10 = 7 ∧ ∃ b12 : Nat, (xb_r h2 b10 4) = some b12 ∧ xb_k h2 b12 = 2 ∧ w_Row_at b12 ((xb_i h2 b6 0) + x2) 0 h2 (fun (r15 : Int32) (h14 : xb_H) => xb_ext h2 h14 → ((¬ r15 = ((-1) : Int32) → ((r15 < (8192 : Int32) → ∃ b18 : Nat, (xb_r h14 x0 6) = some b18 ∧ xb_k h14 b18 = 7 ∧ w_World_ownerOf b18 r15 h14 (fun (r21 : Nat) (h20 : xb_H) => xb_ext h14 h20 → xb_k h20 r21 = 11 ∧ w_Instance_numberOf r21 r15 h20 (fun (r24 : Int32) (h23 : xb_H) => xb_ext h20 h23 → Qr ((65536 * (xb_i h20 r21 0)) + r24) h23))) ∧ (¬ r15 < (8192 : Int32) → Qr (2147418112 + (r15 - 8192)) h14))) ∧ (r15 = ((-1) : Int32) → Qr (-1) h14)))) ∧ (¬ x2 < (xb_i h2 b6 1) → w_H_element_L25 Qr Qt h2 (bc - c4) (bs - sc4)))))))) Qt

set_option maxHeartbeats 4000000 in
set_option maxRecDepth 100000 in
theorem am_H_element_L25 (l : Launch) (hfl : l.flags = pinnedFlags ++ [noTraceFlag]) (D : va_G) (A : Nat → Prop) (σ MC MS : Nat) (h0 : xb_H) (Qr : Int32 → xb_H → Prop) (Qt : String → xb_H → Prop) (h : xb_H) (bc : Nat) (bs : Nat) (hw : w_H_element_L25 Qr Qt h bc bs) : xb_am l D A σ 4 MC MS h0 (fun v h => ∃ r, v = some (.int r) ∧ Qr r h) Qt y_H_element.cls y_H_element.name b_H_element 6 ([] : List ExceptionTableEntry) (some .int) 25 [] [] h bc bs := by
  unfold w_H_element_L25 at hw
  intro p e s m args below meth c hC H locs ls k n hE hl hR hS hk hn
  obtain ⟨hx, hb, hown, hlocks, htab, hml, hr, hB, hA, hnm⟩ := id hC
  have hts := hB.1.1.at args
  obtain ⟨hc9, hs9, hw⟩ := hw
  exact xb_throw (names := ["java/lang/RuntimeException", "java/lang/Exception"]) hx hb (hml.trans hl.1.symm) hlocks hfl hown xsite_b9eac3 hB hS (show k + 1 ≤ MC by omega) (show n + 6 ≤ MS by omega) (by decide) (Nat.le_of_ble_eq_true rfl) htab (xb_d D_H_element 13 rfl) (xb_d D_H_element 14 rfl) xt_l3 (xb_d D_H_element 15 rfl) (xb_d D_H_element 16 rfl) (xb_d D_H_element 17 rfl) hE hR hw

set_option maxHeartbeats 4000000 in
set_option maxRecDepth 100000 in
theorem ok_H_element (l : Launch) (hfl : l.flags = pinnedFlags ++ [noTraceFlag]) (D : va_G) (A : Nat → Prop) (σ : Nat) (x0 : Nat) (x1 : Int32) (x2 : Int32) (h : xb_H) (bc : Nat) (bs : Nat) (Qr : Int32 → xb_H → Prop) (Qt : String → xb_H → Prop) (hw : w_H_element x0 x1 x2 h bc bs Qr Qt) : xt_Met l y_H_element [.code y_H_element b_H_element 6 (some .int)] (xb_rm 4 bc bs) (xb_Pc D A σ h [.ref x0, .int x1, .int x2]) (xb_Qc D A h (fun v h => ∃ r, v = some (.int r) ∧ Qr r h) Qt) bc bs A := by
  refine xb_ofAm (cc := b_H_element) (by decide) (Nat.le_of_ble_eq_true rfl) ?_
  unfold w_H_element at hw
  show xb_am l D A σ 4 bc bs h (fun v h => ∃ r, v = some (.int r) ∧ Qr r h) Qt y_H_element.cls y_H_element.name b_H_element 6 ([] : List ExceptionTableEntry) (some .int) 0 [(0, .ref x0), (1, .int x1), (2, .int x2)] [] h bc bs
  obtain ⟨MC, hMC⟩ : ∃ x, x = bc := ⟨_, rfl⟩
  obtain ⟨MS, hMS⟩ : ∃ x, x = bs := ⟨_, rfl⟩
  rw [show xb_am l D A σ 4 bc bs = xb_am l D A σ 4 MC MS by rw [hMC, hMS]]
  obtain ⟨h0, hh0⟩ : ∃ x, x = h := ⟨_, rfl⟩
  rw [show xb_am l D A σ 4 MC MS h = xb_am l D A σ 4 MC MS h0 by rw [hh0]]
  intro p e s m args below meth c hC H locs ls k n hE hl hR hS hk hn
  obtain ⟨hx, hb, hown, hlocks, htab, hml, hr, hB, hA, hnm⟩ := id hC
  have hts := hB.1.1.at args
  refine lv_aload_n hx hb (xb_d D_H_element 0 rfl) rfl (lv_at hl 0 rfl) ?_
  refine lv_iload_n hx hb (xb_d D_H_element 1 rfl) rfl (lv_at hl 1 rfl) ?_
  obtain ⟨hk1, hw⟩ := hw
  obtain ⟨c4, sc4, hlc4, hlsc4, hw⟩ := hw
  refine xb_call (D := D) (A := A) (σ := σ) (h := h) (d := 2) (mc := c4) (ms := sc4) (maxL := 2) (rest := []) (av := [.ref x0, .int x1]) (fun T hT X => by obtain ⟨cb, r1, r2, r3⟩ := xb_recv (ci := 0) hR rfl hk1 (by decide); exact xt_invV X hx hown (hts _ m_63e9a525) (hts _ m_93abae91) (hts _ m_f44e4f6a) (xt_sigOf (hts _ m_925de4f3)) nm_H_instanceNumbered (by rw [hT]; exact r1) r2 r3 (g := F0 m 2 ls [.int x1, .ref x0]) rfl (argsL := [.int x1]) (rest := []) rfl rfl (by rw [hb]; exact (xb_d D_H_element 2 rfl))) (ok_H_instanceNumbered l hfl D A σ x0 x1 h c4 sc4 _ _ hw) (hml.trans hl.1.symm) (by rw [hb]; exact (xb_d D_H_element 2 rfl)) (Nat.le_of_ble_eq_true rfl) (Nat.le_of_ble_eq_true rfl) (Nat.le_of_ble_eq_true rfl) (show k + c4 ≤ MC by omega) (show n + sc4 ≤ MS by omega) (xt_w1 hB.1 m_925de4f3) (xt_cdOf hB.1 m_925de4f3) (hts _ m_ba0734f5) hB hR hS hA (fun vv h2 H locs hq hEh2 hR hS => ?_) (fun XX ax h2 H locs hq hEh2 hex hR hS => ?_)
  · obtain ⟨r3, rfl, hw⟩ := hq
    have hw := hw hEh2
    have hE := hE.tr hEh2
    refine W.eq (g2 := F0 m 5 ls [.ref r3]) rfl ?_
    obtain ⟨hk5, hw⟩ := hw
    refine xb_getP (C := R_Instance) (T := F_Instance) (N := 8) hx hb 10 6 hts fin_Instance hown hR hk5 (by decide) rfl (by decide) rfl (hts _ m_dec1b4f0) (fun _ h9 => h9) (xb_d D_H_element 3 rfl) ?_
    refine xb_split (fun ho => ?_) (fun b6 ho => ?_)
    · have hw := hw.1 ho
      refine lv_astore_nN hx hb (xb_d D_H_element 4 rfl) rfl hl (by decide) rfl (fun ls hl => ?_)
      have hl : lv_has ls 6 [(3, .null), (0, .ref x0), (1, .int x1), (2, .int x2)] := hl
      refine lv_aload_nN hx hb (xb_d D_H_element 5 rfl) rfl (lv_at hl 0 rfl) ?_
      refine lv_ifnullN (tgt := 25) hx hb (xb_d D_H_element 6 rfl) rfl ?_
      exact am_H_element_L25 l hfl D A σ MC MS h0 Qr Qt h2 (bc - c4) (bs - sc4) hw p e s m args below meth c hC H locs ls (k + c4) (n + sc4) hE (lv_sub hl [] rfl) hR hS (by omega) (by omega)
    · have hw := hw.2 b6 ho
      refine lv_astore_n hx hb (xb_d D_H_element 4 rfl) rfl hl (by decide) rfl (fun ls hl => ?_)
      have hl : lv_has ls 6 [(3, .ref b6), (0, .ref x0), (1, .int x1), (2, .int x2)] := hl
      refine lv_aload_n hx hb (xb_d D_H_element 5 rfl) rfl (lv_at hl 0 rfl) ?_
      refine lv_ifnull hx hb (xb_d D_H_element 6 rfl) ?_
      refine lv_iload_n hx hb (xb_d D_H_element 7 rfl) rfl (lv_at hl 3 rfl) ?_
      refine lv_if_lt (tgt := 25) hx hb (xb_d D_H_element 8 rfl) rfl (fun hc7 => ?_) (fun hc7 => ?_)
      · have hw := hw.1 hc7
        exact am_H_element_L25 l hfl D A σ MC MS h0 Qr Qt h2 (bc - c4) (bs - sc4) hw p e s m args below meth c hC H locs ls (k + c4) (n + sc4) hE (lv_sub hl [] rfl) hR hS (by omega) (by omega)
      · have hw := hw.2 hc7
        refine lv_iload_n hx hb (xb_d D_H_element 9 rfl) rfl (lv_at hl 3 rfl) ?_
        refine lv_aload_n hx hb (xb_d D_H_element 10 rfl) rfl (lv_at hl 0 rfl) ?_
        obtain ⟨hk8, hw⟩ := hw
        refine xb_getI (C := R_Table) (T := F_Table) (N := 3) hx hb 11 1 hts fin_Table hown hR hk8 (by decide) rfl (by decide) rfl (hts _ m_0b0ad3d1) (fun _ h9 => h9) (xb_d D_H_element 11 rfl) ?_
        refine lv_icmp_lt (tgt := 36) hx hb (xb_d D_H_element 12 rfl) rfl (fun hc9 => ?_) (fun hc9 => ?_)
        · have hw := hw.1 hc9
          refine lv_aload_n hx hb (xb_d D_H_element 18 rfl) rfl (lv_at hl 1 rfl) ?_
          have hk1 : xb_k h2 x0 = 1 := hEh2.k hk1
          refine xb_getP (C := R_H) (T := F_H) (N := 11) hx hb 0 6 hts fin_H hown hR hk1 (by decide) rfl (by decide) rfl (hts _ m_3ac6c4ed) (fun _ h9 => h9) (xb_d D_H_element 19 rfl) ?_
          obtain ⟨b10, eb10, hw⟩ := hw
          refine xb_some eb10 ?_
          obtain ⟨hk11, hw⟩ := hw
          refine xb_getP (C := R_World) (T := F_World) (N := 16) hx hb 6 4 hts fin_World hown hR hk11 (by decide) rfl (by decide) rfl (hts _ m_f8210b1b) (fun _ h9 => h9) (xb_d D_H_element 20 rfl) ?_
          obtain ⟨b12, eb12, hw⟩ := hw
          refine xb_some eb12 ?_
          refine lv_aload_n hx hb (xb_d D_H_element 21 rfl) rfl (lv_at hl 0 rfl) ?_
          refine xb_getI (C := R_Table) (T := F_Table) (N := 3) hx hb 11 0 hts fin_Table hown hR hk8 (by decide) rfl (by decide) rfl (hts _ m_cdf2e386) (fun _ h9 => h9) (xb_d D_H_element 22 rfl) ?_
          refine lv_iload_n hx hb (xb_d D_H_element 23 rfl) rfl (lv_at hl 3 rfl) ?_
          refine lv_iadd hx hb (xb_d D_H_element 24 rfl) ?_
          refine lv_iconst (v := 0) hx hb (xb_d D_H_element 25 rfl) (by decide) ?_
          obtain ⟨hk13, hw⟩ := hw
          refine xb_call (D := D) (A := A) (σ := σ) (h := h2) (d := 2) (mc := 0) (ms := 0) (maxL := 3) (rest := []) (av := [.ref b12, .int ((xb_i h2 b6 0) + x2), .int 0]) (fun T hT X => by obtain ⟨cb, r1, r2, r3⟩ := xb_recv (ci := 1) hR rfl hk13 (by decide); exact xt_invV X hx hown (hts _ m_b0980f8b) (hts _ m_8e233096) (hts _ m_27eed10c) (xt_sigOf (hts _ m_ff1c70ae)) nm_Row_at (by rw [hT]; exact r1) r2 r3 (g := F0 m 50 ls [.int 0, .int ((xb_i h2 b6 0) + x2), .ref b12]) rfl (argsL := [.int ((xb_i h2 b6 0) + x2), .int 0]) (rest := []) rfl rfl (by rw [hb]; exact (xb_d D_H_element 26 rfl))) (ok_Row_at l hfl D A σ b12 ((xb_i h2 b6 0) + x2) 0 h2 _ hw) (hml.trans hl.1.symm) (by rw [hb]; exact (xb_d D_H_element 26 rfl)) (Nat.le_of_ble_eq_true rfl) (Nat.le_of_ble_eq_true rfl) (Nat.le_of_ble_eq_true rfl) (show (k + c4) + 0 ≤ MC by omega) (show (n + sc4) + 0 ≤ MS by omega) (xt_w1 hB.1 m_ff1c70ae) (xt_cdOf hB.1 m_ff1c70ae) (hts _ m_c1bef504) hB hR hS hA (fun vv h14 H locs hq hEh14 hR hS => ?_) (fun XX ax h14 H locs hq hEh14 hex hR hS => ?_)
          · obtain ⟨r15, rfl, hw⟩ := hq
            have hw := hw hEh14
            have hE := hE.tr hEh14
            refine W.eq (g2 := F0 m 53 ls [.int r15]) rfl ?_
            refine lv_istore hx hb (xb_d D_H_element 27 rfl) hl (by decide) rfl (fun ls hl => ?_)
            have hl : lv_has ls 6 [(4, .int r15), (3, .ref b6), (0, .ref x0), (1, .int x1), (2, .int x2)] := hl
            refine lv_iload hx hb (xb_d D_H_element 28 rfl) (lv_at hl 0 rfl) ?_
            refine lv_iconst (v := (-1)) hx hb (xb_d D_H_element 29 rfl) (by decide) ?_
            refine lv_icmp_ne (tgt := 63) hx hb (xb_d D_H_element 30 rfl) rfl (fun hc16 => ?_) (fun hc16 => ?_)
            · have hw := hw.1 hc16
              refine lv_iload hx hb (xb_d D_H_element 33 rfl) (lv_at hl 0 rfl) ?_
              refine lv_sipush (v := 8192) hx hb (xb_d D_H_element 34 rfl) (by decide) ?_
              refine lv_icmp_lt (tgt := 82) hx hb (xb_d D_H_element 35 rfl) rfl (fun hc17 => ?_) (fun hc17 => ?_)
              · have hw := hw.1 hc17
                refine lv_aload_n hx hb (xb_d D_H_element 42 rfl) rfl (lv_at hl 2 rfl) ?_
                have hk1 : xb_k h14 x0 = 1 := hEh14.k hk1
                refine xb_getP (C := R_H) (T := F_H) (N := 11) hx hb 0 6 hts fin_H hown hR hk1 (by decide) rfl (by decide) rfl (hts _ m_3ac6c4ed) (fun _ h9 => h9) (xb_d D_H_element 43 rfl) ?_
                obtain ⟨b18, eb18, hw⟩ := hw
                refine xb_some eb18 ?_
                refine lv_iload hx hb (xb_d D_H_element 44 rfl) (lv_at hl 0 rfl) ?_
                obtain ⟨hk19, hw⟩ := hw
                refine xb_call (D := D) (A := A) (σ := σ) (h := h14) (d := 3) (mc := 0) (ms := 0) (maxL := 2) (rest := []) (av := [.ref b18, .int r15]) (fun T hT X => by obtain ⟨cb, r1, r2, r3⟩ := xb_recv (ci := 6) hR rfl hk19 (by decide); exact xt_invV X hx hown (hts _ m_d56dd52f) (hts _ m_905f65dc) (hts _ m_94d0d6f7) (xt_sigOf (hts _ m_267eaad3)) nm_World_ownerOf (by rw [hT]; exact r1) r2 r3 (g := F0 m 88 ls [.int r15, .ref b18]) rfl (argsL := [.int r15]) (rest := []) rfl rfl (by rw [hb]; exact (xb_d D_H_element 45 rfl))) (ok_World_ownerOf l hfl D A σ b18 r15 h14 _ hw) (hml.trans hl.1.symm) (by rw [hb]; exact (xb_d D_H_element 45 rfl)) (Nat.le_of_ble_eq_true rfl) (Nat.le_of_ble_eq_true rfl) (Nat.le_of_ble_eq_true rfl) (show (k + c4) + 0 ≤ MC by omega) (show (n + sc4) + 0 ≤ MS by omega) (xt_w1 hB.1 m_267eaad3) (xt_cdOf hB.1 m_267eaad3) (hts _ m_4534b440) hB hR hS hA (fun vv h20 H locs hq hEh20 hR hS => ?_) (fun XX ax h20 H locs hq hEh20 hex hR hS => ?_)
                · obtain ⟨r21, rfl, hw⟩ := hq
                  have hw := hw hEh20
                  have hE := hE.tr hEh20
                  refine W.eq (g2 := F0 m 91 ls [.ref r21]) rfl ?_
                  refine lv_astore hx hb (xb_d D_H_element 46 rfl) hl (by decide) rfl (fun ls hl => ?_)
                  have hl : lv_has ls 6 [(5, .ref r21), (4, .int r15), (3, .ref b6), (0, .ref x0), (1, .int x1), (2, .int x2)] := hl
                  refine lv_ldc (v := 65536) hx hb hown (hts _ m_1c5b51e6) (xb_d D_H_element 47 rfl) ?_
                  refine lv_aload hx hb (xb_d D_H_element 48 rfl) (lv_at hl 0 rfl) ?_
                  obtain ⟨hk22, hw⟩ := hw
                  refine xb_getI (C := R_Instance) (T := F_Instance) (N := 8) hx hb 10 0 hts fin_Instance hown hR hk22 (by decide) rfl (by decide) rfl (hts _ m_20b89c04) (fun _ h9 => h9) (xb_d D_H_element 49 rfl) ?_
                  refine lv_imul hx hb (xb_d D_H_element 50 rfl) ?_
                  refine lv_aload hx hb (xb_d D_H_element 51 rfl) (lv_at hl 0 rfl) ?_
                  refine lv_iload hx hb (xb_d D_H_element 52 rfl) (lv_at hl 1 rfl) ?_
                  refine xb_call (D := D) (A := A) (σ := σ) (h := h20) (d := 2) (mc := 0) (ms := 0) (maxL := 2) (rest := [.int (65536 * (xb_i h20 r21 0))]) (av := [.ref r21, .int r15]) (fun T hT X => by obtain ⟨cb, r1, r2, r3⟩ := xb_recv (ci := 10) hR rfl hk22 (by decide); exact xt_invV X hx hown (hts _ m_32fb6afe) (hts _ m_5272c608) (hts _ m_455039e8) (xt_sigOf (hts _ m_bf66480a)) nm_Instance_numberOf (by rw [hT]; exact r1) r2 r3 (g := F0 m 105 ls [.int r15, .ref r21, .int (65536 * (xb_i h20 r21 0))]) rfl (argsL := [.int r15]) (rest := [.int (65536 * (xb_i h20 r21 0))]) rfl rfl (by rw [hb]; exact (xb_d D_H_element 53 rfl))) (ok_Instance_numberOf l hfl D A σ r21 r15 h20 _ hw) (hml.trans hl.1.symm) (by rw [hb]; exact (xb_d D_H_element 53 rfl)) (Nat.le_of_ble_eq_true rfl) (Nat.le_of_ble_eq_true rfl) (Nat.le_of_ble_eq_true rfl) (show (k + c4) + 0 ≤ MC by omega) (show (n + sc4) + 0 ≤ MS by omega) (xt_w1 hB.1 m_bf66480a) (xt_cdOf hB.1 m_bf66480a) (hts _ m_7a4e907b) hB hR hS hA (fun vv h23 H locs hq hEh23 hR hS => ?_) (fun XX ax h23 H locs hq hEh23 hex hR hS => ?_)
                  · obtain ⟨r24, rfl, hw⟩ := hq
                    have hw := hw hEh23
                    have hE := hE.tr hEh23
                    refine W.eq (g2 := F0 m 108 ls [.int r24, .int (65536 * (xb_i h20 r21 0))]) rfl ?_
                    refine lv_iadd hx hb (xb_d D_H_element 54 rfl) ?_
                    exact xb_iret hx hb hr hlocks (show (k + c4) ≤ MC by omega) (show (n + sc4) ≤ MS by omega) hE hR hS (xb_d D_H_element 55 rfl) hw
                  · exact False.elim hq
                · exact False.elim hq
              · have hw := hw.2 hc17
                refine lv_ldcw (v := 2147418112) hx hb hown (hts _ m_0e104814) (xb_d D_H_element 36 rfl) ?_
                refine lv_iload hx hb (xb_d D_H_element 37 rfl) (lv_at hl 0 rfl) ?_
                refine lv_sipush (v := 8192) hx hb (xb_d D_H_element 38 rfl) (by decide) ?_
                refine lv_isub hx hb (xb_d D_H_element 39 rfl) ?_
                refine lv_iadd hx hb (xb_d D_H_element 40 rfl) ?_
                exact xb_iret hx hb hr hlocks (show (k + c4) ≤ MC by omega) (show (n + sc4) ≤ MS by omega) hE hR hS (xb_d D_H_element 41 rfl) hw
            · have hw := hw.2 hc16
              refine lv_iconst (v := (-1)) hx hb (xb_d D_H_element 31 rfl) (by decide) ?_
              exact xb_iret hx hb hr hlocks (show (k + c4) ≤ MC by omega) (show (n + sc4) ≤ MS by omega) hE hR hS (xb_d D_H_element 32 rfl) hw
          · exact False.elim hq
        · have hw := hw.2 hc9
          exact am_H_element_L25 l hfl D A σ MC MS h0 Qr Qt h2 (bc - c4) (bs - sc4) hw p e s m args below meth c hC H locs ls (k + c4) (n + sc4) hE (lv_sub hl [] rfl) hR hS (by omega) (by omega)
  · exact xb_pass hlocks (fun x hx9 => by rw [htab] at hx9; first | cases hx9 | (simp [tableOf] at hx9; rcases hx9 with rfl | rfl | rfl <;> decide)) (show (k + c4) ≤ MC by omega) (show (n + sc4) ≤ MS by omega) (hE.tr hEh2) hR hS hex hq

theorem m_b0843a70 : (.methodLink "StackHost" 224 y_H_refuseExportBeyond : Cond) ∈ xt_tbl := xt_in (xt_t7 (List.mem_of_getElem? (i := 153) (by decide +kernel))) (by decide +kernel)
theorem m_12222290 : (.instanceMethod y_H_refuseExportBeyond : Cond) ∈ xt_tbl := xt_in (xt_t7 (List.mem_of_getElem? (i := 155) (by decide +kernel))) (by decide +kernel)
theorem m_e3665496 : (.selects "StackHost" y_H_refuseExportBeyond y_H_refuseExportBeyond : Cond) ∈ xt_tbl := xt_in (xt_v6 (q := (⟨"StackHost", "refuseExportBeyond", "(LStackHost$StackModule;I)V"⟩, 11)) (List.mem_of_getElem? (i := 3) (by decide +kernel))) (by decide +kernel)
theorem m_e263622d : (.code y_H_refuseExportBeyond b_H_refuseExportBeyond 3 none : Cond) ∈ xt_tbl := xt_in (xt_t7 (List.mem_of_getElem? (i := 156) (by decide +kernel))) (by decide +kernel)
theorem m_813f0fde : (.methodLink "StackHost" 228 y_StackModule_typeOf : Cond) ∈ xt_tbl := xt_in (xt_t7 (List.mem_of_getElem? (i := 158) (by decide +kernel))) (by decide +kernel)
theorem m_eb5729e5 : (.instanceMethod y_StackModule_typeOf : Cond) ∈ xt_tbl := xt_in (xt_t4 (List.mem_of_getElem? (i := 156) (by decide +kernel))) (by decide +kernel)
theorem m_9cf0d8be : (.selects "StackHost$StackModule" y_StackModule_typeOf y_StackModule_typeOf : Cond) ∈ xt_tbl := xt_in (xt_t4 (List.mem_of_getElem? (i := 157) (by decide +kernel))) (by decide +kernel)
theorem m_42e2443a : (.code y_StackModule_typeOf b_StackModule_typeOf 2 (some .int) : Cond) ∈ xt_tbl := xt_in (xt_t4 (List.mem_of_getElem? (i := 158) (by decide +kernel))) (by decide +kernel)
theorem m_3ab16739 : (.methodLink "StackHost" 231 y_StackModule_parameters : Cond) ∈ xt_tbl := xt_in (xt_t7 (List.mem_of_getElem? (i := 159) (by decide +kernel))) (by decide +kernel)
theorem m_aa97372f : (.instanceMethod y_StackModule_parameters : Cond) ∈ xt_tbl := xt_in (xt_t4 (List.mem_of_getElem? (i := 160) (by decide +kernel))) (by decide +kernel)
theorem m_8160d9b3 : (.selects "StackHost$StackModule" y_StackModule_parameters y_StackModule_parameters : Cond) ∈ xt_tbl := xt_in (xt_t4 (List.mem_of_getElem? (i := 161) (by decide +kernel))) (by decide +kernel)
theorem m_8621e59b : (.code y_StackModule_parameters b_StackModule_parameters 2 (some .int) : Cond) ∈ xt_tbl := xt_in (xt_t4 (List.mem_of_getElem? (i := 162) (by decide +kernel))) (by decide +kernel)
theorem m_e5532862 : (.methodLink "StackHost" 234 y_StackModule_hasResult : Cond) ∈ xt_tbl := xt_in (xt_t7 (List.mem_of_getElem? (i := 160) (by decide +kernel))) (by decide +kernel)
theorem m_00587e6f : (.instanceMethod y_StackModule_hasResult : Cond) ∈ xt_tbl := xt_in (xt_t4 (List.mem_of_getElem? (i := 164) (by decide +kernel))) (by decide +kernel)
theorem m_d605b1a5 : (.selects "StackHost$StackModule" y_StackModule_hasResult y_StackModule_hasResult : Cond) ∈ xt_tbl := xt_in (xt_t4 (List.mem_of_getElem? (i := 165) (by decide +kernel))) (by decide +kernel)
theorem m_ac93cd0b : (.code y_StackModule_hasResult b_StackModule_hasResult 2 (some .boolean) : Cond) ∈ xt_tbl := xt_in (xt_t4 (List.mem_of_getElem? (i := 166) (by decide +kernel))) (by decide +kernel)
theorem nm_H_refuseExportBeyond : xt_nm y_H_refuseExportBeyond 2 := ⟨by decide +kernel, by decide +kernel⟩
theorem nm_StackModule_typeOf : xt_nm y_StackModule_typeOf 1 := ⟨by decide +kernel, by decide +kernel⟩
theorem nm_StackModule_parameters : xt_nm y_StackModule_parameters 1 := ⟨by decide +kernel, by decide +kernel⟩
theorem nm_StackModule_hasResult : xt_nm y_StackModule_hasResult 1 := ⟨by decide +kernel, by decide +kernel⟩
set_option maxRecDepth 100000 in
def T_H_exported : List (Nat × Instr × Nat) := [(0, .aload_n 0, 1), (1, .iload_n 1, 1), (2, .invokevirtual 200, 3), (5, .getfield 216, 3), (8, .astore 4, 2), (10, .aload_n 0, 1), (11, .aload 4, 2), (13, .iload_n 2, 1), (14, .invokevirtual 224, 3), (17, .aload 4, 2), (19, .getfield 148, 3), (22, .iload_n 2, 1), (23, .iconst 1, 1), (24, .invokevirtual 166, 3), (27, .istore 5, 2), (29, .aload 4, 2), (31, .getfield 148, 3), (34, .iload_n 2, 1), (35, .iconst 2, 1), (36, .invokevirtual 166, 3), (39, .istore 6, 2), (41, .iload_n 3, 1), (42, .tableswitch 84 0 3 #[30, 33, 36, 58], 30), (72, .iload 5, 2), (74, .ireturn, 1), (75, .iload 6, 2), (77, .ireturn, 1), (78, .iload 5, 2), (80, .ifCond .ne 18, 3), (83, .aload 4, 2), (85, .aload 4, 2), (87, .iload 6, 2), (89, .invokevirtual 228, 3), (92, .invokevirtual 231, 3), (95, .goto 4, 3), (98, .iconst 0, 1), (99, .ireturn, 1), (100, .iload 5, 2), (102, .ifCond .ne 22, 3), (105, .aload 4, 2), (107, .aload 4, 2), (109, .iload 6, 2), (111, .invokevirtual 228, 3), (114, .invokevirtual 234, 3), (117, .ifCond .eq 7, 3), (120, .iconst 1, 1), (121, .goto 4, 3), (124, .iconst 0, 1), (125, .ireturn, 1), (126, .new 117, 3), (129, .dup, 1), (130, .ldc 238, 2), (132, .invokespecial 121, 3), (135, .athrow, 1)]
theorem D_H_exported : ∀ q ∈ T_H_exported, decode b_H_exported q.1 = .ok (q.2.1, q.2.2) := by decide +kernel
def w_H_exported_L125 (Qr : Int32 → xb_H → Prop) (Qt : String → xb_H → Prop) (y0 : Int32) (h : xb_H) (bc : Nat) (bs : Nat) : Prop :=
    Qr y0 h

def w_H_exported_L124 (Qr : Int32 → xb_H → Prop) (Qt : String → xb_H → Prop) (h : xb_H) (bc : Nat) (bs : Nat) : Prop :=
    w_H_exported_L125 Qr Qt 0 h bc bs

def w_H_exported_L99 (Qr : Int32 → xb_H → Prop) (Qt : String → xb_H → Prop) (y0 : Int32) (h : xb_H) (bc : Nat) (bs : Nat) : Prop :=
    Qr y0 h

def w_H_exported (x0 : Nat) (x1 : Int32) (x2 : Int32) (x3 : Int32) (h : xb_H) (bc : Nat) (bs : Nat) (Qr : Int32 → xb_H → Prop) (Qt : String → xb_H → Prop) : Prop :=
    xb_k h x0 = 1 ∧ ∃ c4 sc4 : Nat, c4 ≤ bc ∧ sc4 ≤ bs ∧ w_H_instanceNumbered x0 x1 h c4 sc4 (fun (r3 : Nat) (h2 : xb_H) => xb_ext h h2 → xb_k h2 r3 = 11 ∧ ∃ b6 : Nat, (xb_r h2 r3 1) = some b6 ∧ ∃ c9 sc9 : Nat, c9 ≤ (bc - c4) ∧ sc9 ≤ (bs - sc4) ∧ w_H_refuseExportBeyond x0 b6 x2 h2 c9 sc9 (fun (h7 : xb_H) => xb_ext h2 h7 → xb_k h7 b6 = 3 ∧ ∃ b11 : Nat, (xb_r h7 b6 8) = some b11 ∧ xb_k h7 b11 = 2 ∧ w_Row_at b11 x2 1 h7 (fun (r14 : Int32) (h13 : xb_H) => xb_ext h7 h13 → ∃ b15 : Nat, (xb_r h13 b6 8) = some b15 ∧ xb_k h13 b15 = 2 ∧ w_Row_at b15 x2 2 h13 (fun (r18 : Int32) (h17 : xb_H) => xb_ext h13 h17 → ((x3 = 0 → Qr r14 h17) ∧ (x3 = 1 → Qr r18 h17) ∧ (x3 = 2 → ((¬ r14 = (0 : Int32) → w_H_exported_L99 Qr Qt 0 h17 ((bc - c4) - c9) ((bs - sc4) - sc9)) ∧ (r14 = (0 : Int32) → w_StackModule_typeOf b6 r18 h17 (fun (r24 : Int32) (h23 : xb_H) => xb_ext h17 h23 → w_StackModule_parameters b6 r24 h23 (fun (r26 : Int32) (h25 : xb_H) => xb_ext h23 h25 → w_H_exported_L99 Qr Qt r26 h25 ((bc - c4) - c9) ((bs - sc4) - sc9)))))) ∧ (x3 = 3 → ((¬ r14 = (0 : Int32) → w_H_exported_L124 Qr Qt h17 ((bc - c4) - c9) ((bs - sc4) - sc9)) ∧ (r14 = (0 : Int32) → w_StackModule_typeOf b6 r18 h17 (fun (r30 : Int32) (h29 : xb_H) => xb_ext h17 h29 → w_StackModule_hasResult b6 r30 h29 (fun (r32 : Int32) (h31 : xb_H) => xb_ext h29 h31 → ((r32 = (0 : Int32) → w_H_exported_L124 Qr Qt h31 ((bc - c4) - c9) ((bs - sc4) - sc9)) ∧ (¬ r32 = (0 : Int32) → w_H_exported_L125 Qr Qt 1 h31 ((bc - c4) - c9) ((bs - sc4) - sc9)))))))) ∧ (¬ x3 = 0 → ¬ x3 = 1 → ¬ x3 = 2 → ¬ x3 = 3 → 1 ≤ ((bc - c4) - c9) ∧ 6 ≤ ((bs - sc4) - sc9) ∧ Qt "java/lang/IndexOutOfBoundsException" h17))))) Qt) Qt

set_option maxHeartbeats 4000000 in
set_option maxRecDepth 100000 in
theorem am_H_exported_L125 (l : Launch) (hfl : l.flags = pinnedFlags ++ [noTraceFlag]) (D : va_G) (A : Nat → Prop) (σ MC MS : Nat) (h0 : xb_H) (Qr : Int32 → xb_H → Prop) (Qt : String → xb_H → Prop) (y0 : Int32) (h : xb_H) (bc : Nat) (bs : Nat) (hw : w_H_exported_L125 Qr Qt y0 h bc bs) : xb_am l D A σ 4 MC MS h0 (fun v h => ∃ r, v = some (.int r) ∧ Qr r h) Qt y_H_exported.cls y_H_exported.name b_H_exported 7 ([] : List ExceptionTableEntry) (some .int) 125 [] [.int y0] h bc bs := by
  unfold w_H_exported_L125 at hw
  intro p e s m args below meth c hC H locs ls k n hE hl hR hS hk hn
  obtain ⟨hx, hb, hown, hlocks, htab, hml, hr, hB, hA, hnm⟩ := id hC
  have hts := hB.1.1.at args
  exact xb_iret hx hb hr hlocks (show k ≤ MC by omega) (show n ≤ MS by omega) hE hR hS (xb_d D_H_exported 48 rfl) hw

set_option maxHeartbeats 4000000 in
set_option maxRecDepth 100000 in
theorem am_H_exported_L124 (l : Launch) (hfl : l.flags = pinnedFlags ++ [noTraceFlag]) (D : va_G) (A : Nat → Prop) (σ MC MS : Nat) (h0 : xb_H) (Qr : Int32 → xb_H → Prop) (Qt : String → xb_H → Prop) (h : xb_H) (bc : Nat) (bs : Nat) (hw : w_H_exported_L124 Qr Qt h bc bs) : xb_am l D A σ 4 MC MS h0 (fun v h => ∃ r, v = some (.int r) ∧ Qr r h) Qt y_H_exported.cls y_H_exported.name b_H_exported 7 ([] : List ExceptionTableEntry) (some .int) 124 [] [] h bc bs := by
  unfold w_H_exported_L124 at hw
  intro p e s m args below meth c hC H locs ls k n hE hl hR hS hk hn
  obtain ⟨hx, hb, hown, hlocks, htab, hml, hr, hB, hA, hnm⟩ := id hC
  have hts := hB.1.1.at args
  refine lv_iconst (v := 0) hx hb (xb_d D_H_exported 47 rfl) (by decide) ?_
  exact am_H_exported_L125 l hfl D A σ MC MS h0 Qr Qt 0 h bc bs hw p e s m args below meth c hC H locs ls k n hE (lv_sub hl [] rfl) hR hS (by omega) (by omega)

set_option maxHeartbeats 4000000 in
set_option maxRecDepth 100000 in
theorem am_H_exported_L99 (l : Launch) (hfl : l.flags = pinnedFlags ++ [noTraceFlag]) (D : va_G) (A : Nat → Prop) (σ MC MS : Nat) (h0 : xb_H) (Qr : Int32 → xb_H → Prop) (Qt : String → xb_H → Prop) (y0 : Int32) (h : xb_H) (bc : Nat) (bs : Nat) (hw : w_H_exported_L99 Qr Qt y0 h bc bs) : xb_am l D A σ 4 MC MS h0 (fun v h => ∃ r, v = some (.int r) ∧ Qr r h) Qt y_H_exported.cls y_H_exported.name b_H_exported 7 ([] : List ExceptionTableEntry) (some .int) 99 [] [.int y0] h bc bs := by
  unfold w_H_exported_L99 at hw
  intro p e s m args below meth c hC H locs ls k n hE hl hR hS hk hn
  obtain ⟨hx, hb, hown, hlocks, htab, hml, hr, hB, hA, hnm⟩ := id hC
  have hts := hB.1.1.at args
  exact xb_iret hx hb hr hlocks (show k ≤ MC by omega) (show n ≤ MS by omega) hE hR hS (xb_d D_H_exported 36 rfl) hw

set_option maxHeartbeats 4000000 in
set_option maxRecDepth 100000 in
theorem ok_H_exported (l : Launch) (hfl : l.flags = pinnedFlags ++ [noTraceFlag]) (D : va_G) (A : Nat → Prop) (σ : Nat) (x0 : Nat) (x1 : Int32) (x2 : Int32) (x3 : Int32) (h : xb_H) (bc : Nat) (bs : Nat) (Qr : Int32 → xb_H → Prop) (Qt : String → xb_H → Prop) (hw : w_H_exported x0 x1 x2 x3 h bc bs Qr Qt) : xt_Met l y_H_exported [.code y_H_exported b_H_exported 7 (some .int)] (xb_rm 4 bc bs) (xb_Pc D A σ h [.ref x0, .int x1, .int x2, .int x3]) (xb_Qc D A h (fun v h => ∃ r, v = some (.int r) ∧ Qr r h) Qt) bc bs A := by
  refine xb_ofAm (cc := b_H_exported) (by decide) (Nat.le_of_ble_eq_true rfl) ?_
  unfold w_H_exported at hw
  show xb_am l D A σ 4 bc bs h (fun v h => ∃ r, v = some (.int r) ∧ Qr r h) Qt y_H_exported.cls y_H_exported.name b_H_exported 7 ([] : List ExceptionTableEntry) (some .int) 0 [(0, .ref x0), (1, .int x1), (2, .int x2), (3, .int x3)] [] h bc bs
  obtain ⟨MC, hMC⟩ : ∃ x, x = bc := ⟨_, rfl⟩
  obtain ⟨MS, hMS⟩ : ∃ x, x = bs := ⟨_, rfl⟩
  rw [show xb_am l D A σ 4 bc bs = xb_am l D A σ 4 MC MS by rw [hMC, hMS]]
  obtain ⟨h0, hh0⟩ : ∃ x, x = h := ⟨_, rfl⟩
  rw [show xb_am l D A σ 4 MC MS h = xb_am l D A σ 4 MC MS h0 by rw [hh0]]
  intro p e s m args below meth c hC H locs ls k n hE hl hR hS hk hn
  obtain ⟨hx, hb, hown, hlocks, htab, hml, hr, hB, hA, hnm⟩ := id hC
  have hts := hB.1.1.at args
  refine lv_aload_n hx hb (xb_d D_H_exported 0 rfl) rfl (lv_at hl 0 rfl) ?_
  refine lv_iload_n hx hb (xb_d D_H_exported 1 rfl) rfl (lv_at hl 1 rfl) ?_
  obtain ⟨hk1, hw⟩ := hw
  obtain ⟨c4, sc4, hlc4, hlsc4, hw⟩ := hw
  refine xb_call (D := D) (A := A) (σ := σ) (h := h) (d := 2) (mc := c4) (ms := sc4) (maxL := 2) (rest := []) (av := [.ref x0, .int x1]) (fun T hT X => by obtain ⟨cb, r1, r2, r3⟩ := xb_recv (ci := 0) hR rfl hk1 (by decide); exact xt_invV X hx hown (hts _ m_63e9a525) (hts _ m_93abae91) (hts _ m_f44e4f6a) (xt_sigOf (hts _ m_925de4f3)) nm_H_instanceNumbered (by rw [hT]; exact r1) r2 r3 (g := F0 m 2 ls [.int x1, .ref x0]) rfl (argsL := [.int x1]) (rest := []) rfl rfl (by rw [hb]; exact (xb_d D_H_exported 2 rfl))) (ok_H_instanceNumbered l hfl D A σ x0 x1 h c4 sc4 _ _ hw) (hml.trans hl.1.symm) (by rw [hb]; exact (xb_d D_H_exported 2 rfl)) (Nat.le_of_ble_eq_true rfl) (Nat.le_of_ble_eq_true rfl) (Nat.le_of_ble_eq_true rfl) (show k + c4 ≤ MC by omega) (show n + sc4 ≤ MS by omega) (xt_w1 hB.1 m_925de4f3) (xt_cdOf hB.1 m_925de4f3) (hts _ m_ba0734f5) hB hR hS hA (fun vv h2 H locs hq hEh2 hR hS => ?_) (fun XX ax h2 H locs hq hEh2 hex hR hS => ?_)
  · obtain ⟨r3, rfl, hw⟩ := hq
    have hw := hw hEh2
    have hE := hE.tr hEh2
    refine W.eq (g2 := F0 m 5 ls [.ref r3]) rfl ?_
    obtain ⟨hk5, hw⟩ := hw
    refine xb_getP (C := R_Instance) (T := F_Instance) (N := 8) hx hb 10 1 hts fin_Instance hown hR hk5 (by decide) rfl (by decide) rfl (hts _ m_105e0328) (fun _ h9 => h9) (xb_d D_H_exported 3 rfl) ?_
    obtain ⟨b6, eb6, hw⟩ := hw
    refine xb_some eb6 ?_
    refine lv_astore hx hb (xb_d D_H_exported 4 rfl) hl (by decide) rfl (fun ls hl => ?_)
    have hl : lv_has ls 7 [(4, .ref b6), (0, .ref x0), (1, .int x1), (2, .int x2), (3, .int x3)] := hl
    refine lv_aload_n hx hb (xb_d D_H_exported 5 rfl) rfl (lv_at hl 1 rfl) ?_
    refine lv_aload hx hb (xb_d D_H_exported 6 rfl) (lv_at hl 0 rfl) ?_
    refine lv_iload_n hx hb (xb_d D_H_exported 7 rfl) rfl (lv_at hl 3 rfl) ?_
    have hk1 : xb_k h2 x0 = 1 := hEh2.k hk1
    obtain ⟨c9, sc9, hlc9, hlsc9, hw⟩ := hw
    refine xb_call (D := D) (A := A) (σ := σ) (h := h2) (d := 3) (mc := c9) (ms := sc9) (maxL := 3) (rest := []) (av := [.ref x0, .ref b6, .int x2]) (fun T hT X => by obtain ⟨cb, r1, r2, r3⟩ := xb_recv (ci := 0) hR rfl hk1 (by decide); exact xt_invV X hx hown (hts _ m_b0843a70) (hts _ m_12222290) (hts _ m_e3665496) (xt_sigOf (hts _ m_e263622d)) nm_H_refuseExportBeyond (by rw [hT]; exact r1) r2 r3 (g := F0 m 14 ls [.int x2, .ref b6, .ref x0]) rfl (argsL := [.ref b6, .int x2]) (rest := []) rfl rfl (by rw [hb]; exact (xb_d D_H_exported 8 rfl))) (ok_H_refuseExportBeyond l hfl D A σ x0 b6 x2 h2 c9 sc9 _ _ hw) (hml.trans hl.1.symm) (by rw [hb]; exact (xb_d D_H_exported 8 rfl)) (Nat.le_of_ble_eq_true rfl) (Nat.le_of_ble_eq_true rfl) (Nat.le_of_ble_eq_true rfl) (show (k + c4) + c9 ≤ MC by omega) (show (n + sc4) + sc9 ≤ MS by omega) (xt_w1 hB.1 m_e263622d) (xt_cdOf hB.1 m_e263622d) (hts _ m_ba0734f5) hB hR hS hA (fun vv h7 H locs hq hEh7 hR hS => ?_) (fun XX ax h7 H locs hq hEh7 hex hR hS => ?_)
    · obtain ⟨rfl, hw⟩ := hq
      have hw := hw hEh7
      have hE := hE.tr hEh7
      refine W.eq (g2 := F0 m 17 ls []) rfl ?_
      refine lv_aload hx hb (xb_d D_H_exported 9 rfl) (lv_at hl 0 rfl) ?_
      obtain ⟨hk10, hw⟩ := hw
      refine xb_getP (C := R_StackModule) (T := F_StackModule) (N := 19) hx hb 2 8 hts fin_StackModule hown hR hk10 (by decide) rfl (by decide) rfl (hts _ m_47aa209b) (fun _ h9 => h9) (xb_d D_H_exported 10 rfl) ?_
      obtain ⟨b11, eb11, hw⟩ := hw
      refine xb_some eb11 ?_
      refine lv_iload_n hx hb (xb_d D_H_exported 11 rfl) rfl (lv_at hl 3 rfl) ?_
      refine lv_iconst (v := 1) hx hb (xb_d D_H_exported 12 rfl) (by decide) ?_
      obtain ⟨hk12, hw⟩ := hw
      refine xb_call (D := D) (A := A) (σ := σ) (h := h7) (d := 2) (mc := 0) (ms := 0) (maxL := 3) (rest := []) (av := [.ref b11, .int x2, .int 1]) (fun T hT X => by obtain ⟨cb, r1, r2, r3⟩ := xb_recv (ci := 1) hR rfl hk12 (by decide); exact xt_invV X hx hown (hts _ m_b0980f8b) (hts _ m_8e233096) (hts _ m_27eed10c) (xt_sigOf (hts _ m_ff1c70ae)) nm_Row_at (by rw [hT]; exact r1) r2 r3 (g := F0 m 24 ls [.int 1, .int x2, .ref b11]) rfl (argsL := [.int x2, .int 1]) (rest := []) rfl rfl (by rw [hb]; exact (xb_d D_H_exported 13 rfl))) (ok_Row_at l hfl D A σ b11 x2 1 h7 _ hw) (hml.trans hl.1.symm) (by rw [hb]; exact (xb_d D_H_exported 13 rfl)) (Nat.le_of_ble_eq_true rfl) (Nat.le_of_ble_eq_true rfl) (Nat.le_of_ble_eq_true rfl) (show ((k + c4) + c9) + 0 ≤ MC by omega) (show ((n + sc4) + sc9) + 0 ≤ MS by omega) (xt_w1 hB.1 m_ff1c70ae) (xt_cdOf hB.1 m_ff1c70ae) (hts _ m_c1bef504) hB hR hS hA (fun vv h13 H locs hq hEh13 hR hS => ?_) (fun XX ax h13 H locs hq hEh13 hex hR hS => ?_)
      · obtain ⟨r14, rfl, hw⟩ := hq
        have hw := hw hEh13
        have hE := hE.tr hEh13
        refine W.eq (g2 := F0 m 27 ls [.int r14]) rfl ?_
        refine lv_istore hx hb (xb_d D_H_exported 14 rfl) hl (by decide) rfl (fun ls hl => ?_)
        have hl : lv_has ls 7 [(5, .int r14), (4, .ref b6), (0, .ref x0), (1, .int x1), (2, .int x2), (3, .int x3)] := hl
        refine lv_aload hx hb (xb_d D_H_exported 15 rfl) (lv_at hl 1 rfl) ?_
        have hk10 : xb_k h13 b6 = 3 := hEh13.k hk10
        refine xb_getP (C := R_StackModule) (T := F_StackModule) (N := 19) hx hb 2 8 hts fin_StackModule hown hR hk10 (by decide) rfl (by decide) rfl (hts _ m_47aa209b) (fun _ h9 => h9) (xb_d D_H_exported 16 rfl) ?_
        obtain ⟨b15, eb15, hw⟩ := hw
        refine xb_some eb15 ?_
        refine lv_iload_n hx hb (xb_d D_H_exported 17 rfl) rfl (lv_at hl 4 rfl) ?_
        refine lv_iconst (v := 2) hx hb (xb_d D_H_exported 18 rfl) (by decide) ?_
        obtain ⟨hk16, hw⟩ := hw
        refine xb_call (D := D) (A := A) (σ := σ) (h := h13) (d := 2) (mc := 0) (ms := 0) (maxL := 3) (rest := []) (av := [.ref b15, .int x2, .int 2]) (fun T hT X => by obtain ⟨cb, r1, r2, r3⟩ := xb_recv (ci := 1) hR rfl hk16 (by decide); exact xt_invV X hx hown (hts _ m_b0980f8b) (hts _ m_8e233096) (hts _ m_27eed10c) (xt_sigOf (hts _ m_ff1c70ae)) nm_Row_at (by rw [hT]; exact r1) r2 r3 (g := F0 m 36 ls [.int 2, .int x2, .ref b15]) rfl (argsL := [.int x2, .int 2]) (rest := []) rfl rfl (by rw [hb]; exact (xb_d D_H_exported 19 rfl))) (ok_Row_at l hfl D A σ b15 x2 2 h13 _ hw) (hml.trans hl.1.symm) (by rw [hb]; exact (xb_d D_H_exported 19 rfl)) (Nat.le_of_ble_eq_true rfl) (Nat.le_of_ble_eq_true rfl) (Nat.le_of_ble_eq_true rfl) (show ((k + c4) + c9) + 0 ≤ MC by omega) (show ((n + sc4) + sc9) + 0 ≤ MS by omega) (xt_w1 hB.1 m_ff1c70ae) (xt_cdOf hB.1 m_ff1c70ae) (hts _ m_c1bef504) hB hR hS hA (fun vv h17 H locs hq hEh17 hR hS => ?_) (fun XX ax h17 H locs hq hEh17 hex hR hS => ?_)
        · obtain ⟨r18, rfl, hw⟩ := hq
          have hw := hw hEh17
          have hE := hE.tr hEh17
          refine W.eq (g2 := F0 m 39 ls [.int r18]) rfl ?_
          refine lv_istore hx hb (xb_d D_H_exported 20 rfl) hl (by decide) rfl (fun ls hl => ?_)
          have hl : lv_has ls 7 [(6, .int r18), (5, .int r14), (4, .ref b6), (0, .ref x0), (1, .int x1), (2, .int x2), (3, .int x3)] := hl
          refine lv_iload_n hx hb (xb_d D_H_exported 21 rfl) rfl (lv_at hl 6 rfl) ?_
          by_cases hc19 : x3 = 0
          · have hw := hw.1 hc19
            refine xt_numi hc19 ?_
            refine lv_tableIn (off := 30) (tgt := 72) hx hb (xb_d D_H_exported 22 rfl) (by decide +kernel) (by decide +kernel) (by decide +kernel) (by decide) ?_
            refine lv_iload hx hb (xb_d D_H_exported 23 rfl) (lv_at hl 1 rfl) ?_
            exact xb_iret hx hb hr hlocks (show ((k + c4) + c9) ≤ MC by omega) (show ((n + sc4) + sc9) ≤ MS by omega) hE hR hS (xb_d D_H_exported 24 rfl) hw
          have hw := hw.2
          by_cases hc20 : x3 = 1
          · have hw := hw.1 hc20
            refine xt_numi hc20 ?_
            refine lv_tableIn (off := 33) (tgt := 75) hx hb (xb_d D_H_exported 22 rfl) (by decide +kernel) (by decide +kernel) (by decide +kernel) (by decide) ?_
            refine lv_iload hx hb (xb_d D_H_exported 25 rfl) (lv_at hl 0 rfl) ?_
            exact xb_iret hx hb hr hlocks (show ((k + c4) + c9) ≤ MC by omega) (show ((n + sc4) + sc9) ≤ MS by omega) hE hR hS (xb_d D_H_exported 26 rfl) hw
          have hw := hw.2
          by_cases hc21 : x3 = 2
          · have hw := hw.1 hc21
            refine xt_numi hc21 ?_
            refine lv_tableIn (off := 36) (tgt := 78) hx hb (xb_d D_H_exported 22 rfl) (by decide +kernel) (by decide +kernel) (by decide +kernel) (by decide) ?_
            refine lv_iload hx hb (xb_d D_H_exported 27 rfl) (lv_at hl 1 rfl) ?_
            refine lv_if_ne (tgt := 98) hx hb (xb_d D_H_exported 28 rfl) rfl (fun hc22 => ?_) (fun hc22 => ?_)
            · have hw := hw.1 hc22
              refine lv_iconst (v := 0) hx hb (xb_d D_H_exported 35 rfl) (by decide) ?_
              exact am_H_exported_L99 l hfl D A σ MC MS h0 Qr Qt 0 h17 ((bc - c4) - c9) ((bs - sc4) - sc9) hw p e s m args below meth c hC H locs ls ((k + c4) + c9) ((n + sc4) + sc9) hE (lv_sub hl [] rfl) hR hS (by omega) (by omega)
            · have hw := hw.2 hc22
              refine lv_aload hx hb (xb_d D_H_exported 29 rfl) (lv_at hl 2 rfl) ?_
              refine lv_aload hx hb (xb_d D_H_exported 30 rfl) (lv_at hl 2 rfl) ?_
              refine lv_iload hx hb (xb_d D_H_exported 31 rfl) (lv_at hl 0 rfl) ?_
              have hk10 : xb_k h17 b6 = 3 := hEh17.k hk10
              refine xb_call (D := D) (A := A) (σ := σ) (h := h17) (d := 3) (mc := 0) (ms := 0) (maxL := 2) (rest := [.ref b6]) (av := [.ref b6, .int r18]) (fun T hT X => by obtain ⟨cb, r1, r2, r3⟩ := xb_recv (ci := 2) hR rfl hk10 (by decide); exact xt_invV X hx hown (hts _ m_813f0fde) (hts _ m_eb5729e5) (hts _ m_9cf0d8be) (xt_sigOf (hts _ m_42e2443a)) nm_StackModule_typeOf (by rw [hT]; exact r1) r2 r3 (g := F0 m 89 ls [.int r18, .ref b6, .ref b6]) rfl (argsL := [.int r18]) (rest := [.ref b6]) rfl rfl (by rw [hb]; exact (xb_d D_H_exported 32 rfl))) (ok_StackModule_typeOf l hfl D A σ b6 r18 h17 _ hw) (hml.trans hl.1.symm) (by rw [hb]; exact (xb_d D_H_exported 32 rfl)) (Nat.le_of_ble_eq_true rfl) (Nat.le_of_ble_eq_true rfl) (Nat.le_of_ble_eq_true rfl) (show ((k + c4) + c9) + 0 ≤ MC by omega) (show ((n + sc4) + sc9) + 0 ≤ MS by omega) (xt_w1 hB.1 m_42e2443a) (xt_cdOf hB.1 m_42e2443a) (hts _ m_9c375545) hB hR hS hA (fun vv h23 H locs hq hEh23 hR hS => ?_) (fun XX ax h23 H locs hq hEh23 hex hR hS => ?_)
              · obtain ⟨r24, rfl, hw⟩ := hq
                have hw := hw hEh23
                have hE := hE.tr hEh23
                refine W.eq (g2 := F0 m 92 ls [.int r24, .ref b6]) rfl ?_
                have hk10 : xb_k h23 b6 = 3 := hEh23.k hk10
                refine xb_call (D := D) (A := A) (σ := σ) (h := h23) (d := 3) (mc := 0) (ms := 0) (maxL := 2) (rest := []) (av := [.ref b6, .int r24]) (fun T hT X => by obtain ⟨cb, r1, r2, r3⟩ := xb_recv (ci := 2) hR rfl hk10 (by decide); exact xt_invV X hx hown (hts _ m_3ab16739) (hts _ m_aa97372f) (hts _ m_8160d9b3) (xt_sigOf (hts _ m_8621e59b)) nm_StackModule_parameters (by rw [hT]; exact r1) r2 r3 (g := F0 m 92 ls [.int r24, .ref b6]) rfl (argsL := [.int r24]) (rest := []) rfl rfl (by rw [hb]; exact (xb_d D_H_exported 33 rfl))) (ok_StackModule_parameters l hfl D A σ b6 r24 h23 _ hw) (hml.trans hl.1.symm) (by rw [hb]; exact (xb_d D_H_exported 33 rfl)) (Nat.le_of_ble_eq_true rfl) (Nat.le_of_ble_eq_true rfl) (Nat.le_of_ble_eq_true rfl) (show ((k + c4) + c9) + 0 ≤ MC by omega) (show ((n + sc4) + sc9) + 0 ≤ MS by omega) (xt_w1 hB.1 m_8621e59b) (xt_cdOf hB.1 m_8621e59b) (hts _ m_9c375545) hB hR hS hA (fun vv h25 H locs hq hEh25 hR hS => ?_) (fun XX ax h25 H locs hq hEh25 hex hR hS => ?_)
                · obtain ⟨r26, rfl, hw⟩ := hq
                  have hw := hw hEh25
                  have hE := hE.tr hEh25
                  refine W.eq (g2 := F0 m 95 ls [.int r26]) rfl ?_
                  refine lv_goto (tgt := 99) hx hb (xb_d D_H_exported 34 rfl) rfl ?_
                  exact am_H_exported_L99 l hfl D A σ MC MS h0 Qr Qt r26 h25 ((bc - c4) - c9) ((bs - sc4) - sc9) hw p e s m args below meth c hC H locs ls ((k + c4) + c9) ((n + sc4) + sc9) hE (lv_sub hl [] rfl) hR hS (by omega) (by omega)
                · exact False.elim hq
              · exact False.elim hq
          have hw := hw.2
          by_cases hc27 : x3 = 3
          · have hw := hw.1 hc27
            refine xt_numi hc27 ?_
            refine lv_tableIn (off := 58) (tgt := 100) hx hb (xb_d D_H_exported 22 rfl) (by decide +kernel) (by decide +kernel) (by decide +kernel) (by decide) ?_
            refine lv_iload hx hb (xb_d D_H_exported 37 rfl) (lv_at hl 1 rfl) ?_
            refine lv_if_ne (tgt := 124) hx hb (xb_d D_H_exported 38 rfl) rfl (fun hc28 => ?_) (fun hc28 => ?_)
            · have hw := hw.1 hc28
              exact am_H_exported_L124 l hfl D A σ MC MS h0 Qr Qt h17 ((bc - c4) - c9) ((bs - sc4) - sc9) hw p e s m args below meth c hC H locs ls ((k + c4) + c9) ((n + sc4) + sc9) hE (lv_sub hl [] rfl) hR hS (by omega) (by omega)
            · have hw := hw.2 hc28
              refine lv_aload hx hb (xb_d D_H_exported 39 rfl) (lv_at hl 2 rfl) ?_
              refine lv_aload hx hb (xb_d D_H_exported 40 rfl) (lv_at hl 2 rfl) ?_
              refine lv_iload hx hb (xb_d D_H_exported 41 rfl) (lv_at hl 0 rfl) ?_
              have hk10 : xb_k h17 b6 = 3 := hEh17.k hk10
              refine xb_call (D := D) (A := A) (σ := σ) (h := h17) (d := 3) (mc := 0) (ms := 0) (maxL := 2) (rest := [.ref b6]) (av := [.ref b6, .int r18]) (fun T hT X => by obtain ⟨cb, r1, r2, r3⟩ := xb_recv (ci := 2) hR rfl hk10 (by decide); exact xt_invV X hx hown (hts _ m_813f0fde) (hts _ m_eb5729e5) (hts _ m_9cf0d8be) (xt_sigOf (hts _ m_42e2443a)) nm_StackModule_typeOf (by rw [hT]; exact r1) r2 r3 (g := F0 m 111 ls [.int r18, .ref b6, .ref b6]) rfl (argsL := [.int r18]) (rest := [.ref b6]) rfl rfl (by rw [hb]; exact (xb_d D_H_exported 42 rfl))) (ok_StackModule_typeOf l hfl D A σ b6 r18 h17 _ hw) (hml.trans hl.1.symm) (by rw [hb]; exact (xb_d D_H_exported 42 rfl)) (Nat.le_of_ble_eq_true rfl) (Nat.le_of_ble_eq_true rfl) (Nat.le_of_ble_eq_true rfl) (show ((k + c4) + c9) + 0 ≤ MC by omega) (show ((n + sc4) + sc9) + 0 ≤ MS by omega) (xt_w1 hB.1 m_42e2443a) (xt_cdOf hB.1 m_42e2443a) (hts _ m_9c375545) hB hR hS hA (fun vv h29 H locs hq hEh29 hR hS => ?_) (fun XX ax h29 H locs hq hEh29 hex hR hS => ?_)
              · obtain ⟨r30, rfl, hw⟩ := hq
                have hw := hw hEh29
                have hE := hE.tr hEh29
                refine W.eq (g2 := F0 m 114 ls [.int r30, .ref b6]) rfl ?_
                have hk10 : xb_k h29 b6 = 3 := hEh29.k hk10
                refine xb_call (D := D) (A := A) (σ := σ) (h := h29) (d := 3) (mc := 0) (ms := 0) (maxL := 2) (rest := []) (av := [.ref b6, .int r30]) (fun T hT X => by obtain ⟨cb, r1, r2, r3⟩ := xb_recv (ci := 2) hR rfl hk10 (by decide); exact xt_invV X hx hown (hts _ m_e5532862) (hts _ m_00587e6f) (hts _ m_d605b1a5) (xt_sigOf (hts _ m_ac93cd0b)) nm_StackModule_hasResult (by rw [hT]; exact r1) r2 r3 (g := F0 m 114 ls [.int r30, .ref b6]) rfl (argsL := [.int r30]) (rest := []) rfl rfl (by rw [hb]; exact (xb_d D_H_exported 43 rfl))) (ok_StackModule_hasResult l hfl D A σ b6 r30 h29 _ hw) (hml.trans hl.1.symm) (by rw [hb]; exact (xb_d D_H_exported 43 rfl)) (Nat.le_of_ble_eq_true rfl) (Nat.le_of_ble_eq_true rfl) (Nat.le_of_ble_eq_true rfl) (show ((k + c4) + c9) + 0 ≤ MC by omega) (show ((n + sc4) + sc9) + 0 ≤ MS by omega) (xt_w1 hB.1 m_ac93cd0b) (xt_cdOf hB.1 m_ac93cd0b) (hts _ m_9c375545) hB hR hS hA (fun vv h31 H locs hq hEh31 hR hS => ?_) (fun XX ax h31 H locs hq hEh31 hex hR hS => ?_)
                · obtain ⟨r32, rfl, hw⟩ := hq
                  have hw := hw hEh31
                  have hE := hE.tr hEh31
                  refine W.eq (g2 := F0 m 117 ls [.int r32]) rfl ?_
                  refine lv_if_eq (tgt := 124) hx hb (xb_d D_H_exported 44 rfl) rfl (fun hc33 => ?_) (fun hc33 => ?_)
                  · have hw := hw.1 hc33
                    exact am_H_exported_L124 l hfl D A σ MC MS h0 Qr Qt h31 ((bc - c4) - c9) ((bs - sc4) - sc9) hw p e s m args below meth c hC H locs ls ((k + c4) + c9) ((n + sc4) + sc9) hE (lv_sub hl [] rfl) hR hS (by omega) (by omega)
                  · have hw := hw.2 hc33
                    refine lv_iconst (v := 1) hx hb (xb_d D_H_exported 45 rfl) (by decide) ?_
                    refine lv_goto (tgt := 125) hx hb (xb_d D_H_exported 46 rfl) rfl ?_
                    exact am_H_exported_L125 l hfl D A σ MC MS h0 Qr Qt 1 h31 ((bc - c4) - c9) ((bs - sc4) - sc9) hw p e s m args below meth c hC H locs ls ((k + c4) + c9) ((n + sc4) + sc9) hE (lv_sub hl [] rfl) hR hS (by omega) (by omega)
                · exact False.elim hq
              · exact False.elim hq
          have hw := hw.2
          have hw := hw hc19 hc20 hc21 hc27
          refine lv_tableOut (tgt := 126) hx hb (xb_d D_H_exported 22 rfl) (by have a0 := xb_nl (0) 0 (by decide) hc19; have a1 := xb_nl (1) 1 (by decide) hc20; have a2 := xb_nl (2) 2 (by decide) hc21; have a3 := xb_nl (3) 3 (by decide) hc27; omega) (by decide) ?_
          obtain ⟨hc9, hs9, hw⟩ := hw
          exact xb_throw (names := ["java/lang/RuntimeException", "java/lang/Exception"]) hx hb (hml.trans hl.1.symm) hlocks hfl hown xsite_a3c850 hB hS (show ((k + c4) + c9) + 1 ≤ MC by omega) (show ((n + sc4) + sc9) + 6 ≤ MS by omega) (by decide) (Nat.le_of_ble_eq_true rfl) htab (xb_d D_H_exported 49 rfl) (xb_d D_H_exported 50 rfl) xt_l2 (xb_d D_H_exported 51 rfl) (xb_d D_H_exported 52 rfl) (xb_d D_H_exported 53 rfl) hE hR hw
        · exact False.elim hq
      · exact False.elim hq
    · exact xb_pass hlocks (fun x hx9 => by rw [htab] at hx9; first | cases hx9 | (simp [tableOf] at hx9; rcases hx9 with rfl | rfl | rfl <;> decide)) (show ((k + c4) + c9) ≤ MC by omega) (show ((n + sc4) + sc9) ≤ MS by omega) (hE.tr hEh7) hR hS hex hq
  · exact xb_pass hlocks (fun x hx9 => by rw [htab] at hx9; first | cases hx9 | (simp [tableOf] at hx9; rcases hx9 with rfl | rfl | rfl <;> decide)) (show (k + c4) ≤ MC by omega) (show (n + sc4) ≤ MS by omega) (hE.tr hEh2) hR hS hex hq

theorem m_4a194adb : (.methodLink "StackHost" 292 y_H_memoryWith : Cond) ∈ xt_tbl := xt_in (xt_t9 (List.mem_of_getElem? (i := 45) (by decide +kernel))) (by decide +kernel)
theorem m_98d394c7 : (.instanceMethod y_H_memoryWith : Cond) ∈ xt_tbl := xt_in (xt_t9 (List.mem_of_getElem? (i := 47) (by decide +kernel))) (by decide +kernel)
theorem m_31edfe3b : (.selects "StackHost" y_H_memoryWith y_H_memoryWith : Cond) ∈ xt_tbl := xt_in (xt_v8 (q := (⟨"StackHost", "memoryWith", "(II)LStackHost$Memory;"⟩, 11)) (List.mem_of_getElem? (i := 15) (by decide +kernel))) (by decide +kernel)
theorem m_8546755b : (.code y_H_memoryWith b_H_memoryWith 4 (some (.object "StackHost$Memory")) : Cond) ∈ xt_tbl := xt_in (xt_t9 (List.mem_of_getElem? (i := 48) (by decide +kernel))) (by decide +kernel)
theorem m_4667599c : (.methodLink "StackHost" 296 y_Memory_byteAt : Cond) ∈ xt_tbl := xt_in (xt_t9 (List.mem_of_getElem? (i := 51) (by decide +kernel))) (by decide +kernel)
theorem m_48b23b1a : (.instanceMethod y_Memory_byteAt : Cond) ∈ xt_tbl := xt_in (xt_t8 (List.mem_of_getElem? (i := 234) (by decide +kernel))) (by decide +kernel)
theorem m_389f80ed : (.selects "StackHost$Memory" y_Memory_byteAt y_Memory_byteAt : Cond) ∈ xt_tbl := xt_in (xt_t8 (List.mem_of_getElem? (i := 235) (by decide +kernel))) (by decide +kernel)
theorem m_ce08cc3c : (.code y_Memory_byteAt b_Memory_byteAt 2 (some .int) : Cond) ∈ xt_tbl := xt_in (xt_t8 (List.mem_of_getElem? (i := 236) (by decide +kernel))) (by decide +kernel)
theorem nm_H_memoryWith : xt_nm y_H_memoryWith 2 := ⟨by decide +kernel, by decide +kernel⟩
theorem nm_Memory_byteAt : xt_nm y_Memory_byteAt 1 := ⟨by decide +kernel, by decide +kernel⟩
set_option maxRecDepth 100000 in
def T_H_peek : List (Nat × Instr × Nat) := [(0, .aload_n 0, 1), (1, .iload_n 1, 1), (2, .iload_n 2, 1), (3, .invokevirtual 292, 3), (6, .astore_n 3, 1), (7, .aload_n 3, 1), (8, .iload_n 2, 1), (9, .invokevirtual 296, 3), (12, .ireturn, 1)]
theorem D_H_peek : ∀ q ∈ T_H_peek, decode b_H_peek q.1 = .ok (q.2.1, q.2.2) := by decide +kernel
def w_H_peek (x0 : Nat) (x1 : Int32) (x2 : Int32) (h : xb_H) (bc : Nat) (bs : Nat) (Qr : Int32 → xb_H → Prop) (Qt : String → xb_H → Prop) : Prop :=
    xb_k h x0 = 1 ∧ ∃ c4 sc4 : Nat, c4 ≤ bc ∧ sc4 ≤ bs ∧ w_H_memoryWith x0 x1 x2 h c4 sc4 (fun (r3 : Nat) (h2 : xb_H) => xb_ext h h2 → xb_k h2 r3 = 13 ∧ w_Memory_byteAt r3 x2 h2 (fun (r7 : Int32) (h6 : xb_H) => xb_ext h2 h6 → Qr r7 h6)) Qt

set_option maxHeartbeats 4000000 in
set_option maxRecDepth 100000 in
theorem ok_H_peek (l : Launch) (hfl : l.flags = pinnedFlags ++ [noTraceFlag]) (D : va_G) (A : Nat → Prop) (σ : Nat) (x0 : Nat) (x1 : Int32) (x2 : Int32) (h : xb_H) (bc : Nat) (bs : Nat) (Qr : Int32 → xb_H → Prop) (Qt : String → xb_H → Prop) (hw : w_H_peek x0 x1 x2 h bc bs Qr Qt) : xt_Met l y_H_peek [.code y_H_peek b_H_peek 4 (some .int)] (xb_rm 4 bc bs) (xb_Pc D A σ h [.ref x0, .int x1, .int x2]) (xb_Qc D A h (fun v h => ∃ r, v = some (.int r) ∧ Qr r h) Qt) bc bs A := by
  refine xb_ofAm (cc := b_H_peek) (by decide) (Nat.le_of_ble_eq_true rfl) ?_
  unfold w_H_peek at hw
  show xb_am l D A σ 4 bc bs h (fun v h => ∃ r, v = some (.int r) ∧ Qr r h) Qt y_H_peek.cls y_H_peek.name b_H_peek 4 ([] : List ExceptionTableEntry) (some .int) 0 [(0, .ref x0), (1, .int x1), (2, .int x2)] [] h bc bs
  obtain ⟨MC, hMC⟩ : ∃ x, x = bc := ⟨_, rfl⟩
  obtain ⟨MS, hMS⟩ : ∃ x, x = bs := ⟨_, rfl⟩
  rw [show xb_am l D A σ 4 bc bs = xb_am l D A σ 4 MC MS by rw [hMC, hMS]]
  obtain ⟨h0, hh0⟩ : ∃ x, x = h := ⟨_, rfl⟩
  rw [show xb_am l D A σ 4 MC MS h = xb_am l D A σ 4 MC MS h0 by rw [hh0]]
  intro p e s m args below meth c hC H locs ls k n hE hl hR hS hk hn
  obtain ⟨hx, hb, hown, hlocks, htab, hml, hr, hB, hA, hnm⟩ := id hC
  have hts := hB.1.1.at args
  refine lv_aload_n hx hb (xb_d D_H_peek 0 rfl) rfl (lv_at hl 0 rfl) ?_
  refine lv_iload_n hx hb (xb_d D_H_peek 1 rfl) rfl (lv_at hl 1 rfl) ?_
  refine lv_iload_n hx hb (xb_d D_H_peek 2 rfl) rfl (lv_at hl 2 rfl) ?_
  obtain ⟨hk1, hw⟩ := hw
  obtain ⟨c4, sc4, hlc4, hlsc4, hw⟩ := hw
  refine xb_call (D := D) (A := A) (σ := σ) (h := h) (d := 3) (mc := c4) (ms := sc4) (maxL := 4) (rest := []) (av := [.ref x0, .int x1, .int x2]) (fun T hT X => by obtain ⟨cb, r1, r2, r3⟩ := xb_recv (ci := 0) hR rfl hk1 (by decide); exact xt_invV X hx hown (hts _ m_4a194adb) (hts _ m_98d394c7) (hts _ m_31edfe3b) (xt_sigOf (hts _ m_8546755b)) nm_H_memoryWith (by rw [hT]; exact r1) r2 r3 (g := F0 m 3 ls [.int x2, .int x1, .ref x0]) rfl (argsL := [.int x1, .int x2]) (rest := []) rfl rfl (by rw [hb]; exact (xb_d D_H_peek 3 rfl))) (ok_H_memoryWith l hfl D A σ x0 x1 x2 h c4 sc4 _ _ hw) (hml.trans hl.1.symm) (by rw [hb]; exact (xb_d D_H_peek 3 rfl)) (Nat.le_of_ble_eq_true rfl) (Nat.le_of_ble_eq_true rfl) (Nat.le_of_ble_eq_true rfl) (show k + c4 ≤ MC by omega) (show n + sc4 ≤ MS by omega) (xt_w1 hB.1 m_8546755b) (xt_cdOf hB.1 m_8546755b) (hts _ m_ba0734f5) hB hR hS hA (fun vv h2 H locs hq hEh2 hR hS => ?_) (fun XX ax h2 H locs hq hEh2 hex hR hS => ?_)
  · obtain ⟨r3, rfl, hw⟩ := hq
    have hw := hw hEh2
    have hE := hE.tr hEh2
    refine W.eq (g2 := F0 m 6 ls [.ref r3]) rfl ?_
    refine lv_astore_n hx hb (xb_d D_H_peek 4 rfl) rfl hl (by decide) rfl (fun ls hl => ?_)
    have hl : lv_has ls 4 [(3, .ref r3), (0, .ref x0), (1, .int x1), (2, .int x2)] := hl
    refine lv_aload_n hx hb (xb_d D_H_peek 5 rfl) rfl (lv_at hl 0 rfl) ?_
    refine lv_iload_n hx hb (xb_d D_H_peek 6 rfl) rfl (lv_at hl 3 rfl) ?_
    obtain ⟨hk5, hw⟩ := hw
    refine xb_call (D := D) (A := A) (σ := σ) (h := h2) (d := 3) (mc := 0) (ms := 0) (maxL := 2) (rest := []) (av := [.ref r3, .int x2]) (fun T hT X => by obtain ⟨cb, r1, r2, r3⟩ := xb_recv (ci := 12) hR rfl hk5 (by decide); exact xt_invV X hx hown (hts _ m_4667599c) (hts _ m_48b23b1a) (hts _ m_389f80ed) (xt_sigOf (hts _ m_ce08cc3c)) nm_Memory_byteAt (by rw [hT]; exact r1) r2 r3 (g := F0 m 9 ls [.int x2, .ref r3]) rfl (argsL := [.int x2]) (rest := []) rfl rfl (by rw [hb]; exact (xb_d D_H_peek 7 rfl))) (ok_Memory_byteAt l hfl D A σ r3 x2 h2 _ hw) (hml.trans hl.1.symm) (by rw [hb]; exact (xb_d D_H_peek 7 rfl)) (Nat.le_of_ble_eq_true rfl) (Nat.le_of_ble_eq_true rfl) (Nat.le_of_ble_eq_true rfl) (show (k + c4) + 0 ≤ MC by omega) (show (n + sc4) + 0 ≤ MS by omega) (xt_w1 hB.1 m_ce08cc3c) (xt_cdOf hB.1 m_ce08cc3c) (hts _ m_e7289b5f) hB hR hS hA (fun vv h6 H locs hq hEh6 hR hS => ?_) (fun XX ax h6 H locs hq hEh6 hex hR hS => ?_)
    · obtain ⟨r7, rfl, hw⟩ := hq
      have hw := hw hEh6
      have hE := hE.tr hEh6
      refine W.eq (g2 := F0 m 12 ls [.int r7]) rfl ?_
      exact xb_iret hx hb hr hlocks (show (k + c4) ≤ MC by omega) (show (n + sc4) ≤ MS by omega) hE hR hS (xb_d D_H_peek 8 rfl) hw
    · exact False.elim hq
  · exact xb_pass hlocks (fun x hx9 => by rw [htab] at hx9; first | cases hx9 | (simp [tableOf] at hx9; rcases hx9 with rfl | rfl | rfl <;> decide)) (show (k + c4) ≤ MC by omega) (show (n + sc4) ≤ MS by omega) (hE.tr hEh2) hR hS hex hq

theorem m_ef02f869 : (.methodLink "StackHost" 304 y_Memory_setByte : Cond) ∈ xt_tbl := xt_in (xt_t9 (List.mem_of_getElem? (i := 59) (by decide +kernel))) (by decide +kernel)
theorem m_d015b981 : (.instanceMethod y_Memory_setByte : Cond) ∈ xt_tbl := xt_in (xt_t7 (List.mem_of_getElem? (i := 105) (by decide +kernel))) (by decide +kernel)
theorem m_2cc55bcf : (.selects "StackHost$Memory" y_Memory_setByte y_Memory_setByte : Cond) ∈ xt_tbl := xt_in (xt_t7 (List.mem_of_getElem? (i := 106) (by decide +kernel))) (by decide +kernel)
theorem m_2b9cfcee : (.code y_Memory_setByte b_Memory_setByte 5 none : Cond) ∈ xt_tbl := xt_in (xt_t7 (List.mem_of_getElem? (i := 107) (by decide +kernel))) (by decide +kernel)
theorem nm_Memory_setByte : xt_nm y_Memory_setByte 2 := ⟨by decide +kernel, by decide +kernel⟩
set_option maxRecDepth 100000 in
def T_H_poke : List (Nat × Instr × Nat) := [(0, .aload_n 0, 1), (1, .iload_n 1, 1), (2, .iload_n 2, 1), (3, .invokevirtual 292, 3), (6, .astore 4, 2), (8, .aload 4, 2), (10, .iload_n 2, 1), (11, .iload_n 3, 1), (12, .invokevirtual 304, 3), (15, .return_, 1)]
theorem D_H_poke : ∀ q ∈ T_H_poke, decode b_H_poke q.1 = .ok (q.2.1, q.2.2) := by decide +kernel
def w_H_poke (x0 : Nat) (x1 : Int32) (x2 : Int32) (x3 : Int32) (h : xb_H) (bc : Nat) (bs : Nat) (Qr : xb_H → Prop) (Qt : String → xb_H → Prop) : Prop :=
    xb_k h x0 = 1 ∧ ∃ c4 sc4 : Nat, c4 ≤ bc ∧ sc4 ≤ bs ∧ w_H_memoryWith x0 x1 x2 h c4 sc4 (fun (r3 : Nat) (h2 : xb_H) => xb_ext h h2 → xb_k h2 r3 = 13 ∧ w_Memory_setByte r3 x2 x3 h2 (fun (h6 : xb_H) => xb_ext h2 h6 → Qr h6)) Qt

set_option maxHeartbeats 4000000 in
set_option maxRecDepth 100000 in
theorem ok_H_poke (l : Launch) (hfl : l.flags = pinnedFlags ++ [noTraceFlag]) (D : va_G) (A : Nat → Prop) (σ : Nat) (x0 : Nat) (x1 : Int32) (x2 : Int32) (x3 : Int32) (h : xb_H) (bc : Nat) (bs : Nat) (Qr : xb_H → Prop) (Qt : String → xb_H → Prop) (hw : w_H_poke x0 x1 x2 x3 h bc bs Qr Qt) : xt_Met l y_H_poke [.code y_H_poke b_H_poke 5 none] (xb_rm 4 bc bs) (xb_Pc D A σ h [.ref x0, .int x1, .int x2, .int x3]) (xb_Qc D A h (fun v h => v = none ∧ Qr h) Qt) bc bs A := by
  refine xb_ofAm (cc := b_H_poke) (by decide) (Nat.le_of_ble_eq_true rfl) ?_
  unfold w_H_poke at hw
  show xb_am l D A σ 4 bc bs h (fun v h => v = none ∧ Qr h) Qt y_H_poke.cls y_H_poke.name b_H_poke 5 ([] : List ExceptionTableEntry) none 0 [(0, .ref x0), (1, .int x1), (2, .int x2), (3, .int x3)] [] h bc bs
  obtain ⟨MC, hMC⟩ : ∃ x, x = bc := ⟨_, rfl⟩
  obtain ⟨MS, hMS⟩ : ∃ x, x = bs := ⟨_, rfl⟩
  rw [show xb_am l D A σ 4 bc bs = xb_am l D A σ 4 MC MS by rw [hMC, hMS]]
  obtain ⟨h0, hh0⟩ : ∃ x, x = h := ⟨_, rfl⟩
  rw [show xb_am l D A σ 4 MC MS h = xb_am l D A σ 4 MC MS h0 by rw [hh0]]
  intro p e s m args below meth c hC H locs ls k n hE hl hR hS hk hn
  obtain ⟨hx, hb, hown, hlocks, htab, hml, hr, hB, hA, hnm⟩ := id hC
  have hts := hB.1.1.at args
  refine lv_aload_n hx hb (xb_d D_H_poke 0 rfl) rfl (lv_at hl 0 rfl) ?_
  refine lv_iload_n hx hb (xb_d D_H_poke 1 rfl) rfl (lv_at hl 1 rfl) ?_
  refine lv_iload_n hx hb (xb_d D_H_poke 2 rfl) rfl (lv_at hl 2 rfl) ?_
  obtain ⟨hk1, hw⟩ := hw
  obtain ⟨c4, sc4, hlc4, hlsc4, hw⟩ := hw
  refine xb_call (D := D) (A := A) (σ := σ) (h := h) (d := 3) (mc := c4) (ms := sc4) (maxL := 4) (rest := []) (av := [.ref x0, .int x1, .int x2]) (fun T hT X => by obtain ⟨cb, r1, r2, r3⟩ := xb_recv (ci := 0) hR rfl hk1 (by decide); exact xt_invV X hx hown (hts _ m_4a194adb) (hts _ m_98d394c7) (hts _ m_31edfe3b) (xt_sigOf (hts _ m_8546755b)) nm_H_memoryWith (by rw [hT]; exact r1) r2 r3 (g := F0 m 3 ls [.int x2, .int x1, .ref x0]) rfl (argsL := [.int x1, .int x2]) (rest := []) rfl rfl (by rw [hb]; exact (xb_d D_H_poke 3 rfl))) (ok_H_memoryWith l hfl D A σ x0 x1 x2 h c4 sc4 _ _ hw) (hml.trans hl.1.symm) (by rw [hb]; exact (xb_d D_H_poke 3 rfl)) (Nat.le_of_ble_eq_true rfl) (Nat.le_of_ble_eq_true rfl) (Nat.le_of_ble_eq_true rfl) (show k + c4 ≤ MC by omega) (show n + sc4 ≤ MS by omega) (xt_w1 hB.1 m_8546755b) (xt_cdOf hB.1 m_8546755b) (hts _ m_ba0734f5) hB hR hS hA (fun vv h2 H locs hq hEh2 hR hS => ?_) (fun XX ax h2 H locs hq hEh2 hex hR hS => ?_)
  · obtain ⟨r3, rfl, hw⟩ := hq
    have hw := hw hEh2
    have hE := hE.tr hEh2
    refine W.eq (g2 := F0 m 6 ls [.ref r3]) rfl ?_
    refine lv_astore hx hb (xb_d D_H_poke 4 rfl) hl (by decide) rfl (fun ls hl => ?_)
    have hl : lv_has ls 5 [(4, .ref r3), (0, .ref x0), (1, .int x1), (2, .int x2), (3, .int x3)] := hl
    refine lv_aload hx hb (xb_d D_H_poke 5 rfl) (lv_at hl 0 rfl) ?_
    refine lv_iload_n hx hb (xb_d D_H_poke 6 rfl) rfl (lv_at hl 3 rfl) ?_
    refine lv_iload_n hx hb (xb_d D_H_poke 7 rfl) rfl (lv_at hl 4 rfl) ?_
    obtain ⟨hk5, hw⟩ := hw
    refine xb_call (D := D) (A := A) (σ := σ) (h := h2) (d := 3) (mc := 0) (ms := 0) (maxL := 5) (rest := []) (av := [.ref r3, .int x2, .int x3]) (fun T hT X => by obtain ⟨cb, r1, r2, r3⟩ := xb_recv (ci := 12) hR rfl hk5 (by decide); exact xt_invV X hx hown (hts _ m_ef02f869) (hts _ m_d015b981) (hts _ m_2cc55bcf) (xt_sigOf (hts _ m_2b9cfcee)) nm_Memory_setByte (by rw [hT]; exact r1) r2 r3 (g := F0 m 12 ls [.int x3, .int x2, .ref r3]) rfl (argsL := [.int x2, .int x3]) (rest := []) rfl rfl (by rw [hb]; exact (xb_d D_H_poke 8 rfl))) (ok_Memory_setByte l hfl D A σ r3 x2 x3 h2 _ hw) (hml.trans hl.1.symm) (by rw [hb]; exact (xb_d D_H_poke 8 rfl)) (Nat.le_of_ble_eq_true rfl) (Nat.le_of_ble_eq_true rfl) (Nat.le_of_ble_eq_true rfl) (show (k + c4) + 0 ≤ MC by omega) (show (n + sc4) + 0 ≤ MS by omega) (xt_w1 hB.1 m_2b9cfcee) (xt_cdOf hB.1 m_2b9cfcee) (hts _ m_e7289b5f) hB hR hS hA (fun vv h6 H locs hq hEh6 hR hS => ?_) (fun XX ax h6 H locs hq hEh6 hex hR hS => ?_)
    · obtain ⟨rfl, hw⟩ := hq
      have hw := hw hEh6
      have hE := hE.tr hEh6
      refine W.eq (g2 := F0 m 15 ls []) rfl ?_
      exact xb_vret hx hb hr hlocks (show (k + c4) ≤ MC by omega) (show (n + sc4) ≤ MS by omega) hE hR hS (xb_d D_H_poke 9 rfl) hw
    · exact False.elim hq
  · exact xb_pass hlocks (fun x hx9 => by rw [htab] at hx9; first | cases hx9 | (simp [tableOf] at hx9; rcases hx9 with rfl | rfl | rfl <;> decide)) (show (k + c4) ≤ MC by omega) (show (n + sc4) ≤ MS by omega) (hE.tr hEh2) hR hS hex hq

theorem m_baf0cde0 : (.methodLink "StackHost$Checker" 279 y_Checker_checkLabel : Cond) ∈ xt_tbl := xt_in (xt_t6 (List.mem_of_getElem? (i := 27) (by decide +kernel))) (by decide +kernel)
theorem m_df7367f5 : (.instanceMethod y_Checker_checkLabel : Cond) ∈ xt_tbl := xt_in (xt_t6 (List.mem_of_getElem? (i := 29) (by decide +kernel))) (by decide +kernel)
theorem m_b8e4b77a : (.selects "StackHost$Checker" y_Checker_checkLabel y_Checker_checkLabel : Cond) ∈ xt_tbl := xt_in (xt_v4 (q := (⟨"StackHost$Checker", "checkLabel", "(I)I"⟩, 17)) (List.mem_of_getElem? (i := 11) (by decide +kernel))) (by decide +kernel)
theorem m_ae5b25e9 : (.code y_Checker_checkLabel b_Checker_checkLabel 3 (some .int) : Cond) ∈ xt_tbl := xt_in (xt_t6 (List.mem_of_getElem? (i := 30) (by decide +kernel))) (by decide +kernel)
theorem m_0b33e20f : (.methodLink "StackHost$Checker" 251 y_Checker_take : Cond) ∈ xt_tbl := xt_in (xt_t5 (List.mem_of_getElem? (i := 218) (by decide +kernel))) (by decide +kernel)
theorem m_338dda25 : (.instanceMethod y_Checker_take : Cond) ∈ xt_tbl := xt_in (xt_t5 (List.mem_of_getElem? (i := 220) (by decide +kernel))) (by decide +kernel)
theorem m_d7dc08f9 : (.selects "StackHost$Checker" y_Checker_take y_Checker_take : Cond) ∈ xt_tbl := xt_in (xt_v4 (q := (⟨"StackHost$Checker", "take", "(I)I"⟩, 17)) (List.mem_of_getElem? (i := 1) (by decide +kernel))) (by decide +kernel)
theorem m_b71cce2b : (.code y_Checker_take b_Checker_take 3 (some .int) : Cond) ∈ xt_tbl := xt_in (xt_t5 (List.mem_of_getElem? (i := 221) (by decide +kernel))) (by decide +kernel)
theorem m_761ff7fc : (.methodLink "StackHost$Checker" 236 y_Checker_put : Cond) ∈ xt_tbl := xt_in (xt_t5 (List.mem_of_getElem? (i := 222) (by decide +kernel))) (by decide +kernel)
theorem m_e867be1e : (.instanceMethod y_Checker_put : Cond) ∈ xt_tbl := xt_in (xt_t5 (List.mem_of_getElem? (i := 224) (by decide +kernel))) (by decide +kernel)
theorem m_098fc344 : (.selects "StackHost$Checker" y_Checker_put y_Checker_put : Cond) ∈ xt_tbl := xt_in (xt_v4 (q := (⟨"StackHost$Checker", "put", "(I)V"⟩, 17)) (List.mem_of_getElem? (i := 2) (by decide +kernel))) (by decide +kernel)
theorem m_43ff17c7 : (.code y_Checker_put b_Checker_put 2 none : Cond) ∈ xt_tbl := xt_in (xt_t5 (List.mem_of_getElem? (i := 225) (by decide +kernel))) (by decide +kernel)
theorem nm_Checker_checkLabel : xt_nm y_Checker_checkLabel 1 := ⟨by decide +kernel, by decide +kernel⟩
theorem nm_Checker_take : xt_nm y_Checker_take 1 := ⟨by decide +kernel, by decide +kernel⟩
theorem nm_Checker_put : xt_nm y_Checker_put 1 := ⟨by decide +kernel, by decide +kernel⟩
set_option maxRecDepth 100000 in
def T_Checker_checkBranchIf : List (Nat × Instr × Nat) := [(0, .aload_n 0, 1), (1, .getfield 25, 3), (4, .aload_n 0, 1), (5, .aload_n 0, 1), (6, .getfield 196, 3), (9, .iconst 1, 1), (10, .iadd, 1), (11, .invokevirtual 279, 3), (14, .iaload, 1), (15, .istore_n 1, 1), (16, .aload_n 0, 1), (17, .bipush 127, 2), (19, .invokevirtual 251, 3), (22, .pop, 1), (23, .aload_n 0, 1), (24, .iload_n 1, 1), (25, .invokevirtual 251, 3), (28, .pop, 1), (29, .aload_n 0, 1), (30, .iload_n 1, 1), (31, .invokevirtual 236, 3), (34, .return_, 1)]
theorem D_Checker_checkBranchIf : ∀ q ∈ T_Checker_checkBranchIf, decode b_Checker_checkBranchIf q.1 = .ok (q.2.1, q.2.2) := by decide +kernel
def w_Checker_checkBranchIf (x0 : Nat) (h : xb_H) (bc : Nat) (bs : Nat) (Qr : xb_H → Prop) (Qt : String → xb_H → Prop) : Prop :=
    xb_k h x0 = 5 ∧ ∃ b2 : Nat, (xb_r h x0 12) = some b2 ∧ ∃ c5 sc5 : Nat, c5 ≤ bc ∧ sc5 ≤ bs ∧ w_Checker_checkLabel x0 ((xb_i h x0 9) + 1) h c5 sc5 (fun (r4 : Int32) (h3 : xb_H) => xb_ext h h3 → xb_k h3 b2 = 102 ∧ vp_in r4 (xb_n h3 b2) ∧ ∀ v8 : Int32, v8 = (xb_i h3 b2 (Int32.toNatClampNeg r4)) → ∃ c11 sc11 : Nat, c11 ≤ (bc - c5) ∧ sc11 ≤ (bs - sc5) ∧ w_Checker_take x0 127 h3 c11 sc11 (fun (r10 : Int32) (h9 : xb_H) => xb_ext h3 h9 → ∃ c14 sc14 : Nat, c14 ≤ ((bc - c5) - c11) ∧ sc14 ≤ ((bs - sc5) - sc11) ∧ w_Checker_take x0 v8 h9 c14 sc14 (fun (r13 : Int32) (h12 : xb_H) => xb_ext h9 h12 → w_Checker_put x0 v8 h12 (fun (h15 : xb_H) => xb_ext h12 h15 → Qr h15)) Qt) Qt) Qt

set_option maxHeartbeats 4000000 in
set_option maxRecDepth 100000 in
theorem ok_Checker_checkBranchIf (l : Launch) (hfl : l.flags = pinnedFlags ++ [noTraceFlag]) (D : va_G) (A : Nat → Prop) (σ : Nat) (x0 : Nat) (h : xb_H) (bc : Nat) (bs : Nat) (Qr : xb_H → Prop) (Qt : String → xb_H → Prop) (hw : w_Checker_checkBranchIf x0 h bc bs Qr Qt) : xt_Met l y_Checker_checkBranchIf [.code y_Checker_checkBranchIf b_Checker_checkBranchIf 2 none] (xb_rm 4 bc bs) (xb_Pc D A σ h [.ref x0]) (xb_Qc D A h (fun v h => v = none ∧ Qr h) Qt) bc bs A := by
  refine xb_ofAm (cc := b_Checker_checkBranchIf) (by decide) (Nat.le_of_ble_eq_true rfl) ?_
  unfold w_Checker_checkBranchIf at hw
  show xb_am l D A σ 4 bc bs h (fun v h => v = none ∧ Qr h) Qt y_Checker_checkBranchIf.cls y_Checker_checkBranchIf.name b_Checker_checkBranchIf 2 ([] : List ExceptionTableEntry) none 0 [(0, .ref x0)] [] h bc bs
  obtain ⟨MC, hMC⟩ : ∃ x, x = bc := ⟨_, rfl⟩
  obtain ⟨MS, hMS⟩ : ∃ x, x = bs := ⟨_, rfl⟩
  rw [show xb_am l D A σ 4 bc bs = xb_am l D A σ 4 MC MS by rw [hMC, hMS]]
  obtain ⟨h0, hh0⟩ : ∃ x, x = h := ⟨_, rfl⟩
  rw [show xb_am l D A σ 4 MC MS h = xb_am l D A σ 4 MC MS h0 by rw [hh0]]
  intro p e s m args below meth c hC H locs ls k n hE hl hR hS hk hn
  obtain ⟨hx, hb, hown, hlocks, htab, hml, hr, hB, hA, hnm⟩ := id hC
  have hts := hB.1.1.at args
  refine lv_aload_n hx hb (xb_d D_Checker_checkBranchIf 0 rfl) rfl (lv_at hl 0 rfl) ?_
  obtain ⟨hk1, hw⟩ := hw
  refine xb_getP (C := R_Checker) (T := F_Checker) (N := 17) hx hb 4 12 hts fin_Checker hown hR hk1 (by decide) rfl (by decide) rfl (hts _ m_8a464e71) (fun _ h9 => h9) (xb_d D_Checker_checkBranchIf 1 rfl) ?_
  obtain ⟨b2, eb2, hw⟩ := hw
  refine xb_some eb2 ?_
  refine lv_aload_n hx hb (xb_d D_Checker_checkBranchIf 2 rfl) rfl (lv_at hl 0 rfl) ?_
  refine lv_aload_n hx hb (xb_d D_Checker_checkBranchIf 3 rfl) rfl (lv_at hl 0 rfl) ?_
  refine xb_getI (C := R_Checker) (T := F_Checker) (N := 17) hx hb 4 9 hts fin_Checker hown hR hk1 (by decide) rfl (by decide) rfl (hts _ m_28193d38) (fun _ h9 => h9) (xb_d D_Checker_checkBranchIf 4 rfl) ?_
  refine lv_iconst (v := 1) hx hb (xb_d D_Checker_checkBranchIf 5 rfl) (by decide) ?_
  refine lv_iadd hx hb (xb_d D_Checker_checkBranchIf 6 rfl) ?_
  obtain ⟨c5, sc5, hlc5, hlsc5, hw⟩ := hw
  refine xb_call (D := D) (A := A) (σ := σ) (h := h) (d := 3) (mc := c5) (ms := sc5) (maxL := 3) (rest := [.ref b2]) (av := [.ref x0, .int ((xb_i h x0 9) + 1)]) (fun T hT X => by obtain ⟨cb, r1, r2, r3⟩ := xb_recv (ci := 4) hR rfl hk1 (by decide); exact xt_invV X hx hown (hts _ m_baf0cde0) (hts _ m_df7367f5) (hts _ m_b8e4b77a) (xt_sigOf (hts _ m_ae5b25e9)) nm_Checker_checkLabel (by rw [hT]; exact r1) r2 r3 (g := F0 m 11 ls [.int ((xb_i h x0 9) + 1), .ref x0, .ref b2]) rfl (argsL := [.int ((xb_i h x0 9) + 1)]) (rest := [.ref b2]) rfl rfl (by rw [hb]; exact (xb_d D_Checker_checkBranchIf 7 rfl))) (ok_Checker_checkLabel l hfl D A σ x0 ((xb_i h x0 9) + 1) h c5 sc5 _ _ hw) (hml.trans hl.1.symm) (by rw [hb]; exact (xb_d D_Checker_checkBranchIf 7 rfl)) (Nat.le_of_ble_eq_true rfl) (Nat.le_of_ble_eq_true rfl) (Nat.le_of_ble_eq_true rfl) (show k + c5 ≤ MC by omega) (show n + sc5 ≤ MS by omega) (xt_w1 hB.1 m_ae5b25e9) (xt_cdOf hB.1 m_ae5b25e9) (hts _ m_44748ce5) hB hR hS hA (fun vv h3 H locs hq hEh3 hR hS => ?_) (fun XX ax h3 H locs hq hEh3 hex hR hS => ?_)
  · obtain ⟨r4, rfl, hw⟩ := hq
    have hw := hw hEh3
    have hE := hE.tr hEh3
    refine W.eq (g2 := F0 m 14 ls [.int r4, .ref b2]) rfl ?_
    obtain ⟨hk7, hw⟩ := hw
    obtain ⟨hi6, hw⟩ := hw
    refine xb_iald hx hb hR hk7 hi6 (xb_d D_Checker_checkBranchIf 8 rfl) ?_
    obtain ⟨v8, ev8⟩ : ∃ x : Int32, x = (xb_i h3 b2 (Int32.toNatClampNeg r4)) := ⟨_, rfl⟩
    have hw := hw v8 ev8
    refine xt_numi (y := v8) ev8.symm ?_
    refine lv_istore_n hx hb (xb_d D_Checker_checkBranchIf 9 rfl) rfl hl (by decide) rfl (fun ls hl => ?_)
    have hl : lv_has ls 2 [(1, .int v8), (0, .ref x0)] := hl
    refine lv_aload_n hx hb (xb_d D_Checker_checkBranchIf 10 rfl) rfl (lv_at hl 1 rfl) ?_
    refine lv_bipush (v := 127) hx hb (xb_d D_Checker_checkBranchIf 11 rfl) (by decide) ?_
    have hk1 : xb_k h3 x0 = 5 := hEh3.k hk1
    obtain ⟨c11, sc11, hlc11, hlsc11, hw⟩ := hw
    refine xb_call (D := D) (A := A) (σ := σ) (h := h3) (d := 3) (mc := c11) (ms := sc11) (maxL := 3) (rest := []) (av := [.ref x0, .int 127]) (fun T hT X => by obtain ⟨cb, r1, r2, r3⟩ := xb_recv (ci := 4) hR rfl hk1 (by decide); exact xt_invV X hx hown (hts _ m_0b33e20f) (hts _ m_338dda25) (hts _ m_d7dc08f9) (xt_sigOf (hts _ m_b71cce2b)) nm_Checker_take (by rw [hT]; exact r1) r2 r3 (g := F0 m 19 ls [.int 127, .ref x0]) rfl (argsL := [.int 127]) (rest := []) rfl rfl (by rw [hb]; exact (xb_d D_Checker_checkBranchIf 12 rfl))) (ok_Checker_take l hfl D A σ x0 127 h3 c11 sc11 _ _ hw) (hml.trans hl.1.symm) (by rw [hb]; exact (xb_d D_Checker_checkBranchIf 12 rfl)) (Nat.le_of_ble_eq_true rfl) (Nat.le_of_ble_eq_true rfl) (Nat.le_of_ble_eq_true rfl) (show (k + c5) + c11 ≤ MC by omega) (show (n + sc5) + sc11 ≤ MS by omega) (xt_w1 hB.1 m_b71cce2b) (xt_cdOf hB.1 m_b71cce2b) (hts _ m_44748ce5) hB hR hS hA (fun vv h9 H locs hq hEh9 hR hS => ?_) (fun XX ax h9 H locs hq hEh9 hex hR hS => ?_)
    · obtain ⟨r10, rfl, hw⟩ := hq
      have hw := hw hEh9
      have hE := hE.tr hEh9
      refine W.eq (g2 := F0 m 22 ls [.int r10]) rfl ?_
      refine lv_pop hx hb (xb_d D_Checker_checkBranchIf 13 rfl) rfl ?_
      refine lv_aload_n hx hb (xb_d D_Checker_checkBranchIf 14 rfl) rfl (lv_at hl 1 rfl) ?_
      refine lv_iload_n hx hb (xb_d D_Checker_checkBranchIf 15 rfl) rfl (lv_at hl 0 rfl) ?_
      have hk1 : xb_k h9 x0 = 5 := hEh9.k hk1
      obtain ⟨c14, sc14, hlc14, hlsc14, hw⟩ := hw
      refine xb_call (D := D) (A := A) (σ := σ) (h := h9) (d := 3) (mc := c14) (ms := sc14) (maxL := 3) (rest := []) (av := [.ref x0, .int v8]) (fun T hT X => by obtain ⟨cb, r1, r2, r3⟩ := xb_recv (ci := 4) hR rfl hk1 (by decide); exact xt_invV X hx hown (hts _ m_0b33e20f) (hts _ m_338dda25) (hts _ m_d7dc08f9) (xt_sigOf (hts _ m_b71cce2b)) nm_Checker_take (by rw [hT]; exact r1) r2 r3 (g := F0 m 25 ls [.int v8, .ref x0]) rfl (argsL := [.int v8]) (rest := []) rfl rfl (by rw [hb]; exact (xb_d D_Checker_checkBranchIf 16 rfl))) (ok_Checker_take l hfl D A σ x0 v8 h9 c14 sc14 _ _ hw) (hml.trans hl.1.symm) (by rw [hb]; exact (xb_d D_Checker_checkBranchIf 16 rfl)) (Nat.le_of_ble_eq_true rfl) (Nat.le_of_ble_eq_true rfl) (Nat.le_of_ble_eq_true rfl) (show ((k + c5) + c11) + c14 ≤ MC by omega) (show ((n + sc5) + sc11) + sc14 ≤ MS by omega) (xt_w1 hB.1 m_b71cce2b) (xt_cdOf hB.1 m_b71cce2b) (hts _ m_44748ce5) hB hR hS hA (fun vv h12 H locs hq hEh12 hR hS => ?_) (fun XX ax h12 H locs hq hEh12 hex hR hS => ?_)
      · obtain ⟨r13, rfl, hw⟩ := hq
        have hw := hw hEh12
        have hE := hE.tr hEh12
        refine W.eq (g2 := F0 m 28 ls [.int r13]) rfl ?_
        refine lv_pop hx hb (xb_d D_Checker_checkBranchIf 17 rfl) rfl ?_
        refine lv_aload_n hx hb (xb_d D_Checker_checkBranchIf 18 rfl) rfl (lv_at hl 1 rfl) ?_
        refine lv_iload_n hx hb (xb_d D_Checker_checkBranchIf 19 rfl) rfl (lv_at hl 0 rfl) ?_
        have hk1 : xb_k h12 x0 = 5 := hEh12.k hk1
        refine xb_call (D := D) (A := A) (σ := σ) (h := h12) (d := 2) (mc := 0) (ms := 0) (maxL := 2) (rest := []) (av := [.ref x0, .int v8]) (fun T hT X => by obtain ⟨cb, r1, r2, r3⟩ := xb_recv (ci := 4) hR rfl hk1 (by decide); exact xt_invV X hx hown (hts _ m_761ff7fc) (hts _ m_e867be1e) (hts _ m_098fc344) (xt_sigOf (hts _ m_43ff17c7)) nm_Checker_put (by rw [hT]; exact r1) r2 r3 (g := F0 m 31 ls [.int v8, .ref x0]) rfl (argsL := [.int v8]) (rest := []) rfl rfl (by rw [hb]; exact (xb_d D_Checker_checkBranchIf 20 rfl))) (ok_Checker_put l hfl D A σ x0 v8 h12 _ hw) (hml.trans hl.1.symm) (by rw [hb]; exact (xb_d D_Checker_checkBranchIf 20 rfl)) (Nat.le_of_ble_eq_true rfl) (Nat.le_of_ble_eq_true rfl) (Nat.le_of_ble_eq_true rfl) (show (((k + c5) + c11) + c14) + 0 ≤ MC by omega) (show (((n + sc5) + sc11) + sc14) + 0 ≤ MS by omega) (xt_w1 hB.1 m_43ff17c7) (xt_cdOf hB.1 m_43ff17c7) (hts _ m_44748ce5) hB hR hS hA (fun vv h15 H locs hq hEh15 hR hS => ?_) (fun XX ax h15 H locs hq hEh15 hex hR hS => ?_)
        · obtain ⟨rfl, hw⟩ := hq
          have hw := hw hEh15
          have hE := hE.tr hEh15
          refine W.eq (g2 := F0 m 34 ls []) rfl ?_
          exact xb_vret hx hb hr hlocks (show (((k + c5) + c11) + c14) ≤ MC by omega) (show (((n + sc5) + sc11) + sc14) ≤ MS by omega) hE hR hS (xb_d D_Checker_checkBranchIf 21 rfl) hw
        · exact False.elim hq
      · exact xb_pass hlocks (fun x hx9 => by rw [htab] at hx9; first | cases hx9 | (simp [tableOf] at hx9; rcases hx9 with rfl | rfl | rfl <;> decide)) (show (((k + c5) + c11) + c14) ≤ MC by omega) (show (((n + sc5) + sc11) + sc14) ≤ MS by omega) (hE.tr hEh12) hR hS hex hq
    · exact xb_pass hlocks (fun x hx9 => by rw [htab] at hx9; first | cases hx9 | (simp [tableOf] at hx9; rcases hx9 with rfl | rfl | rfl <;> decide)) (show ((k + c5) + c11) ≤ MC by omega) (show ((n + sc5) + sc11) ≤ MS by omega) (hE.tr hEh9) hR hS hex hq
  · exact xb_pass hlocks (fun x hx9 => by rw [htab] at hx9; first | cases hx9 | (simp [tableOf] at hx9; rcases hx9 with rfl | rfl | rfl <;> decide)) (show (k + c5) ≤ MC by omega) (show (n + sc5) ≤ MS by omega) (hE.tr hEh3) hR hS hex hq

