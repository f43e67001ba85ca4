theorem m_1a463606 : (.constantLong "StackHost$Reader" 129 255 : Cond) ∈ xt_tbl := xt_in (xt_t4 (List.mem_of_getElem? (i := 65) (by decide +kernel))) (by decide +kernel)
set_option maxRecDepth 100000 in
def T_Reader_plainBytes : List (Nat × Instr × Nat) := [(0, .iload_n 1, 1), (1, .aload_n 0, 1), (2, .getfield 30, 3), (5, .aload_n 0, 1), (6, .getfield 41, 3), (9, .isub, 1), (10, .if_icmp .le 15, 3), (13, .aload_n 0, 1), (14, .getfield 15, 3), (17, .iconst 2, 1), (18, .aload_n 0, 1), (19, .getfield 30, 3), (22, .invokevirtual 37, 3), (25, .lconst 0, 1), (26, .lstore_n 2, 1), (27, .iconst 0, 1), (28, .istore 4, 2), (30, .iload 4, 2), (32, .iload_n 1, 1), (33, .if_icmp .ge 35, 3), (36, .lload_n 2, 1), (37, .aload_n 0, 1), (38, .getfield 25, 3), (41, .aload_n 0, 1), (42, .getfield 41, 3), (45, .iload 4, 2), (47, .iadd, 1), (48, .baload, 1), (49, .i2l, 1), (50, .ldc2_w 129, 3), (53, .land, 1), (54, .bipush 8, 2), (56, .iload 4, 2), (58, .imul, 1), (59, .lshl, 1), (60, .lor, 1), (61, .lstore_n 2, 1), (62, .iinc 4 1, 3), (65, .goto (-35), 3), (68, .aload_n 0, 1), (69, .dup, 1), (70, .getfield 41, 3), (73, .iload_n 1, 1), (74, .iadd, 1), (75, .putfield 41, 3), (78, .lload_n 2, 1), (79, .lreturn, 1)]
theorem D_Reader_plainBytes : ∀ q ∈ T_Reader_plainBytes, decode b_Reader_plainBytes q.1 = .ok (q.2.1, q.2.2) := by decide +kernel

set_option maxHeartbeats 4000000 in
set_option maxRecDepth 100000 in
theorem am_Reader_plainBytes_L30 (l : Launch) (hfl : l.flags = pinnedFlags ++ [noTraceFlag]) (D : va_G) (A : Nat → Prop) (σ MC MS : Nat) (h0 : xb_H) (Qr : Int64 → xb_H → Nat → Nat → Prop) (Qt : String → xb_H → Nat → Nat → Prop) (n9 : Nat) : ∀ (x0 : Nat) (x1 : Int32) (x2 : Int64) (x4 : Int32) (h : xb_H) (bc : Nat) (bs : Nat), w_Reader_plainBytes_L30 Qr Qt n9 x0 x1 x2 x4 h bc bs → xb_am l D A σ 3 MC MS h0 (fun v h bc bs => ∃ r, v = some (.long r) ∧ Qr r h bc bs) Qt y_Reader_plainBytes.cls y_Reader_plainBytes.name b_Reader_plainBytes 5 ([] : List ExceptionTableEntry) (some .long) 30 [(0, .ref x0), (1, .int x1), (2, .long x2), (4, .int x4)] [] h bc bs := by
  induction n9 with
  | zero => intro x0 x1 x2 x4 h bc bs hw; exact False.elim hw
  | succ n9 ih =>
    intro x0 x1 x2 x4 h bc bs hw
    unfold w_Reader_plainBytes_L30 at hw
    intro p e s m args below meth c hC H locs ls k n hE hl hR hS hk hn
    obtain ⟨hx, hb, hown, hlocks, htab, hml, hr, hB, hA, hnm⟩ := id hC
    have hts := hB.1.1.at args
    refine lv_iload hx hb (xb_d D_Reader_plainBytes 17 rfl) (lv_at hl 3 rfl) ?_
    refine lv_iload_n hx hb (xb_d D_Reader_plainBytes 18 rfl) rfl (lv_at hl 1 rfl) ?_
    refine lv_icmp_ge (tgt := 68) hx hb (xb_d D_Reader_plainBytes 19 rfl) rfl (fun hc1 => ?_) (fun hc1 => ?_)
    · have hw := hw.1 hc1
      refine lv_aload_n hx hb (xb_d D_Reader_plainBytes 39 rfl) rfl (lv_at hl 0 rfl) ?_
      refine lv_dup hx hb (xb_d D_Reader_plainBytes 40 rfl) rfl ?_
      obtain ⟨hk2, hw⟩ := hw
      refine xb_getI (C := R_Reader) (T := F_Reader) (N := 6) hx hb 3 3 hts fin_Reader hown hR hk2 (by decide) rfl (by decide) rfl (hts _ m_a9b84ac2) (fun _ h9 => h9) (xb_d D_Reader_plainBytes 41 rfl) ?_
      refine lv_iload_n hx hb (xb_d D_Reader_plainBytes 42 rfl) rfl (lv_at hl 1 rfl) ?_
      refine lv_iadd hx hb (xb_d D_Reader_plainBytes 43 rfl) ?_
      refine xb_putI (C := R_Reader) (T := F_Reader) (N := 6) (ty := .int) (x := ((xb_i h x0 3) + x1)) hx hb 3 3 hts fin_Reader t_Reader t_Reader_ok n_Reader hown hR hS hk2 (by decide) rfl (by decide) rfl (hts _ m_a9b84ac2) (fun _ h9 => h9) rfl (by decide +kernel) rfl rfl (xb_d D_Reader_plainBytes 44 rfl) (fun H locs hR hS => ?_)
      obtain ⟨h3, eh3⟩ : ∃ x : xb_H, x = xb_I h x0 3 ((xb_i h x0 3) + x1) := ⟨_, rfl⟩
      rw [← eh3] at hR
      have hw := hw h3 eh3
      have hE : xb_ext h0 h3 := by rw [eh3]; exact hE
      refine lv_lload_n hx hb (xb_d D_Reader_plainBytes 45 rfl) rfl (lv_at hl 2 rfl) ?_
      exact xb_lret bc bs hx hb hr hlocks (show k + bc ≤ MC by omega) (show n + bs ≤ MS by omega) hE hR hS (xb_d D_Reader_plainBytes 46 rfl) hw
    · have hw := hw.2 hc1
      refine lv_lload_n hx hb (xb_d D_Reader_plainBytes 20 rfl) rfl (lv_at hl 2 rfl) ?_
      refine lv_aload_n hx hb (xb_d D_Reader_plainBytes 21 rfl) rfl (lv_at hl 0 rfl) ?_
      obtain ⟨hk4, hw⟩ := hw
      refine xb_getP (C := R_Reader) (T := F_Reader) (N := 6) hx hb 3 1 hts fin_Reader hown hR hk4 (by decide) rfl (by decide) rfl (hts _ m_d1ba4be8) (fun _ h9 => h9) (xb_d D_Reader_plainBytes 22 rfl) ?_
      obtain ⟨b5, eb5, hw⟩ := hw
      refine xb_some eb5 ?_
      refine lv_aload_n hx hb (xb_d D_Reader_plainBytes 23 rfl) rfl (lv_at hl 0 rfl) ?_
      refine xb_getI (C := R_Reader) (T := F_Reader) (N := 6) hx hb 3 3 hts fin_Reader hown hR hk4 (by decide) rfl (by decide) rfl (hts _ m_a9b84ac2) (fun _ h9 => h9) (xb_d D_Reader_plainBytes 24 rfl) ?_
      refine lv_iload hx hb (xb_d D_Reader_plainBytes 25 rfl) (lv_at hl 3 rfl) ?_
      refine lv_iadd hx hb (xb_d D_Reader_plainBytes 26 rfl) ?_
      obtain ⟨hk7, hw⟩ := hw
      obtain ⟨hi6, hw⟩ := hw
      refine xb_bald hx hb hR hk7 hi6 (xb_d D_Reader_plainBytes 27 rfl) ?_
      refine lv_i2l hx hb (xb_d D_Reader_plainBytes 28 rfl) rfl ?_
      refine lv_ldc2 (v := 255) hx hb hown (hts _ m_1a463606) (xb_d D_Reader_plainBytes 29 rfl) ?_
      refine lv_land hx hb (xb_d D_Reader_plainBytes 30 rfl) ?_
      refine lv_bipush (v := 8) hx hb (xb_d D_Reader_plainBytes 31 rfl) (by decide) ?_
      refine lv_iload hx hb (xb_d D_Reader_plainBytes 32 rfl) (lv_at hl 3 rfl) ?_
      refine lv_imul hx hb (xb_d D_Reader_plainBytes 33 rfl) ?_
      refine lv_lshl (v := (xb_lshl ((Int32.toInt64 (xb_i h b5 (Int32.toNatClampNeg ((xb_i h x0 3) + x4)))) &&& 255) (8 * x4))) hx hb (xb_d D_Reader_plainBytes 34 rfl) rfl ?_
      refine lv_lor hx hb (xb_d D_Reader_plainBytes 35 rfl) ?_
      obtain ⟨v8, ev8⟩ : ∃ x : Int64, x = (x2 ||| (xb_lshl ((Int32.toInt64 (xb_i h b5 (Int32.toNatClampNeg ((xb_i h x0 3) + x4)))) &&& 255) (8 * x4))) := ⟨_, rfl⟩
      have hw := hw v8 ev8
      refine xt_numl (y := v8) ev8.symm ?_
      refine lv_lstore_n hx hb (xb_d D_Reader_plainBytes 36 rfl) rfl hl (by decide) rfl (fun ls hl => ?_)
      have hl : lv_has ls 5 [(2, .long v8), (0, .ref x0), (1, .int x1), (4, .int x4)] := hl
      refine lv_iinc (v := (x4 + 1)) (k := 3) hx hb (xb_d D_Reader_plainBytes 37 rfl) hl rfl (by first | rfl | decide) (by decide) rfl (fun ls hl => ?_)
      have hl : lv_has ls 5 [(4, .int (x4 + 1)), (2, .long v8), (0, .ref x0), (1, .int x1)] := hl
      refine lv_goto (tgt := 30) hx hb (xb_d D_Reader_plainBytes 38 rfl) rfl ?_
      exact ih x0 x1 v8 (x4 + 1) h bc bs hw p e s m args below meth c hC H locs ls k n hE (lv_sub hl [2, 3, 1, 0] rfl) hR hS (by omega) (by omega)

set_option maxHeartbeats 4000000 in
set_option maxRecDepth 100000 in
theorem am_Reader_plainBytes_L25 (l : Launch) (hfl : l.flags = pinnedFlags ++ [noTraceFlag]) (D : va_G) (A : Nat → Prop) (σ MC MS : Nat) (h0 : xb_H) (Qr : Int64 → xb_H → Nat → Nat → Prop) (Qt : String → xb_H → Nat → Nat → Prop) (x0 : Nat) (x1 : Int32) (h : xb_H) (bc : Nat) (bs : Nat) (hw : w_Reader_plainBytes_L25 Qr Qt x0 x1 h bc bs) : xb_am l D A σ 3 MC MS h0 (fun v h bc bs => ∃ r, v = some (.long r) ∧ Qr r h bc bs) Qt y_Reader_plainBytes.cls y_Reader_plainBytes.name b_Reader_plainBytes 5 ([] : List ExceptionTableEntry) (some .long) 25 [(0, .ref x0), (1, .int x1)] [] h bc bs := by
  unfold w_Reader_plainBytes_L25 at hw
  intro p e s m args below meth c hC H locs ls k n hE hl hR hS hk hn
  obtain ⟨hx, hb, hown, hlocks, htab, hml, hr, hB, hA, hnm⟩ := id hC
  have hts := hB.1.1.at args
  refine lv_lconst (v := 0) hx hb (xb_d D_Reader_plainBytes 13 rfl) (by decide) ?_
  refine lv_lstore_n hx hb (xb_d D_Reader_plainBytes 14 rfl) rfl hl (by decide) rfl (fun ls hl => ?_)
  have hl : lv_has ls 5 [(2, .long 0), (0, .ref x0), (1, .int x1)] := hl
  refine lv_iconst (v := 0) hx hb (xb_d D_Reader_plainBytes 15 rfl) (by decide) ?_
  refine lv_istore hx hb (xb_d D_Reader_plainBytes 16 rfl) hl (by decide) rfl (fun ls hl => ?_)
  have hl : lv_has ls 5 [(4, .int 0), (2, .long 0), (0, .ref x0), (1, .int x1)] := hl
  obtain ⟨n8, hw⟩ := hw
  exact am_Reader_plainBytes_L30 l hfl D A σ MC MS h0 Qr Qt n8 x0 x1 0 0 h bc bs hw p e s m args below meth c hC H locs ls k n hE (lv_sub hl [2, 3, 1, 0] rfl) hR hS (by omega) (by omega)

set_option maxHeartbeats 4000000 in
set_option maxRecDepth 100000 in
theorem ok_Reader_plainBytes (l : Launch) (hfl : l.flags = pinnedFlags ++ [noTraceFlag]) (D : va_G) (A : Nat → Prop) (σ : Nat) (x0 : Nat) (x1 : Int32) (h : xb_H) (bc : Nat) (bs : Nat) (Qr : Int64 → xb_H → Nat → Nat → Prop) (Qt : String → xb_H → Nat → Nat → Prop) (hw : w_Reader_plainBytes x0 x1 h bc bs Qr Qt) : xb_Met l y_Reader_plainBytes [.code y_Reader_plainBytes b_Reader_plainBytes 5 (some .long)] (xb_rm 3 bc bs) (xb_Pc D A σ h [.ref x0, .int x1]) (xb_Qc D A h bc bs (fun v h bc bs => ∃ r, v = some (.long r) ∧ Qr r h bc bs) Qt) A := by
  refine xb_ofAm (cc := b_Reader_plainBytes) (by decide) (Nat.le_of_ble_eq_true rfl) ?_
  unfold w_Reader_plainBytes at hw
  show xb_am l D A σ 3 bc bs h (fun v h bc bs => ∃ r, v = some (.long r) ∧ Qr r h bc bs) Qt y_Reader_plainBytes.cls y_Reader_plainBytes.name b_Reader_plainBytes 5 ([] : List ExceptionTableEntry) (some .long) 0 [(0, .ref x0), (1, .int x1)] [] h bc bs
  obtain ⟨MC, hMC⟩ : ∃ x, x = bc := ⟨_, rfl⟩
  obtain ⟨MS, hMS⟩ : ∃ x, x = bs := ⟨_, rfl⟩
  rw [show xb_am l D A σ 3 bc bs = xb_am l D A σ 3 MC MS by rw [hMC, hMS]]
  obtain ⟨h0, hh0⟩ : ∃ x, x = h := ⟨_, rfl⟩
  rw [show xb_am l D A σ 3 MC MS h = xb_am l D A σ 3 MC MS h0 by rw [hh0]]
  intro p e s m args below meth c hC H locs ls k n hE hl hR hS hk hn
  obtain ⟨hx, hb, hown, hlocks, htab, hml, hr, hB, hA, hnm⟩ := id hC
  have hts := hB.1.1.at args
  refine lv_iload_n hx hb (xb_d D_Reader_plainBytes 0 rfl) rfl (lv_at hl 1 rfl) ?_
  refine lv_aload_n hx hb (xb_d D_Reader_plainBytes 1 rfl) rfl (lv_at hl 0 rfl) ?_
  obtain ⟨hk1, hw⟩ := hw
  refine xb_getI (C := R_Reader) (T := F_Reader) (N := 6) hx hb 3 4 hts fin_Reader hown hR hk1 (by decide) rfl (by decide) rfl (hts _ m_49916c4b) (fun _ h9 => h9) (xb_d D_Reader_plainBytes 2 rfl) ?_
  refine lv_aload_n hx hb (xb_d D_Reader_plainBytes 3 rfl) rfl (lv_at hl 0 rfl) ?_
  refine xb_getI (C := R_Reader) (T := F_Reader) (N := 6) hx hb 3 3 hts fin_Reader hown hR hk1 (by decide) rfl (by decide) rfl (hts _ m_a9b84ac2) (fun _ h9 => h9) (xb_d D_Reader_plainBytes 4 rfl) ?_
  refine lv_isub hx hb (xb_d D_Reader_plainBytes 5 rfl) ?_
  refine lv_icmp_le (tgt := 25) hx hb (xb_d D_Reader_plainBytes 6 rfl) rfl (fun hc2 => ?_) (fun hc2 => ?_)
  · have hw := hw.1 hc2
    exact am_Reader_plainBytes_L25 l hfl D A σ MC MS h0 Qr Qt x0 x1 h bc bs hw p e s m args below meth c hC H locs ls k n hE (lv_sub hl [0, 1] rfl) hR hS (by omega) (by omega)
  · have hw := hw.2 hc2
    refine lv_aload_n hx hb (xb_d D_Reader_plainBytes 7 rfl) rfl (lv_at hl 0 rfl) ?_
    refine xb_getP (C := R_Reader) (T := F_Reader) (N := 6) hx hb 3 0 hts fin_Reader hown hR hk1 (by decide) rfl (by decide) rfl (hts _ m_76d8349c) (fun _ h9 => h9) (xb_d D_Reader_plainBytes 8 rfl) ?_
    obtain ⟨b3, eb3, hw⟩ := hw
    refine xb_some eb3 ?_
    refine lv_iconst (v := 2) hx hb (xb_d D_Reader_plainBytes 9 rfl) (by decide) ?_
    refine lv_aload_n hx hb (xb_d D_Reader_plainBytes 10 rfl) rfl (lv_at hl 0 rfl) ?_
    refine xb_getI (C := R_Reader) (T := F_Reader) (N := 6) hx hb 3 4 hts fin_Reader hown hR hk1 (by decide) rfl (by decide) rfl (hts _ m_49916c4b) (fun _ h9 => h9) (xb_d D_Reader_plainBytes 11 rfl) ?_
    obtain ⟨hk4, hw⟩ := hw
    refine xb_call (D := D) (A := A) (σ := σ) (h := h) (d := 2) (mc := bc) (ms := bs) (maxL := 3) (rest := []) (av := [.ref b3, .int 2, .int (xb_i h x0 4)]) (fun T hT X => by obtain ⟨cb9, ra9, rb9, rc9⟩ := xb_recv (ci := 2) hR rfl hk4 (by decide); exact xt_invV X hx hown (hts _ m_6fcde429) (hts _ m_865d5b07) (hts _ m_113f8f75) (xt_sigOf (hts _ m_73e65e5f)) nm_StackModule_fail (by rw [hT]; exact ra9) rb9 rc9 (g := F0 m 22 ls [.int (xb_i h x0 4), .int 2, .ref b3]) rfl (argsL := [.int 2, .int (xb_i h x0 4)]) (rest := []) rfl rfl (by rw [hb]; exact (xb_d D_Reader_plainBytes 12 rfl))) (ok_StackModule_fail l hfl D A σ b3 2 (xb_i h x0 4) h bc bs _ _ hw) (hml.trans hl.1.symm) (by rw [hb]; exact (xb_d D_Reader_plainBytes 12 rfl)) (Nat.le_of_ble_eq_true rfl) (Nat.le_of_ble_eq_true rfl) (Nat.le_of_ble_eq_true rfl) (show k + bc ≤ MC by omega) (show n + bs ≤ MS by omega) (xt_w1 hB.1 m_73e65e5f) (xt_cdOf hB.1 m_73e65e5f) (hts _ m_9c375545) hB hR hS hA (fun vv h5 bc6 bs6 kk6 nn6 H locs hk6 hn6 hq hEh5 hR hS => ?_) (fun XX ax h5 bc6 bs6 kk6 nn6 H locs hk6 hn6 hq hEh5 hex hR hS => ?_)
    · obtain ⟨rfl, hw⟩ := hq
      have hw := hw hEh5
      have hE := hE.tr hEh5
      refine W.eq (g2 := F0 m 25 ls []) rfl ?_
      exact am_Reader_plainBytes_L25 l hfl D A σ MC MS h0 Qr Qt x0 x1 h5 bc6 bs6 hw p e s m args below meth c hC H locs ls (k + kk6) (n + nn6) hE (lv_sub hl [0, 1] rfl) hR hS (by omega) (by omega)
    · exact xb_pass hlocks (fun x hx9 => by rw [htab] at hx9; first | (cases hx9; done) | (simp [tableOf] at hx9; subst hx9; decide) | (simp [tableOf] at hx9; rcases hx9 with rfl | rfl <;> decide) | (simp [tableOf] at hx9; rcases hx9 with rfl | rfl | rfl <;> decide)) (show (k + kk6) + bc6 ≤ MC by omega) (show (n + nn6) + bs6 ≤ MS by omega) (hE.tr hEh5) hR hS hex hq

set_option maxRecDepth 100000 in
def T_Reader_readMark : List (Nat × Instr × Nat) := [(0, .aload_n 0, 1), (1, .getfield 41, 3), (4, .aload_n 0, 1), (5, .getfield 30, 3), (8, .if_icmp .lt 15, 3), (11, .aload_n 0, 1), (12, .getfield 15, 3), (15, .iconst 2, 1), (16, .aload_n 0, 1), (17, .getfield 30, 3), (20, .invokevirtual 37, 3), (23, .aload_n 0, 1), (24, .getfield 25, 3), (27, .aload_n 0, 1), (28, .getfield 41, 3), (31, .baload, 1), (32, .iload_n 1, 1), (33, .if_icmp .eq 15, 3), (36, .aload_n 0, 1), (37, .getfield 15, 3), (40, .iconst 5, 1), (41, .aload_n 0, 1), (42, .getfield 41, 3), (45, .invokevirtual 37, 3), (48, .aload_n 0, 1), (49, .dup, 1), (50, .getfield 41, 3), (53, .iconst 1, 1), (54, .iadd, 1), (55, .putfield 41, 3), (58, .return_, 1)]
theorem D_Reader_readMark : ∀ q ∈ T_Reader_readMark, decode b_Reader_readMark q.1 = .ok (q.2.1, q.2.2) := by decide +kernel

set_option maxHeartbeats 4000000 in
set_option maxRecDepth 100000 in
theorem am_Reader_readMark_L48 (l : Launch) (hfl : l.flags = pinnedFlags ++ [noTraceFlag]) (D : va_G) (A : Nat → Prop) (σ MC MS : Nat) (h0 : xb_H) (Qr : xb_H → Nat → Nat → Prop) (Qt : String → xb_H → Nat → Nat → Prop) (x0 : Nat) (h : xb_H) (bc : Nat) (bs : Nat) (hw : w_Reader_readMark_L48 Qr Qt x0 h bc bs) : xb_am l D A σ 3 MC MS h0 (fun v h bc bs => v = none ∧ Qr h bc bs) Qt y_Reader_readMark.cls y_Reader_readMark.name b_Reader_readMark 2 ([] : List ExceptionTableEntry) none 48 [(0, .ref x0)] [] h bc bs := by
  unfold w_Reader_readMark_L48 at hw
  intro p e s m args below meth c hC H locs ls k n hE hl hR hS hk hn
  obtain ⟨hx, hb, hown, hlocks, htab, hml, hr, hB, hA, hnm⟩ := id hC
  have hts := hB.1.1.at args
  refine lv_aload_n hx hb (xb_d D_Reader_readMark 24 rfl) rfl (lv_at hl 0 rfl) ?_
  refine lv_dup hx hb (xb_d D_Reader_readMark 25 rfl) rfl ?_
  obtain ⟨hk1, hw⟩ := hw
  refine xb_getI (C := R_Reader) (T := F_Reader) (N := 6) hx hb 3 3 hts fin_Reader hown hR hk1 (by decide) rfl (by decide) rfl (hts _ m_a9b84ac2) (fun _ h9 => h9) (xb_d D_Reader_readMark 26 rfl) ?_
  refine lv_iconst (v := 1) hx hb (xb_d D_Reader_readMark 27 rfl) (by decide) ?_
  refine lv_iadd hx hb (xb_d D_Reader_readMark 28 rfl) ?_
  refine xb_putI (C := R_Reader) (T := F_Reader) (N := 6) (ty := .int) (x := ((xb_i h x0 3) + 1)) hx hb 3 3 hts fin_Reader t_Reader t_Reader_ok n_Reader hown hR hS hk1 (by decide) rfl (by decide) rfl (hts _ m_a9b84ac2) (fun _ h9 => h9) rfl (by decide +kernel) rfl rfl (xb_d D_Reader_readMark 29 rfl) (fun H locs hR hS => ?_)
  obtain ⟨h2, eh2⟩ : ∃ x : xb_H, x = xb_I h x0 3 ((xb_i h x0 3) + 1) := ⟨_, rfl⟩
  rw [← eh2] at hR
  have hw := hw h2 eh2
  have hE : xb_ext h0 h2 := by rw [eh2]; exact hE
  exact xb_vret bc bs hx hb hr hlocks (show k + bc ≤ MC by omega) (show n + bs ≤ MS by omega) hE hR hS (xb_d D_Reader_readMark 30 rfl) hw

set_option maxHeartbeats 4000000 in
set_option maxRecDepth 100000 in
theorem am_Reader_readMark_L23 (l : Launch) (hfl : l.flags = pinnedFlags ++ [noTraceFlag]) (D : va_G) (A : Nat → Prop) (σ MC MS : Nat) (h0 : xb_H) (Qr : xb_H → Nat → Nat → Prop) (Qt : String → xb_H → Nat → Nat → Prop) (x0 : Nat) (x1 : Int32) (h : xb_H) (bc : Nat) (bs : Nat) (hw : w_Reader_readMark_L23 Qr Qt x0 x1 h bc bs) : xb_am l D A σ 3 MC MS h0 (fun v h bc bs => v = none ∧ Qr h bc bs) Qt y_Reader_readMark.cls y_Reader_readMark.name b_Reader_readMark 2 ([] : List ExceptionTableEntry) none 23 [(0, .ref x0), (1, .int x1)] [] h bc bs := by
  unfold w_Reader_readMark_L23 at hw
  intro p e s m args below meth c hC H locs ls k n hE hl hR hS hk hn
  obtain ⟨hx, hb, hown, hlocks, htab, hml, hr, hB, hA, hnm⟩ := id hC
  have hts := hB.1.1.at args
  refine lv_aload_n hx hb (xb_d D_Reader_readMark 11 rfl) rfl (lv_at hl 0 rfl) ?_
  obtain ⟨hk1, hw⟩ := hw
  refine xb_getP (C := R_Reader) (T := F_Reader) (N := 6) hx hb 3 1 hts fin_Reader hown hR hk1 (by decide) rfl (by decide) rfl (hts _ m_d1ba4be8) (fun _ h9 => h9) (xb_d D_Reader_readMark 12 rfl) ?_
  obtain ⟨b2, eb2, hw⟩ := hw
  refine xb_some eb2 ?_
  refine lv_aload_n hx hb (xb_d D_Reader_readMark 13 rfl) rfl (lv_at hl 0 rfl) ?_
  refine xb_getI (C := R_Reader) (T := F_Reader) (N := 6) hx hb 3 3 hts fin_Reader hown hR hk1 (by decide) rfl (by decide) rfl (hts _ m_a9b84ac2) (fun _ h9 => h9) (xb_d D_Reader_readMark 14 rfl) ?_
  obtain ⟨hk4, hw⟩ := hw
  obtain ⟨hi3, hw⟩ := hw
  refine xb_bald hx hb hR hk4 hi3 (xb_d D_Reader_readMark 15 rfl) ?_
  refine lv_iload_n hx hb (xb_d D_Reader_readMark 16 rfl) rfl (lv_at hl 1 rfl) ?_
  refine lv_icmp_eq (tgt := 48) hx hb (xb_d D_Reader_readMark 17 rfl) rfl (fun hc5 => ?_) (fun hc5 => ?_)
  · have hw := hw.1 hc5
    exact am_Reader_readMark_L48 l hfl D A σ MC MS h0 Qr Qt x0 h bc bs hw p e s m args below meth c hC H locs ls k n hE (lv_sub hl [0] rfl) hR hS (by omega) (by omega)
  · have hw := hw.2 hc5
    refine lv_aload_n hx hb (xb_d D_Reader_readMark 18 rfl) rfl (lv_at hl 0 rfl) ?_
    refine xb_getP (C := R_Reader) (T := F_Reader) (N := 6) hx hb 3 0 hts fin_Reader hown hR hk1 (by decide) rfl (by decide) rfl (hts _ m_76d8349c) (fun _ h9 => h9) (xb_d D_Reader_readMark 19 rfl) ?_
    obtain ⟨b6, eb6, hw⟩ := hw
    refine xb_some eb6 ?_
    refine lv_iconst (v := 5) hx hb (xb_d D_Reader_readMark 20 rfl) (by decide) ?_
    refine lv_aload_n hx hb (xb_d D_Reader_readMark 21 rfl) rfl (lv_at hl 0 rfl) ?_
    refine xb_getI (C := R_Reader) (T := F_Reader) (N := 6) hx hb 3 3 hts fin_Reader hown hR hk1 (by decide) rfl (by decide) rfl (hts _ m_a9b84ac2) (fun _ h9 => h9) (xb_d D_Reader_readMark 22 rfl) ?_
    obtain ⟨hk7, hw⟩ := hw
    refine xb_call (D := D) (A := A) (σ := σ) (h := h) (d := 2) (mc := bc) (ms := bs) (maxL := 3) (rest := []) (av := [.ref b6, .int 5, .int (xb_i h x0 3)]) (fun T hT X => by obtain ⟨cb9, ra9, rb9, rc9⟩ := xb_recv (ci := 2) hR rfl hk7 (by decide); exact xt_invV X hx hown (hts _ m_6fcde429) (hts _ m_865d5b07) (hts _ m_113f8f75) (xt_sigOf (hts _ m_73e65e5f)) nm_StackModule_fail (by rw [hT]; exact ra9) rb9 rc9 (g := F0 m 45 ls [.int (xb_i h x0 3), .int 5, .ref b6]) rfl (argsL := [.int 5, .int (xb_i h x0 3)]) (rest := []) rfl rfl (by rw [hb]; exact (xb_d D_Reader_readMark 23 rfl))) (ok_StackModule_fail l hfl D A σ b6 5 (xb_i h x0 3) h bc bs _ _ hw) (hml.trans hl.1.symm) (by rw [hb]; exact (xb_d D_Reader_readMark 23 rfl)) (Nat.le_of_ble_eq_true rfl) (Nat.le_of_ble_eq_true rfl) (Nat.le_of_ble_eq_true rfl) (show k + bc ≤ MC by omega) (show n + bs ≤ MS by omega) (xt_w1 hB.1 m_73e65e5f) (xt_cdOf hB.1 m_73e65e5f) (hts _ m_9c375545) hB hR hS hA (fun vv h8 bc9 bs9 kk9 nn9 H locs hk9 hn9 hq hEh8 hR hS => ?_) (fun XX ax h8 bc9 bs9 kk9 nn9 H locs hk9 hn9 hq hEh8 hex hR hS => ?_)
    · obtain ⟨rfl, hw⟩ := hq
      have hw := hw hEh8
      have hE := hE.tr hEh8
      refine W.eq (g2 := F0 m 48 ls []) rfl ?_
      exact am_Reader_readMark_L48 l hfl D A σ MC MS h0 Qr Qt x0 h8 bc9 bs9 hw p e s m args below meth c hC H locs ls (k + kk9) (n + nn9) hE (lv_sub hl [0] rfl) hR hS (by omega) (by omega)
    · exact xb_pass hlocks (fun x hx9 => by rw [htab] at hx9; first | (cases hx9; done) | (simp [tableOf] at hx9; subst hx9; decide) | (simp [tableOf] at hx9; rcases hx9 with rfl | rfl <;> decide) | (simp [tableOf] at hx9; rcases hx9 with rfl | rfl | rfl <;> decide)) (show (k + kk9) + bc9 ≤ MC by omega) (show (n + nn9) + bs9 ≤ MS by omega) (hE.tr hEh8) hR hS hex hq

set_option maxHeartbeats 4000000 in
set_option maxRecDepth 100000 in
theorem ok_Reader_readMark (l : Launch) (hfl : l.flags = pinnedFlags ++ [noTraceFlag]) (D : va_G) (A : Nat → Prop) (σ : Nat) (x0 : Nat) (x1 : Int32) (h : xb_H) (bc : Nat) (bs : Nat) (Qr : xb_H → Nat → Nat → Prop) (Qt : String → xb_H → Nat → Nat → Prop) (hw : w_Reader_readMark x0 x1 h bc bs Qr Qt) : xb_Met l y_Reader_readMark [.code y_Reader_readMark b_Reader_readMark 2 none] (xb_rm 3 bc bs) (xb_Pc D A σ h [.ref x0, .int x1]) (xb_Qc D A h bc bs (fun v h bc bs => v = none ∧ Qr h bc bs) Qt) A := by
  refine xb_ofAm (cc := b_Reader_readMark) (by decide) (Nat.le_of_ble_eq_true rfl) ?_
  unfold w_Reader_readMark at hw
  show xb_am l D A σ 3 bc bs h (fun v h bc bs => v = none ∧ Qr h bc bs) Qt y_Reader_readMark.cls y_Reader_readMark.name b_Reader_readMark 2 ([] : List ExceptionTableEntry) none 0 [(0, .ref x0), (1, .int x1)] [] h bc bs
  obtain ⟨MC, hMC⟩ : ∃ x, x = bc := ⟨_, rfl⟩
  obtain ⟨MS, hMS⟩ : ∃ x, x = bs := ⟨_, rfl⟩
  rw [show xb_am l D A σ 3 bc bs = xb_am l D A σ 3 MC MS by rw [hMC, hMS]]
  obtain ⟨h0, hh0⟩ : ∃ x, x = h := ⟨_, rfl⟩
  rw [show xb_am l D A σ 3 MC MS h = xb_am l D A σ 3 MC MS h0 by rw [hh0]]
  intro p e s m args below meth c hC H locs ls k n hE hl hR hS hk hn
  obtain ⟨hx, hb, hown, hlocks, htab, hml, hr, hB, hA, hnm⟩ := id hC
  have hts := hB.1.1.at args
  refine lv_aload_n hx hb (xb_d D_Reader_readMark 0 rfl) rfl (lv_at hl 0 rfl) ?_
  obtain ⟨hk1, hw⟩ := hw
  refine xb_getI (C := R_Reader) (T := F_Reader) (N := 6) hx hb 3 3 hts fin_Reader hown hR hk1 (by decide) rfl (by decide) rfl (hts _ m_a9b84ac2) (fun _ h9 => h9) (xb_d D_Reader_readMark 1 rfl) ?_
  refine lv_aload_n hx hb (xb_d D_Reader_readMark 2 rfl) rfl (lv_at hl 0 rfl) ?_
  refine xb_getI (C := R_Reader) (T := F_Reader) (N := 6) hx hb 3 4 hts fin_Reader hown hR hk1 (by decide) rfl (by decide) rfl (hts _ m_49916c4b) (fun _ h9 => h9) (xb_d D_Reader_readMark 3 rfl) ?_
  refine lv_icmp_lt (tgt := 23) hx hb (xb_d D_Reader_readMark 4 rfl) rfl (fun hc2 => ?_) (fun hc2 => ?_)
  · have hw := hw.1 hc2
    exact am_Reader_readMark_L23 l hfl D A σ MC MS h0 Qr Qt x0 x1 h bc bs hw p e s m args below meth c hC H locs ls k n hE (lv_sub hl [0, 1] rfl) hR hS (by omega) (by omega)
  · have hw := hw.2 hc2
    refine lv_aload_n hx hb (xb_d D_Reader_readMark 5 rfl) rfl (lv_at hl 0 rfl) ?_
    refine xb_getP (C := R_Reader) (T := F_Reader) (N := 6) hx hb 3 0 hts fin_Reader hown hR hk1 (by decide) rfl (by decide) rfl (hts _ m_76d8349c) (fun _ h9 => h9) (xb_d D_Reader_readMark 6 rfl) ?_
    obtain ⟨b3, eb3, hw⟩ := hw
    refine xb_some eb3 ?_
    refine lv_iconst (v := 2) hx hb (xb_d D_Reader_readMark 7 rfl) (by decide) ?_
    refine lv_aload_n hx hb (xb_d D_Reader_readMark 8 rfl) rfl (lv_at hl 0 rfl) ?_
    refine xb_getI (C := R_Reader) (T := F_Reader) (N := 6) hx hb 3 4 hts fin_Reader hown hR hk1 (by decide) rfl (by decide) rfl (hts _ m_49916c4b) (fun _ h9 => h9) (xb_d D_Reader_readMark 9 rfl) ?_
    obtain ⟨hk4, hw⟩ := hw
    refine xb_call (D := D) (A := A) (σ := σ) (h := h) (d := 2) (mc := bc) (ms := bs) (maxL := 3) (rest := []) (av := [.ref b3, .int 2, .int (xb_i h x0 4)]) (fun T hT X => by obtain ⟨cb9, ra9, rb9, rc9⟩ := xb_recv (ci := 2) hR rfl hk4 (by decide); exact xt_invV X hx hown (hts _ m_6fcde429) (hts _ m_865d5b07) (hts _ m_113f8f75) (xt_sigOf (hts _ m_73e65e5f)) nm_StackModule_fail (by rw [hT]; exact ra9) rb9 rc9 (g := F0 m 20 ls [.int (xb_i h x0 4), .int 2, .ref b3]) rfl (argsL := [.int 2, .int (xb_i h x0 4)]) (rest := []) rfl rfl (by rw [hb]; exact (xb_d D_Reader_readMark 10 rfl))) (ok_StackModule_fail l hfl D A σ b3 2 (xb_i h x0 4) h bc bs _ _ hw) (hml.trans hl.1.symm) (by rw [hb]; exact (xb_d D_Reader_readMark 10 rfl)) (Nat.le_of_ble_eq_true rfl) (Nat.le_of_ble_eq_true rfl) (Nat.le_of_ble_eq_true rfl) (show k + bc ≤ MC by omega) (show n + bs ≤ MS by omega) (xt_w1 hB.1 m_73e65e5f) (xt_cdOf hB.1 m_73e65e5f) (hts _ m_9c375545) hB hR hS hA (fun vv h5 bc6 bs6 kk6 nn6 H locs hk6 hn6 hq hEh5 hR hS => ?_) (fun XX ax h5 bc6 bs6 kk6 nn6 H locs hk6 hn6 hq hEh5 hex hR hS => ?_)
    · obtain ⟨rfl, hw⟩ := hq
      have hw := hw hEh5
      have hE := hE.tr hEh5
      refine W.eq (g2 := F0 m 23 ls []) rfl ?_
      exact am_Reader_readMark_L23 l hfl D A σ MC MS h0 Qr Qt x0 x1 h5 bc6 bs6 hw p e s m args below meth c hC H locs ls (k + kk6) (n + nn6) hE (lv_sub hl [0, 1] rfl) hR hS (by omega) (by omega)
    · exact xb_pass hlocks (fun x hx9 => by rw [htab] at hx9; first | (cases hx9; done) | (simp [tableOf] at hx9; subst hx9; decide) | (simp [tableOf] at hx9; rcases hx9 with rfl | rfl <;> decide) | (simp [tableOf] at hx9; rcases hx9 with rfl | rfl | rfl <;> decide)) (show (k + kk6) + bc6 ≤ MC by omega) (show (n + nn6) + bs6 ≤ MS by omega) (hE.tr hEh5) hR hS hex hq

theorem m_1b4cc923 : (.methodLink "StackHost$Reader" 44 Lib.Math.max.name : Cond) ∈ xt_tbl := xt_in (xt_t3 (List.mem_of_getElem? (i := 180) (by decide +kernel))) (by decide +kernel)
theorem m_ec6fdc25 : (.methodLink "StackHost$Reader" 125 y_Reader_endsSigned : Cond) ∈ xt_tbl := xt_in (xt_t4 (List.mem_of_getElem? (i := 54) (by decide +kernel))) (by decide +kernel)
theorem m_95bd78c4 : (.static y_Reader_endsSigned : Cond) ∈ xt_tbl := xt_in (xt_t4 (List.mem_of_getElem? (i := 55) (by decide +kernel))) (by decide +kernel)
theorem m_938fcec4 : (.initialized "StackHost$Reader" : Cond) ∈ xt_tbl := xt_in (xt_t1 (List.mem_of_getElem? (i := 2) (by decide +kernel))) (by decide +kernel)
theorem m_9c37fa6e : (.code y_Reader_endsSigned b_Reader_endsSigned 2 (some .boolean) : Cond) ∈ xt_tbl := xt_in (xt_t4 (List.mem_of_getElem? (i := 56) (by decide +kernel))) (by decide +kernel)
theorem nm_Reader_endsSigned : xt_nm y_Reader_endsSigned 2 := ⟨by decide +kernel, by decide +kernel⟩
set_option maxRecDepth 100000 in
def T_Reader_signed : List (Nat × Instr × Nat) := [(0, .lconst 0, 1), (1, .lstore_n 2, 1), (2, .iconst 0, 1), (3, .istore 4, 2), (5, .iconst 0, 1), (6, .istore 5, 2), (8, .iload 5, 2), (10, .iload_n 1, 1), (11, .if_icmp .ge 121, 3), (14, .aload_n 0, 1), (15, .getfield 41, 3), (18, .aload_n 0, 1), (19, .getfield 30, 3), (22, .if_icmp .lt 15, 3), (25, .aload_n 0, 1), (26, .getfield 15, 3), (29, .iconst 2, 1), (30, .aload_n 0, 1), (31, .getfield 30, 3), (34, .invokevirtual 37, 3), (37, .aload_n 0, 1), (38, .getfield 25, 3), (41, .aload_n 0, 1), (42, .getfield 41, 3), (45, .baload, 1), (46, .sipush 255, 3), (49, .iand, 1), (50, .istore 6, 2), (52, .iload 5, 2), (54, .iload_n 1, 1), (55, .iconst 1, 1), (56, .isub, 1), (57, .if_icmp .ne 24, 3), (60, .iload 6, 2), (62, .iload_n 1, 1), (63, .invokestatic 125, 3), (66, .ifCond .ne 15, 3), (69, .aload_n 0, 1), (70, .getfield 15, 3), (73, .iconst 3, 1), (74, .aload_n 0, 1), (75, .getfield 41, 3), (78, .invokevirtual 37, 3), (81, .aload_n 0, 1), (82, .dup, 1), (83, .getfield 41, 3), (86, .iconst 1, 1), (87, .iadd, 1), (88, .putfield 41, 3), (91, .lload_n 2, 1), (92, .iload 6, 2), (94, .bipush 127, 2), (96, .iand, 1), (97, .i2l, 1), (98, .bipush 7, 2), (100, .iload 5, 2), (102, .imul, 1), (103, .lshl, 1), (104, .lor, 1), (105, .lstore_n 2, 1), (106, .bipush 7, 2), (108, .iload 5, 2), (110, .iconst 1, 1), (111, .iadd, 1), (112, .imul, 1), (113, .istore 4, 2), (115, .iload 6, 2), (117, .sipush 128, 3), (120, .if_icmp .ge 6, 3), (123, .goto 9, 3), (126, .iinc 5 1, 3), (129, .goto (-121), 3), (132, .iconst 0, 1), (133, .bipush 64, 2), (135, .iload 4, 2), (137, .isub, 1), (138, .invokestatic 44, 3), (141, .istore 5, 2), (143, .lload_n 2, 1), (144, .iload 5, 2), (146, .lshl, 1), (147, .iload 5, 2), (149, .lshr, 1), (150, .lreturn, 1)]
theorem D_Reader_signed : ∀ q ∈ T_Reader_signed, decode b_Reader_signed q.1 = .ok (q.2.1, q.2.2) := by decide +kernel

set_option maxHeartbeats 4000000 in
set_option maxRecDepth 100000 in
theorem am_Reader_signed_L132 (l : Launch) (hfl : l.flags = pinnedFlags ++ [noTraceFlag]) (D : va_G) (A : Nat → Prop) (σ MC MS : Nat) (h0 : xb_H) (Qr : Int64 → xb_H → Nat → Nat → Prop) (Qt : String → xb_H → Nat → Nat → Prop) (x2 : Int64) (x4 : Int32) (h : xb_H) (bc : Nat) (bs : Nat) (hw : w_Reader_signed_L132 Qr Qt x2 x4 h bc bs) : xb_am l D A σ 3 MC MS h0 (fun v h bc bs => ∃ r, v = some (.long r) ∧ Qr r h bc bs) Qt y_Reader_signed.cls y_Reader_signed.name b_Reader_signed 7 ([] : List ExceptionTableEntry) (some .long) 132 [(2, .long x2), (4, .int x4)] [] h bc bs := by
  unfold w_Reader_signed_L132 at hw
  intro p e s m args below meth c hC H locs ls k n hE hl hR hS hk hn
  obtain ⟨hx, hb, hown, hlocks, htab, hml, hr, hB, hA, hnm⟩ := id hC
  have hts := hB.1.1.at args
  refine lv_iconst (v := 0) hx hb (xb_d D_Reader_signed 72 rfl) (by decide) ?_
  refine lv_bipush (v := 64) hx hb (xb_d D_Reader_signed 73 rfl) (by decide) ?_
  refine lv_iload hx hb (xb_d D_Reader_signed 74 rfl) (lv_at hl 1 rfl) ?_
  refine lv_isub hx hb (xb_d D_Reader_signed 75 rfl) ?_
  refine va_mmax hx hb (hml.trans hl.1.symm) hown (hts _ m_1b4cc923) (hts _ m_80a2ec50) (hts _ m_868a9286) (hts _ m_b6349a14) (by show 1 ≤ 8 + _; omega) (Nat.le_trans (Nat.le_of_ble_eq_true rfl : _ ≤ 60) (by show 60 ≤ 120 + _; omega)) (show k ≤ MC by omega) (show n ≤ MS by omega) (xb_d D_Reader_signed 76 rfl) ?_
  obtain ⟨v1, ev1⟩ : ∃ x : Int32, x = (if 0 < (64 - x4) then (64 - x4) else 0) := ⟨_, rfl⟩
  have hw := hw v1 ev1
  refine xt_numi (y := v1) ev1.symm ?_
  refine lv_istore hx hb (xb_d D_Reader_signed 77 rfl) hl (by decide) rfl (fun ls hl => ?_)
  have hl : lv_has ls 7 [(5, .int v1), (2, .long x2), (4, .int x4)] := hl
  refine lv_lload_n hx hb (xb_d D_Reader_signed 78 rfl) rfl (lv_at hl 1 rfl) ?_
  refine lv_iload hx hb (xb_d D_Reader_signed 79 rfl) (lv_at hl 0 rfl) ?_
  refine lv_lshl (v := (xb_lshl x2 v1)) hx hb (xb_d D_Reader_signed 80 rfl) rfl ?_
  refine lv_iload hx hb (xb_d D_Reader_signed 81 rfl) (lv_at hl 0 rfl) ?_
  refine lv_lshr (v := (xb_lshr (xb_lshl x2 v1) v1)) hx hb (xb_d D_Reader_signed 82 rfl) rfl ?_
  exact xb_lret bc bs hx hb hr hlocks (show k + bc ≤ MC by omega) (show n + bs ≤ MS by omega) hE hR hS (xb_d D_Reader_signed 83 rfl) hw

set_option maxHeartbeats 4000000 in
set_option maxRecDepth 100000 in
theorem am_Reader_signed_L81 (l : Launch) (hfl : l.flags = pinnedFlags ++ [noTraceFlag]) (D : va_G) (A : Nat → Prop) (σ MC MS : Nat) (h0 : xb_H) (Qr : Int64 → xb_H → Nat → Nat → Prop) (Qt : String → xb_H → Nat → Nat → Prop) (K8 : Nat → Int32 → Int64 → Int32 → Int32 → xb_H → Nat → Nat → Prop) (hK8 : ∀ (x0 : Nat) (x1 : Int32) (x2 : Int64) (x4 : Int32) (x5 : Int32) (h : xb_H) (bc : Nat) (bs : Nat), K8 x0 x1 x2 x4 x5 h bc bs → xb_am l D A σ 3 MC MS h0 (fun v h bc bs => ∃ r, v = some (.long r) ∧ Qr r h bc bs) Qt y_Reader_signed.cls y_Reader_signed.name b_Reader_signed 7 ([] : List ExceptionTableEntry) (some .long) 8 [(0, .ref x0), (1, .int x1), (2, .long x2), (4, .int x4), (5, .int x5)] [] h bc bs) (x0 : Nat) (x1 : Int32) (x2 : Int64) (x5 : Int32) (x6 : Int32) (h : xb_H) (bc : Nat) (bs : Nat) (hw : w_Reader_signed_L81 K8 Qr Qt x0 x1 x2 x5 x6 h bc bs) : xb_am l D A σ 3 MC MS h0 (fun v h bc bs => ∃ r, v = some (.long r) ∧ Qr r h bc bs) Qt y_Reader_signed.cls y_Reader_signed.name b_Reader_signed 7 ([] : List ExceptionTableEntry) (some .long) 81 [(0, .ref x0), (1, .int x1), (2, .long x2), (5, .int x5), (6, .int x6)] [] h bc bs := by
  unfold w_Reader_signed_L81 at hw
  intro p e s m args below meth c hC H locs ls k n hE hl hR hS hk hn
  obtain ⟨hx, hb, hown, hlocks, htab, hml, hr, hB, hA, hnm⟩ := id hC
  have hts := hB.1.1.at args
  refine lv_aload_n hx hb (xb_d D_Reader_signed 43 rfl) rfl (lv_at hl 0 rfl) ?_
  refine lv_dup hx hb (xb_d D_Reader_signed 44 rfl) rfl ?_
  obtain ⟨hk1, hw⟩ := hw
  refine xb_getI (C := R_Reader) (T := F_Reader) (N := 6) hx hb 3 3 hts fin_Reader hown hR hk1 (by decide) rfl (by decide) rfl (hts _ m_a9b84ac2) (fun _ h9 => h9) (xb_d D_Reader_signed 45 rfl) ?_
  refine lv_iconst (v := 1) hx hb (xb_d D_Reader_signed 46 rfl) (by decide) ?_
  refine lv_iadd hx hb (xb_d D_Reader_signed 47 rfl) ?_
  refine xb_putI (C := R_Reader) (T := F_Reader) (N := 6) (ty := .int) (x := ((xb_i h x0 3) + 1)) hx hb 3 3 hts fin_Reader t_Reader t_Reader_ok n_Reader hown hR hS hk1 (by decide) rfl (by decide) rfl (hts _ m_a9b84ac2) (fun _ h9 => h9) rfl (by decide +kernel) rfl rfl (xb_d D_Reader_signed 48 rfl) (fun H locs hR hS => ?_)
  obtain ⟨h2, eh2⟩ : ∃ x : xb_H, x = xb_I h x0 3 ((xb_i h x0 3) + 1) := ⟨_, rfl⟩
  rw [← eh2] at hR
  have hw := hw h2 eh2
  have hE : xb_ext h0 h2 := by rw [eh2]; exact hE
  refine lv_lload_n hx hb (xb_d D_Reader_signed 49 rfl) rfl (lv_at hl 2 rfl) ?_
  refine lv_iload hx hb (xb_d D_Reader_signed 50 rfl) (lv_at hl 4 rfl) ?_
  refine lv_bipush (v := 127) hx hb (xb_d D_Reader_signed 51 rfl) (by decide) ?_
  refine lv_iand hx hb (xb_d D_Reader_signed 52 rfl) ?_
  refine lv_i2l hx hb (xb_d D_Reader_signed 53 rfl) rfl ?_
  refine lv_bipush (v := 7) hx hb (xb_d D_Reader_signed 54 rfl) (by decide) ?_
  refine lv_iload hx hb (xb_d D_Reader_signed 55 rfl) (lv_at hl 3 rfl) ?_
  refine lv_imul hx hb (xb_d D_Reader_signed 56 rfl) ?_
  refine lv_lshl (v := (xb_lshl (Int32.toInt64 (x6 &&& 127)) (7 * x5))) hx hb (xb_d D_Reader_signed 57 rfl) rfl ?_
  refine lv_lor hx hb (xb_d D_Reader_signed 58 rfl) ?_
  obtain ⟨v3, ev3⟩ : ∃ x : Int64, x = (x2 ||| (xb_lshl (Int32.toInt64 (x6 &&& 127)) (7 * x5))) := ⟨_, rfl⟩
  have hw := hw v3 ev3
  refine xt_numl (y := v3) ev3.symm ?_
  refine lv_lstore_n hx hb (xb_d D_Reader_signed 59 rfl) rfl hl (by decide) rfl (fun ls hl => ?_)
  have hl : lv_has ls 7 [(2, .long v3), (0, .ref x0), (1, .int x1), (5, .int x5), (6, .int x6)] := hl
  refine lv_bipush (v := 7) hx hb (xb_d D_Reader_signed 60 rfl) (by decide) ?_
  refine lv_iload hx hb (xb_d D_Reader_signed 61 rfl) (lv_at hl 3 rfl) ?_
  refine lv_iconst (v := 1) hx hb (xb_d D_Reader_signed 62 rfl) (by decide) ?_
  refine lv_iadd hx hb (xb_d D_Reader_signed 63 rfl) ?_
  refine lv_imul hx hb (xb_d D_Reader_signed 64 rfl) ?_
  obtain ⟨v4, ev4⟩ : ∃ x : Int32, x = (7 * (x5 + 1)) := ⟨_, rfl⟩
  have hw := hw v4 ev4
  refine xt_numi (y := v4) ev4.symm ?_
  refine lv_istore hx hb (xb_d D_Reader_signed 65 rfl) hl (by decide) rfl (fun ls hl => ?_)
  have hl : lv_has ls 7 [(4, .int v4), (2, .long v3), (0, .ref x0), (1, .int x1), (5, .int x5), (6, .int x6)] := hl
  refine lv_iload hx hb (xb_d D_Reader_signed 66 rfl) (lv_at hl 5 rfl) ?_
  refine lv_sipush (v := 128) hx hb (xb_d D_Reader_signed 67 rfl) (by decide) ?_
  refine lv_icmp_ge (tgt := 126) hx hb (xb_d D_Reader_signed 68 rfl) rfl (fun hc5 => ?_) (fun hc5 => ?_)
  · have hw := hw.1 hc5
    refine lv_iinc (v := (x5 + 1)) (k := 4) hx hb (xb_d D_Reader_signed 70 rfl) hl rfl (by first | rfl | decide) (by decide) rfl (fun ls hl => ?_)
    have hl : lv_has ls 7 [(5, .int (x5 + 1)), (4, .int v4), (2, .long v3), (0, .ref x0), (1, .int x1), (6, .int x6)] := hl
    refine lv_goto (tgt := 8) hx hb (xb_d D_Reader_signed 71 rfl) rfl ?_
    exact hK8 x0 x1 v3 v4 (x5 + 1) h2 bc bs hw p e s m args below meth c hC H locs ls k n hE (lv_sub hl [3, 4, 2, 1, 0] rfl) hR hS (by omega) (by omega)
  · have hw := hw.2 hc5
    refine lv_goto (tgt := 132) hx hb (xb_d D_Reader_signed 69 rfl) rfl ?_
    exact am_Reader_signed_L132 l hfl D A σ MC MS h0 Qr Qt v3 v4 h2 bc bs hw p e s m args below meth c hC H locs ls k n hE (lv_sub hl [1, 0] rfl) hR hS (by omega) (by omega)

set_option maxHeartbeats 4000000 in
set_option maxRecDepth 100000 in
theorem am_Reader_signed_L37 (l : Launch) (hfl : l.flags = pinnedFlags ++ [noTraceFlag]) (D : va_G) (A : Nat → Prop) (σ MC MS : Nat) (h0 : xb_H) (Qr : Int64 → xb_H → Nat → Nat → Prop) (Qt : String → xb_H → Nat → Nat → Prop) (K8 : Nat → Int32 → Int64 → Int32 → Int32 → xb_H → Nat → Nat → Prop) (hK8 : ∀ (x0 : Nat) (x1 : Int32) (x2 : Int64) (x4 : Int32) (x5 : Int32) (h : xb_H) (bc : Nat) (bs : Nat), K8 x0 x1 x2 x4 x5 h bc bs → xb_am l D A σ 3 MC MS h0 (fun v h bc bs => ∃ r, v = some (.long r) ∧ Qr r h bc bs) Qt y_Reader_signed.cls y_Reader_signed.name b_Reader_signed 7 ([] : List ExceptionTableEntry) (some .long) 8 [(0, .ref x0), (1, .int x1), (2, .long x2), (4, .int x4), (5, .int x5)] [] h bc bs) (x0 : Nat) (x1 : Int32) (x2 : Int64) (x5 : Int32) (h : xb_H) (bc : Nat) (bs : Nat) (hw : w_Reader_signed_L37 K8 Qr Qt x0 x1 x2 x5 h bc bs) : xb_am l D A σ 3 MC MS h0 (fun v h bc bs => ∃ r, v = some (.long r) ∧ Qr r h bc bs) Qt y_Reader_signed.cls y_Reader_signed.name b_Reader_signed 7 ([] : List ExceptionTableEntry) (some .long) 37 [(0, .ref x0), (1, .int x1), (2, .long x2), (5, .int x5)] [] h bc bs := by
  unfold w_Reader_signed_L37 at hw
  intro p e s m args below meth c hC H locs ls k n hE hl hR hS hk hn
  obtain ⟨hx, hb, hown, hlocks, htab, hml, hr, hB, hA, hnm⟩ := id hC
  have hts := hB.1.1.at args
  refine lv_aload_n hx hb (xb_d D_Reader_signed 20 rfl) rfl (lv_at hl 0 rfl) ?_
  obtain ⟨hk1, hw⟩ := hw
  refine xb_getP (C := R_Reader) (T := F_Reader) (N := 6) hx hb 3 1 hts fin_Reader hown hR hk1 (by decide) rfl (by decide) rfl (hts _ m_d1ba4be8) (fun _ h9 => h9) (xb_d D_Reader_signed 21 rfl) ?_
  obtain ⟨b2, eb2, hw⟩ := hw
  refine xb_some eb2 ?_
  refine lv_aload_n hx hb (xb_d D_Reader_signed 22 rfl) rfl (lv_at hl 0 rfl) ?_
  refine xb_getI (C := R_Reader) (T := F_Reader) (N := 6) hx hb 3 3 hts fin_Reader hown hR hk1 (by decide) rfl (by decide) rfl (hts _ m_a9b84ac2) (fun _ h9 => h9) (xb_d D_Reader_signed 23 rfl) ?_
  obtain ⟨hk4, hw⟩ := hw
  obtain ⟨hi3, hw⟩ := hw
  refine xb_bald hx hb hR hk4 hi3 (xb_d D_Reader_signed 24 rfl) ?_
  refine lv_sipush (v := 255) hx hb (xb_d D_Reader_signed 25 rfl) (by decide) ?_
  refine lv_iand hx hb (xb_d D_Reader_signed 26 rfl) ?_
  obtain ⟨v5, ev5⟩ : ∃ x : Int32, x = ((xb_i h b2 (Int32.toNatClampNeg (xb_i h x0 3))) &&& 255) := ⟨_, rfl⟩
  have hw := hw v5 ev5
  refine xt_numi (y := v5) ev5.symm ?_
  refine lv_istore hx hb (xb_d D_Reader_signed 27 rfl) hl (by decide) rfl (fun ls hl => ?_)
  have hl : lv_has ls 7 [(6, .int v5), (0, .ref x0), (1, .int x1), (2, .long x2), (5, .int x5)] := hl
  refine lv_iload hx hb (xb_d D_Reader_signed 28 rfl) (lv_at hl 4 rfl) ?_
  refine lv_iload_n hx hb (xb_d D_Reader_signed 29 rfl) rfl (lv_at hl 2 rfl) ?_
  refine lv_iconst (v := 1) hx hb (xb_d D_Reader_signed 30 rfl) (by decide) ?_
  refine lv_isub hx hb (xb_d D_Reader_signed 31 rfl) ?_
  refine lv_icmp_ne (tgt := 81) hx hb (xb_d D_Reader_signed 32 rfl) rfl (fun hc6 => ?_) (fun hc6 => ?_)
  · have hw := hw.1 hc6
    exact am_Reader_signed_L81 l hfl D A σ MC MS h0 Qr Qt K8 hK8 x0 x1 x2 x5 v5 h bc bs hw p e s m args below meth c hC H locs ls k n hE (lv_sub hl [1, 2, 3, 4, 0] rfl) hR hS (by omega) (by omega)
  · have hw := hw.2 hc6
    refine lv_iload hx hb (xb_d D_Reader_signed 33 rfl) (lv_at hl 0 rfl) ?_
    refine lv_iload_n hx hb (xb_d D_Reader_signed 34 rfl) rfl (lv_at hl 2 rfl) ?_
    refine xb_call0 (D := D) (A := A) (σ := σ) (h := h) (d := 2) (maxL := 2) (rest := []) (av := [.int v5, .int x1]) (fun T hT X => xt_invS X hx hown (hts _ m_ec6fdc25) (hts _ m_95bd78c4) (hts _ m_938fcec4) (xt_sgS (hts _ m_9c37fa6e)).1 (xt_sgS (hts _ m_9c37fa6e)).2 nm_Reader_endsSigned (g := F0 m 63 ls [.int x1, .int v5]) rfl (argsL := [.int v5, .int x1]) (rest := []) rfl rfl (by rw [hb]; exact (xb_d D_Reader_signed 35 rfl))) (ok_Reader_endsSigned l hfl D A σ v5 x1 h _ hw) (hml.trans hl.1.symm) (by rw [hb]; exact (xb_d D_Reader_signed 35 rfl)) (Nat.le_of_ble_eq_true rfl) (Nat.le_of_ble_eq_true rfl) (Nat.le_of_ble_eq_true rfl) (show k ≤ MC by omega) (show n ≤ MS by omega) (xt_w1 hB.1 m_9c37fa6e) (xt_cdOf hB.1 m_9c37fa6e) (hts _ m_938fcec4) hB hR hS hA (fun vv h7 H locs hq hEh7 hR hS => ?_)
    obtain ⟨r8, rfl, hw⟩ := hq
    have hw := hw hEh7
    have hE := hE.tr hEh7
    refine W.eq (g2 := F0 m 66 ls [.int r8]) rfl ?_
    refine lv_if_ne (tgt := 81) hx hb (xb_d D_Reader_signed 36 rfl) rfl (fun hc9 => ?_) (fun hc9 => ?_)
    · have hw := hw.1 hc9
      exact am_Reader_signed_L81 l hfl D A σ MC MS h0 Qr Qt K8 hK8 x0 x1 x2 x5 v5 h7 bc bs hw p e s m args below meth c hC H locs ls k n hE (lv_sub hl [1, 2, 3, 4, 0] rfl) hR hS (by omega) (by omega)
    · have hw := hw.2 hc9
      refine lv_aload_n hx hb (xb_d D_Reader_signed 37 rfl) rfl (lv_at hl 1 rfl) ?_
      have hk1 : xb_k h7 x0 = 4 := hEh7.k hk1
      refine xb_getP (C := R_Reader) (T := F_Reader) (N := 6) hx hb 3 0 hts fin_Reader hown hR hk1 (by decide) rfl (by decide) rfl (hts _ m_76d8349c) (fun _ h9 => h9) (xb_d D_Reader_signed 38 rfl) ?_
      obtain ⟨b10, eb10, hw⟩ := hw
      refine xb_some eb10 ?_
      refine lv_iconst (v := 3) hx hb (xb_d D_Reader_signed 39 rfl) (by decide) ?_
      refine lv_aload_n hx hb (xb_d D_Reader_signed 40 rfl) rfl (lv_at hl 1 rfl) ?_
      refine xb_getI (C := R_Reader) (T := F_Reader) (N := 6) hx hb 3 3 hts fin_Reader hown hR hk1 (by decide) rfl (by decide) rfl (hts _ m_a9b84ac2) (fun _ h9 => h9) (xb_d D_Reader_signed 41 rfl) ?_
      obtain ⟨hk11, hw⟩ := hw
      refine xb_call (D := D) (A := A) (σ := σ) (h := h7) (d := 2) (mc := bc) (ms := bs) (maxL := 3) (rest := []) (av := [.ref b10, .int 3, .int (xb_i h7 x0 3)]) (fun T hT X => by obtain ⟨cb9, ra9, rb9, rc9⟩ := xb_recv (ci := 2) hR rfl hk11 (by decide); exact xt_invV X hx hown (hts _ m_6fcde429) (hts _ m_865d5b07) (hts _ m_113f8f75) (xt_sigOf (hts _ m_73e65e5f)) nm_StackModule_fail (by rw [hT]; exact ra9) rb9 rc9 (g := F0 m 78 ls [.int (xb_i h7 x0 3), .int 3, .ref b10]) rfl (argsL := [.int 3, .int (xb_i h7 x0 3)]) (rest := []) rfl rfl (by rw [hb]; exact (xb_d D_Reader_signed 42 rfl))) (ok_StackModule_fail l hfl D A σ b10 3 (xb_i h7 x0 3) h7 bc bs _ _ hw) (hml.trans hl.1.symm) (by rw [hb]; exact (xb_d D_Reader_signed 42 rfl)) (Nat.le_of_ble_eq_true rfl) (Nat.le_of_ble_eq_true rfl) (Nat.le_of_ble_eq_true rfl) (show k + bc ≤ MC by omega) (show n + bs ≤ MS by omega) (xt_w1 hB.1 m_73e65e5f) (xt_cdOf hB.1 m_73e65e5f) (hts _ m_9c375545) hB hR hS hA (fun vv h12 bc13 bs13 kk13 nn13 H locs hk13 hn13 hq hEh12 hR hS => ?_) (fun XX ax h12 bc13 bs13 kk13 nn13 H locs hk13 hn13 hq hEh12 hex hR hS => ?_)
      · obtain ⟨rfl, hw⟩ := hq
        have hw := hw hEh12
        have hE := hE.tr hEh12
        refine W.eq (g2 := F0 m 81 ls []) rfl ?_
        exact am_Reader_signed_L81 l hfl D A σ MC MS h0 Qr Qt K8 hK8 x0 x1 x2 x5 v5 h12 bc13 bs13 hw p e s m args below meth c hC H locs ls (k + kk13) (n + nn13) hE (lv_sub hl [1, 2, 3, 4, 0] rfl) hR hS (by omega) (by omega)
      · exact xb_pass hlocks (fun x hx9 => by rw [htab] at hx9; first | (cases hx9; done) | (simp [tableOf] at hx9; subst hx9; decide) | (simp [tableOf] at hx9; rcases hx9 with rfl | rfl <;> decide) | (simp [tableOf] at hx9; rcases hx9 with rfl | rfl | rfl <;> decide)) (show (k + kk13) + bc13 ≤ MC by omega) (show (n + nn13) + bs13 ≤ MS by omega) (hE.tr hEh12) hR hS hex hq

set_option maxHeartbeats 4000000 in
set_option maxRecDepth 100000 in
theorem am_Reader_signed_L8 (l : Launch) (hfl : l.flags = pinnedFlags ++ [noTraceFlag]) (D : va_G) (A : Nat → Prop) (σ MC MS : Nat) (h0 : xb_H) (Qr : Int64 → xb_H → Nat → Nat → Prop) (Qt : String → xb_H → Nat → Nat → Prop) (n9 : Nat) : ∀ (x0 : Nat) (x1 : Int32) (x2 : Int64) (x4 : Int32) (x5 : Int32) (h : xb_H) (bc : Nat) (bs : Nat), w_Reader_signed_L8 Qr Qt n9 x0 x1 x2 x4 x5 h bc bs → xb_am l D A σ 3 MC MS h0 (fun v h bc bs => ∃ r, v = some (.long r) ∧ Qr r h bc bs) Qt y_Reader_signed.cls y_Reader_signed.name b_Reader_signed 7 ([] : List ExceptionTableEntry) (some .long) 8 [(0, .ref x0), (1, .int x1), (2, .long x2), (4, .int x4), (5, .int x5)] [] h bc bs := by
  induction n9 with
  | zero => intro x0 x1 x2 x4 x5 h bc bs hw; exact False.elim hw
  | succ n9 ih =>
    intro x0 x1 x2 x4 x5 h bc bs hw
    unfold w_Reader_signed_L8 at hw
    intro p e s m args below meth c hC H locs ls k n hE hl hR hS hk hn
    obtain ⟨hx, hb, hown, hlocks, htab, hml, hr, hB, hA, hnm⟩ := id hC
    have hts := hB.1.1.at args
    refine lv_iload hx hb (xb_d D_Reader_signed 6 rfl) (lv_at hl 4 rfl) ?_
    refine lv_iload_n hx hb (xb_d D_Reader_signed 7 rfl) rfl (lv_at hl 1 rfl) ?_
    refine lv_icmp_ge (tgt := 132) hx hb (xb_d D_Reader_signed 8 rfl) rfl (fun hc1 => ?_) (fun hc1 => ?_)
    · have hw := hw.1 hc1
      exact am_Reader_signed_L132 l hfl D A σ MC MS h0 Qr Qt x2 x4 h bc bs hw p e s m args below meth c hC H locs ls k n hE (lv_sub hl [2, 3] rfl) hR hS (by omega) (by omega)
    · have hw := hw.2 hc1
      refine lv_aload_n hx hb (xb_d D_Reader_signed 9 rfl) rfl (lv_at hl 0 rfl) ?_
      obtain ⟨hk2, hw⟩ := hw
      refine xb_getI (C := R_Reader) (T := F_Reader) (N := 6) hx hb 3 3 hts fin_Reader hown hR hk2 (by decide) rfl (by decide) rfl (hts _ m_a9b84ac2) (fun _ h9 => h9) (xb_d D_Reader_signed 10 rfl) ?_
      refine lv_aload_n hx hb (xb_d D_Reader_signed 11 rfl) rfl (lv_at hl 0 rfl) ?_
      refine xb_getI (C := R_Reader) (T := F_Reader) (N := 6) hx hb 3 4 hts fin_Reader hown hR hk2 (by decide) rfl (by decide) rfl (hts _ m_49916c4b) (fun _ h9 => h9) (xb_d D_Reader_signed 12 rfl) ?_
      refine lv_icmp_lt (tgt := 37) hx hb (xb_d D_Reader_signed 13 rfl) rfl (fun hc3 => ?_) (fun hc3 => ?_)
      · have hw := hw.1 hc3
        exact am_Reader_signed_L37 l hfl D A σ MC MS h0 Qr Qt (w_Reader_signed_L8 Qr Qt n9) ih x0 x1 x2 x5 h bc bs hw p e s m args below meth c hC H locs ls k n hE (lv_sub hl [0, 1, 2, 4] rfl) hR hS (by omega) (by omega)
      · have hw := hw.2 hc3
        refine lv_aload_n hx hb (xb_d D_Reader_signed 14 rfl) rfl (lv_at hl 0 rfl) ?_
        refine xb_getP (C := R_Reader) (T := F_Reader) (N := 6) hx hb 3 0 hts fin_Reader hown hR hk2 (by decide) rfl (by decide) rfl (hts _ m_76d8349c) (fun _ h9 => h9) (xb_d D_Reader_signed 15 rfl) ?_
        obtain ⟨b4, eb4, hw⟩ := hw
        refine xb_some eb4 ?_
        refine lv_iconst (v := 2) hx hb (xb_d D_Reader_signed 16 rfl) (by decide) ?_
        refine lv_aload_n hx hb (xb_d D_Reader_signed 17 rfl) rfl (lv_at hl 0 rfl) ?_
        refine xb_getI (C := R_Reader) (T := F_Reader) (N := 6) hx hb 3 4 hts fin_Reader hown hR hk2 (by decide) rfl (by decide) rfl (hts _ m_49916c4b) (fun _ h9 => h9) (xb_d D_Reader_signed 18 rfl) ?_
        obtain ⟨hk5, hw⟩ := hw
        refine xb_call (D := D) (A := A) (σ := σ) (h := h) (d := 2) (mc := bc) (ms := bs) (maxL := 3) (rest := []) (av := [.ref b4, .int 2, .int (xb_i h x0 4)]) (fun T hT X => by obtain ⟨cb9, ra9, rb9, rc9⟩ := xb_recv (ci := 2) hR rfl hk5 (by decide); exact xt_invV X hx hown (hts _ m_6fcde429) (hts _ m_865d5b07) (hts _ m_113f8f75) (xt_sigOf (hts _ m_73e65e5f)) nm_StackModule_fail (by rw [hT]; exact ra9) rb9 rc9 (g := F0 m 34 ls [.int (xb_i h x0 4), .int 2, .ref b4]) rfl (argsL := [.int 2, .int (xb_i h x0 4)]) (rest := []) rfl rfl (by rw [hb]; exact (xb_d D_Reader_signed 19 rfl))) (ok_StackModule_fail l hfl D A σ b4 2 (xb_i h x0 4) h bc bs _ _ hw) (hml.trans hl.1.symm) (by rw [hb]; exact (xb_d D_Reader_signed 19 rfl)) (Nat.le_of_ble_eq_true rfl) (Nat.le_of_ble_eq_true rfl) (Nat.le_of_ble_eq_true rfl) (show k + bc ≤ MC by omega) (show n + bs ≤ MS by omega) (xt_w1 hB.1 m_73e65e5f) (xt_cdOf hB.1 m_73e65e5f) (hts _ m_9c375545) hB hR hS hA (fun vv h6 bc7 bs7 kk7 nn7 H locs hk7 hn7 hq hEh6 hR hS => ?_) (fun XX ax h6 bc7 bs7 kk7 nn7 H locs hk7 hn7 hq hEh6 hex hR hS => ?_)
        · obtain ⟨rfl, hw⟩ := hq
          have hw := hw hEh6
          have hE := hE.tr hEh6
          refine W.eq (g2 := F0 m 37 ls []) rfl ?_
          exact am_Reader_signed_L37 l hfl D A σ MC MS h0 Qr Qt (w_Reader_signed_L8 Qr Qt n9) ih x0 x1 x2 x5 h6 bc7 bs7 hw p e s m args below meth c hC H locs ls (k + kk7) (n + nn7) hE (lv_sub hl [0, 1, 2, 4] rfl) hR hS (by omega) (by omega)
        · exact xb_pass hlocks (fun x hx9 => by rw [htab] at hx9; first | (cases hx9; done) | (simp [tableOf] at hx9; subst hx9; decide) | (simp [tableOf] at hx9; rcases hx9 with rfl | rfl <;> decide) | (simp [tableOf] at hx9; rcases hx9 with rfl | rfl | rfl <;> decide)) (show (k + kk7) + bc7 ≤ MC by omega) (show (n + nn7) + bs7 ≤ MS by omega) (hE.tr hEh6) hR hS hex hq

set_option maxHeartbeats 4000000 in
set_option maxRecDepth 100000 in
theorem ok_Reader_signed (l : Launch) (hfl : l.flags = pinnedFlags ++ [noTraceFlag]) (D : va_G) (A : Nat → Prop) (σ : Nat) (x0 : Nat) (x1 : Int32) (h : xb_H) (bc : Nat) (bs : Nat) (Qr : Int64 → xb_H → Nat → Nat → Prop) (Qt : String → xb_H → Nat → Nat → Prop) (hw : w_Reader_signed x0 x1 h bc bs Qr Qt) : xb_Met l y_Reader_signed [.code y_Reader_signed b_Reader_signed 7 (some .long)] (xb_rm 3 bc bs) (xb_Pc D A σ h [.ref x0, .int x1]) (xb_Qc D A h bc bs (fun v h bc bs => ∃ r, v = some (.long r) ∧ Qr r h bc bs) Qt) A := by
  refine xb_ofAm (cc := b_Reader_signed) (by decide) (Nat.le_of_ble_eq_true rfl) ?_
  unfold w_Reader_signed at hw
  show xb_am l D A σ 3 bc bs h (fun v h bc bs => ∃ r, v = some (.long r) ∧ Qr r h bc bs) Qt y_Reader_signed.cls y_Reader_signed.name b_Reader_signed 7 ([] : List ExceptionTableEntry) (some .long) 0 [(0, .ref x0), (1, .int x1)] [] h bc bs
  obtain ⟨MC, hMC⟩ : ∃ x, x = bc := ⟨_, rfl⟩
  obtain ⟨MS, hMS⟩ : ∃ x, x = bs := ⟨_, rfl⟩
  rw [show xb_am l D A σ 3 bc bs = xb_am l D A σ 3 MC MS by rw [hMC, hMS]]
  obtain ⟨h0, hh0⟩ : ∃ x, x = h := ⟨_, rfl⟩
  rw [show xb_am l D A σ 3 MC MS h = xb_am l D A σ 3 MC MS h0 by rw [hh0]]
  intro p e s m args below meth c hC H locs ls k n hE hl hR hS hk hn
  obtain ⟨hx, hb, hown, hlocks, htab, hml, hr, hB, hA, hnm⟩ := id hC
  have hts := hB.1.1.at args
  refine lv_lconst (v := 0) hx hb (xb_d D_Reader_signed 0 rfl) (by decide) ?_
  refine lv_lstore_n hx hb (xb_d D_Reader_signed 1 rfl) rfl hl (by decide) rfl (fun ls hl => ?_)
  have hl : lv_has ls 7 [(2, .long 0), (0, .ref x0), (1, .int x1)] := hl
  refine lv_iconst (v := 0) hx hb (xb_d D_Reader_signed 2 rfl) (by decide) ?_
  refine lv_istore hx hb (xb_d D_Reader_signed 3 rfl) hl (by decide) rfl (fun ls hl => ?_)
  have hl : lv_has ls 7 [(4, .int 0), (2, .long 0), (0, .ref x0), (1, .int x1)] := hl
  refine lv_iconst (v := 0) hx hb (xb_d D_Reader_signed 4 rfl) (by decide) ?_
  refine lv_istore hx hb (xb_d D_Reader_signed 5 rfl) hl (by decide) rfl (fun ls hl => ?_)
  have hl : lv_has ls 7 [(5, .int 0), (4, .int 0), (2, .long 0), (0, .ref x0), (1, .int x1)] := hl
  obtain ⟨n8, hw⟩ := hw
  exact am_Reader_signed_L8 l hfl D A σ MC MS h0 Qr Qt n8 x0 x1 0 0 0 h bc bs hw p e s m args below meth c hC H locs ls k n hE (lv_sub hl [3, 4, 2, 1, 0] rfl) hR hS (by omega) (by omega)

theorem m_671d72d9 : (.methodLink "StackHost$Row" 17 Lib.Math.max.name : Cond) ∈ xt_tbl := xt_in (xt_t3 (List.mem_of_getElem? (i := 232) (by decide +kernel))) (by decide +kernel)
theorem m_1ef749e8 : (.methodLink "StackHost$Row" 23 y_Arrays_copyOf1 : Cond) ∈ xt_tbl := xt_in (xt_t3 (List.mem_of_getElem? (i := 233) (by decide +kernel))) (by decide +kernel)
set_option maxRecDepth 100000 in
def T_Row_makeRoom : List (Nat × Instr × Nat) := [(0, .iload_n 1, 1), (1, .aload_n 0, 1), (2, .getfield 13, 3), (5, .arraylength, 1), (6, .if_icmp .le 25, 3), (9, .aload_n 0, 1), (10, .aload_n 0, 1), (11, .getfield 13, 3), (14, .iload_n 1, 1), (15, .iconst 2, 1), (16, .aload_n 0, 1), (17, .getfield 13, 3), (20, .arraylength, 1), (21, .imul, 1), (22, .invokestatic 17, 3), (25, .invokestatic 23, 3), (28, .putfield 13, 3), (31, .return_, 1)]
theorem D_Row_makeRoom : ∀ q ∈ T_Row_makeRoom, decode b_Row_makeRoom q.1 = .ok (q.2.1, q.2.2) := by decide +kernel

set_option maxHeartbeats 4000000 in
set_option maxRecDepth 100000 in
theorem am_Row_makeRoom_L31 (l : Launch) (hfl : l.flags = pinnedFlags ++ [noTraceFlag]) (D : va_G) (A : Nat → Prop) (σ MC MS : Nat) (h0 : xb_H) (Qr : xb_H → Nat → Nat → Prop) (h : xb_H) (bc : Nat) (bs : Nat) (hw : w_Row_makeRoom_L31 Qr h bc bs) : xb_am l D A σ 3 MC MS h0 (fun v h bc bs => v = none ∧ Qr h bc bs) (fun _ _ _ _ => False) y_Row_makeRoom.cls y_Row_makeRoom.name b_Row_makeRoom 2 ([] : List ExceptionTableEntry) none 31 [] [] h bc bs := by
  unfold w_Row_makeRoom_L31 at hw
  intro p e s m args below meth c hC H locs ls k n hE hl hR hS hk hn
  obtain ⟨hx, hb, hown, hlocks, htab, hml, hr, hB, hA, hnm⟩ := id hC
  have hts := hB.1.1.at args
  exact xb_vret bc bs hx hb hr hlocks (show k + bc ≤ MC by omega) (show n + bs ≤ MS by omega) hE hR hS (xb_d D_Row_makeRoom 17 rfl) hw

set_option maxHeartbeats 4000000 in
set_option maxRecDepth 100000 in
theorem ok_Row_makeRoom (l : Launch) (hfl : l.flags = pinnedFlags ++ [noTraceFlag]) (D : va_G) (A : Nat → Prop) (σ : Nat) (x0 : Nat) (x1 : Int32) (h : xb_H) (bc : Nat) (bs : Nat) (Qr : xb_H → Nat → Nat → Prop) (hw : w_Row_makeRoom x0 x1 h bc bs Qr) : xb_Met l y_Row_makeRoom [.code y_Row_makeRoom b_Row_makeRoom 2 none] (xb_rm 3 bc bs) (xb_Pc D A σ h [.ref x0, .int x1]) (xb_Qc D A h bc bs (fun v h bc bs => v = none ∧ Qr h bc bs) (fun _ _ _ _ => False)) A := by
  refine xb_ofAm (cc := b_Row_makeRoom) (by decide) (Nat.le_of_ble_eq_true rfl) ?_
  unfold w_Row_makeRoom at hw
  show xb_am l D A σ 3 bc bs h (fun v h bc bs => v = none ∧ Qr h bc bs) (fun _ _ _ _ => False) y_Row_makeRoom.cls y_Row_makeRoom.name b_Row_makeRoom 2 ([] : List ExceptionTableEntry) none 0 [(0, .ref x0), (1, .int x1)] [] h bc bs
  obtain ⟨MC, hMC⟩ : ∃ x, x = bc := ⟨_, rfl⟩
  obtain ⟨MS, hMS⟩ : ∃ x, x = bs := ⟨_, rfl⟩
  rw [show xb_am l D A σ 3 bc bs = xb_am l D A σ 3 MC MS by rw [hMC, hMS]]
  obtain ⟨h0, hh0⟩ : ∃ x, x = h := ⟨_, rfl⟩
  rw [show xb_am l D A σ 3 MC MS h = xb_am l D A σ 3 MC MS h0 by rw [hh0]]
  intro p e s m args below meth c hC H locs ls k n hE hl hR hS hk hn
  obtain ⟨hx, hb, hown, hlocks, htab, hml, hr, hB, hA, hnm⟩ := id hC
  have hts := hB.1.1.at args
  refine lv_iload_n hx hb (xb_d D_Row_makeRoom 0 rfl) rfl (lv_at hl 1 rfl) ?_
  refine lv_aload_n hx hb (xb_d D_Row_makeRoom 1 rfl) rfl (lv_at hl 0 rfl) ?_
  obtain ⟨hk1, hw⟩ := hw
  refine xb_getP (C := R_Row) (T := F_Row) (N := 3) hx hb 1 0 hts fin_Row hown hR hk1 (by decide) rfl (by decide) rfl (hts _ m_8e18d96c) (fun _ h9 => h9) (xb_d D_Row_makeRoom 2 rfl) ?_
  obtain ⟨b2, eb2, hw⟩ := hw
  refine xb_some eb2 ?_
  obtain ⟨hk3, hw⟩ := hw
  refine xb_alen hx hb hR hk3 (by decide) (xb_d D_Row_makeRoom 3 rfl) ?_
  refine lv_icmp_le (tgt := 31) hx hb (xb_d D_Row_makeRoom 4 rfl) rfl (fun hc4 => ?_) (fun hc4 => ?_)
  · have hw := hw.1 hc4
    exact am_Row_makeRoom_L31 l hfl D A σ MC MS h0 Qr h bc bs hw p e s m args below meth c hC H locs ls k n hE (lv_sub hl [] rfl) hR hS (by omega) (by omega)
  · have hw := hw.2 hc4
    refine lv_aload_n hx hb (xb_d D_Row_makeRoom 5 rfl) rfl (lv_at hl 0 rfl) ?_
    refine lv_aload_n hx hb (xb_d D_Row_makeRoom 6 rfl) rfl (lv_at hl 0 rfl) ?_
    refine xb_getP (C := R_Row) (T := F_Row) (N := 3) hx hb 1 0 hts fin_Row hown hR hk1 (by decide) rfl (by decide) rfl (hts _ m_8e18d96c) (fun _ h9 => h9) (xb_d D_Row_makeRoom 7 rfl) ?_
    obtain ⟨b5, eb5, hw⟩ := hw
    refine xb_some eb5 ?_
    refine lv_iload_n hx hb (xb_d D_Row_makeRoom 8 rfl) rfl (lv_at hl 1 rfl) ?_
    refine lv_iconst (v := 2) hx hb (xb_d D_Row_makeRoom 9 rfl) (by decide) ?_
    refine lv_aload_n hx hb (xb_d D_Row_makeRoom 10 rfl) rfl (lv_at hl 0 rfl) ?_
    refine xb_getP (C := R_Row) (T := F_Row) (N := 3) hx hb 1 0 hts fin_Row hown hR hk1 (by decide) rfl (by decide) rfl (hts _ m_8e18d96c) (fun _ h9 => h9) (xb_d D_Row_makeRoom 11 rfl) ?_
    obtain ⟨b6, eb6, hw⟩ := hw
    refine xb_some eb6 ?_
    obtain ⟨hk7, hw⟩ := hw
    refine xb_alen hx hb hR hk7 (by decide) (xb_d D_Row_makeRoom 12 rfl) ?_
    refine lv_imul hx hb (xb_d D_Row_makeRoom 13 rfl) ?_
    refine va_mmax hx hb (hml.trans hl.1.symm) hown (hts _ m_671d72d9) (hts _ m_80a2ec50) (hts _ m_868a9286) (hts _ m_b6349a14) (by show 1 ≤ 8 + _; omega) (Nat.le_trans (Nat.le_of_ble_eq_true rfl : _ ≤ 60) (by show 60 ≤ 120 + _; omega)) (show k ≤ MC by omega) (show n ≤ MS by omega) (xb_d D_Row_makeRoom 14 rfl) ?_
    refine xb_call (D := D) (A := A) (σ := σ) (h := h) (d := 2) (mc := bc) (ms := bs) (maxL := 3) (rest := [.ref x0]) (av := [.ref b5, .int (if x1 < (2 * (nI (xb_n h b6))) then (2 * (nI (xb_n h b6))) else x1)]) (fun T hT X => xt_invS X hx hown (hts _ m_1ef749e8) (hts _ m_92cbae34) (hts _ m_b999e92a) (xt_sgS (hts _ m_00ffaf1f)).1 (xt_sgS (hts _ m_00ffaf1f)).2 nm_Arrays_copyOf1 (g := F0 m 25 ls [.int (if x1 < (2 * (nI (xb_n h b6))) then (2 * (nI (xb_n h b6))) else x1), .ref b5, .ref x0]) rfl (argsL := [.ref b5, .int (if x1 < (2 * (nI (xb_n h b6))) then (2 * (nI (xb_n h b6))) else x1)]) (rest := [.ref x0]) rfl rfl (by rw [hb]; exact (xb_d D_Row_makeRoom 15 rfl))) (ok_Arrays_copyOf1 l hfl D A σ b5 (if x1 < (2 * (nI (xb_n h b6))) then (2 * (nI (xb_n h b6))) else x1) h bc bs _ hw) (hml.trans hl.1.symm) (by rw [hb]; exact (xb_d D_Row_makeRoom 15 rfl)) (Nat.le_of_ble_eq_true rfl) (Nat.le_of_ble_eq_true rfl) (Nat.le_of_ble_eq_true rfl) (show k + bc ≤ MC by omega) (show n + bs ≤ MS by omega) (xt_w1 hB.1 m_00ffaf1f) (xt_cdOf hB.1 m_00ffaf1f) (hts _ m_b999e92a) hB hR hS hA (fun vv h8 bc9 bs9 kk9 nn9 H locs hk9 hn9 hq hEh8 hR hS => ?_) (fun XX ax h8 bc9 bs9 kk9 nn9 H locs hk9 hn9 hq hEh8 hex hR hS => ?_)
    · obtain ⟨r9, rfl, hw⟩ := hq
      have hw := hw hEh8
      have hE := hE.tr hEh8
      refine W.eq (g2 := F0 m 28 ls [.ref r9, .ref x0]) rfl ?_
      have hk1 : xb_k h8 x0 = 2 := hEh8.k hk1
      refine xb_putP (C := R_Row) (T := F_Row) (N := 3) (ty := .array .long) (x := (some r9)) hx hb 1 0 hts fin_Row t_Row t_Row_ok n_Row hown hR hS hk1 (by decide) rfl (by decide) rfl (hts _ m_8e18d96c) (fun _ h9 => h9) rfl (by decide +kernel) (xb_pnA _ _).1 (xb_pnA _ _).2 (xb_d D_Row_makeRoom 16 rfl) (fun H locs hR hS => ?_)
      obtain ⟨h10, eh10⟩ : ∃ x : xb_H, x = xb_P h8 x0 0 (some r9) := ⟨_, rfl⟩
      rw [← eh10] at hR
      have hw := hw h10 eh10
      have hE : xb_ext h0 h10 := by rw [eh10]; exact hE
      exact am_Row_makeRoom_L31 l hfl D A σ MC MS h0 Qr h10 bc9 bs9 hw p e s m args below meth c hC H locs ls (k + kk9) (n + nn9) hE (lv_sub hl [] rfl) hR hS (by omega) (by omega)
    · exact False.elim hq

theorem m_f8a016f5 : (.methodLink "StackHost$StackModule" 3 objectInit : Cond) ∈ xt_tbl := xt_in (xt_t3 (List.mem_of_getElem? (i := 43) (by decide +kernel))) (by decide +kernel)
theorem m_cf9255b9 : (.classLink "StackHost$StackModule" 9 "StackHost$Row" : Cond) ∈ xt_tbl := xt_in (xt_t3 (List.mem_of_getElem? (i := 44) (by decide +kernel))) (by decide +kernel)
theorem m_decbd935 : (.instantiable "StackHost$Row" 3 : Cond) ∈ xt_tbl := xt_in (xt_t1 (List.mem_of_getElem? (i := 139) (by decide +kernel))) (by decide +kernel)
theorem m_9c57bdbc : (.methodLink "StackHost$StackModule" 11 y_Row_init : Cond) ∈ xt_tbl := xt_in (xt_t3 (List.mem_of_getElem? (i := 45) (by decide +kernel))) (by decide +kernel)
theorem m_16ca0e9f : (.instanceMethod y_Row_init : Cond) ∈ xt_tbl := xt_in (xt_t1 (List.mem_of_getElem? (i := 141) (by decide +kernel))) (by decide +kernel)
theorem m_3d9e18a6 : (.code y_Row_init b_Row_init 2 none : Cond) ∈ xt_tbl := xt_in (xt_t1 (List.mem_of_getElem? (i := 142) (by decide +kernel))) (by decide +kernel)
theorem m_b7ec8f62 : (.fieldLink "StackHost$StackModule" 14 "StackHost$StackModule" "types" "LStackHost$Row;" : Cond) ∈ xt_tbl := xt_in (xt_t3 (List.mem_of_getElem? (i := 56) (by decide +kernel))) (by decide +kernel)
theorem m_ef4e5361 : (.fieldLink "StackHost$StackModule" 20 "StackHost$StackModule" "imports" "LStackHost$Row;" : Cond) ∈ xt_tbl := xt_in (xt_t3 (List.mem_of_getElem? (i := 60) (by decide +kernel))) (by decide +kernel)
theorem m_4d92b9c1 : (.fieldLink "StackHost$StackModule" 23 "StackHost$StackModule" "functions" "LStackHost$Row;" : Cond) ∈ xt_tbl := xt_in (xt_t3 (List.mem_of_getElem? (i := 65) (by decide +kernel))) (by decide +kernel)
theorem m_f396a79e : (.fieldLink "StackHost$StackModule" 26 "StackHost$StackModule" "tables" "LStackHost$Row;" : Cond) ∈ xt_tbl := xt_in (xt_t3 (List.mem_of_getElem? (i := 70) (by decide +kernel))) (by decide +kernel)
theorem m_fa681d91 : (.fieldLink "StackHost$StackModule" 29 "StackHost$StackModule" "memories" "LStackHost$Row;" : Cond) ∈ xt_tbl := xt_in (xt_t3 (List.mem_of_getElem? (i := 75) (by decide +kernel))) (by decide +kernel)
theorem m_f07ea674 : (.fieldLink "StackHost$StackModule" 32 "StackHost$StackModule" "variables" "LStackHost$Row;" : Cond) ∈ xt_tbl := xt_in (xt_t3 (List.mem_of_getElem? (i := 80) (by decide +kernel))) (by decide +kernel)
theorem m_d9eb608a : (.fieldLink "StackHost$StackModule" 35 "StackHost$StackModule" "exports" "LStackHost$Row;" : Cond) ∈ xt_tbl := xt_in (xt_t3 (List.mem_of_getElem? (i := 85) (by decide +kernel))) (by decide +kernel)
theorem m_da628c90 : (.fieldLink "StackHost$StackModule" 38 "StackHost$StackModule" "elements" "LStackHost$Row;" : Cond) ∈ xt_tbl := xt_in (xt_t3 (List.mem_of_getElem? (i := 90) (by decide +kernel))) (by decide +kernel)
theorem m_cca3a0b5 : (.fieldLink "StackHost$StackModule" 41 "StackHost$StackModule" "listed" "LStackHost$Row;" : Cond) ∈ xt_tbl := xt_in (xt_t3 (List.mem_of_getElem? (i := 95) (by decide +kernel))) (by decide +kernel)
theorem m_a932e3c3 : (.fieldLink "StackHost$StackModule" 44 "StackHost$StackModule" "bodies" "LStackHost$Row;" : Cond) ∈ xt_tbl := xt_in (xt_t3 (List.mem_of_getElem? (i := 99) (by decide +kernel))) (by decide +kernel)
theorem m_e5061392 : (.fieldLink "StackHost$StackModule" 47 "StackHost$StackModule" "groups" "LStackHost$Row;" : Cond) ∈ xt_tbl := xt_in (xt_t3 (List.mem_of_getElem? (i := 104) (by decide +kernel))) (by decide +kernel)
theorem m_d482c833 : (.fieldLink "StackHost$StackModule" 50 "StackHost$StackModule" "data" "LStackHost$Row;" : Cond) ∈ xt_tbl := xt_in (xt_t3 (List.mem_of_getElem? (i := 107) (by decide +kernel))) (by decide +kernel)
theorem m_bb4d7013 : (.fieldLink "StackHost$StackModule" 53 "StackHost$StackModule" "imported" "[I" : Cond) ∈ xt_tbl := xt_in (xt_t3 (List.mem_of_getElem? (i := 112) (by decide +kernel))) (by decide +kernel)
theorem m_828ab96c : (.fieldLink "StackHost$StackModule" 57 "StackHost$StackModule" "start" "I" : Cond) ∈ xt_tbl := xt_in (xt_t3 (List.mem_of_getElem? (i := 117) (by decide +kernel))) (by decide +kernel)
theorem m_29ea2f5d : (.fieldLink "StackHost$StackModule" 61 "StackHost$StackModule" "startAt" "I" : Cond) ∈ xt_tbl := xt_in (xt_t3 (List.mem_of_getElem? (i := 121) (by decide +kernel))) (by decide +kernel)
theorem nm_Row_init : xt_nm y_Row_init 1 := ⟨by decide +kernel, by decide +kernel⟩
set_option maxRecDepth 100000 in
def T_StackModule_init : List (Nat × Instr × Nat) := [(0, .aload_n 0, 1), (1, .invokespecial 3, 3), (4, .aload_n 0, 1), (5, .new 9, 3), (8, .dup, 1), (9, .iconst 5, 1), (10, .invokespecial 11, 3), (13, .putfield 14, 3), (16, .aload_n 0, 1), (17, .new 9, 3), (20, .dup, 1), (21, .bipush 7, 2), (23, .invokespecial 11, 3), (26, .putfield 20, 3), (29, .aload_n 0, 1), (30, .new 9, 3), (33, .dup, 1), (34, .iconst 2, 1), (35, .invokespecial 11, 3), (38, .putfield 23, 3), (41, .aload_n 0, 1), (42, .new 9, 3), (45, .dup, 1), (46, .iconst 3, 1), (47, .invokespecial 11, 3), (50, .putfield 26, 3), (53, .aload_n 0, 1), (54, .new 9, 3), (57, .dup, 1), (58, .iconst 3, 1), (59, .invokespecial 11, 3), (62, .putfield 29, 3), (65, .aload_n 0, 1), (66, .new 9, 3), (69, .dup, 1), (70, .iconst 4, 1), (71, .invokespecial 11, 3), (74, .putfield 32, 3), (77, .aload_n 0, 1), (78, .new 9, 3), (81, .dup, 1), (82, .iconst 5, 1), (83, .invokespecial 11, 3), (86, .putfield 35, 3), (89, .aload_n 0, 1), (90, .new 9, 3), (93, .dup, 1), (94, .iconst 5, 1), (95, .invokespecial 11, 3), (98, .putfield 38, 3), (101, .aload_n 0, 1), (102, .new 9, 3), (105, .dup, 1), (106, .iconst 2, 1), (107, .invokespecial 11, 3), (110, .putfield 41, 3), (113, .aload_n 0, 1), (114, .new 9, 3), (117, .dup, 1), (118, .iconst 5, 1), (119, .invokespecial 11, 3), (122, .putfield 44, 3), (125, .aload_n 0, 1), (126, .new 9, 3), (129, .dup, 1), (130, .iconst 2, 1), (131, .invokespecial 11, 3), (134, .putfield 47, 3), (137, .aload_n 0, 1), (138, .new 9, 3), (141, .dup, 1), (142, .iconst 5, 1), (143, .invokespecial 11, 3), (146, .putfield 50, 3), (149, .aload_n 0, 1), (150, .iconst 4, 1), (151, .newarray .int, 2), (153, .putfield 53, 3), (156, .aload_n 0, 1), (157, .iconst (-1), 1), (158, .putfield 57, 3), (161, .aload_n 0, 1), (162, .iconst (-1), 1), (163, .putfield 61, 3), (166, .aload_n 0, 1), (167, .aload_n 1, 1), (168, .putfield 64, 3), (171, .aload_n 0, 1), (172, .aload_n 1, 1), (173, .arraylength, 1), (174, .newarray .int, 2), (176, .putfield 68, 3), (179, .return_, 1)]
theorem D_StackModule_init : ∀ q ∈ T_StackModule_init, decode b_StackModule_init q.1 = .ok (q.2.1, q.2.2) := by decide +kernel

set_option maxHeartbeats 4000000 in
set_option maxRecDepth 100000 in
theorem ok_StackModule_init (l : Launch) (hfl : l.flags = pinnedFlags ++ [noTraceFlag]) (D : va_G) (A : Nat → Prop) (σ : Nat) (x0 : Nat) (x1 : Nat) (h : xb_H) (bc : Nat) (bs : Nat) (Qr : xb_H → Nat → Nat → Prop) (hw : w_StackModule_init x0 x1 h bc bs Qr) : xb_Met l y_StackModule_init [.code y_StackModule_init b_StackModule_init 2 none] (xb_rm 3 bc bs) (xb_Pc D A σ h [.ref x0, .ref x1]) (xb_Qc D A h bc bs (fun v h bc bs => v = none ∧ Qr h bc bs) (fun _ _ _ _ => False)) A := by
  refine xb_ofAm (cc := b_StackModule_init) (by decide) (Nat.le_of_ble_eq_true rfl) ?_
  unfold w_StackModule_init at hw
  show xb_am l D A σ 3 bc bs h (fun v h bc bs => v = none ∧ Qr h bc bs) (fun _ _ _ _ => False) y_StackModule_init.cls y_StackModule_init.name b_StackModule_init 2 ([] : List ExceptionTableEntry) none 0 [(0, .ref x0), (1, .ref x1)] [] h bc bs
  obtain ⟨MC, hMC⟩ : ∃ x, x = bc := ⟨_, rfl⟩
  obtain ⟨MS, hMS⟩ : ∃ x, x = bs := ⟨_, rfl⟩
  rw [show xb_am l D A σ 3 bc bs = xb_am l D A σ 3 MC MS by rw [hMC, hMS]]
  obtain ⟨h0, hh0⟩ : ∃ x, x = h := ⟨_, rfl⟩
  rw [show xb_am l D A σ 3 MC MS h = xb_am l D A σ 3 MC MS h0 by rw [hh0]]
  intro p e s m args below meth c hC H locs ls k n hE hl hR hS hk hn
  obtain ⟨hx, hb, hown, hlocks, htab, hml, hr, hB, hA, hnm⟩ := id hC
  have hts := hB.1.1.at args
  refine lv_aload_n hx hb (xb_d D_StackModule_init 0 rfl) rfl (lv_at hl 0 rfl) ?_
  refine W.objInit hx hb hown (hts _ m_f8a016f5) (hts _ m_fba9d542) (hts _ m_9febdb7e) rfl (hml.trans hl.1.symm).symm rfl (xb_d D_StackModule_init 1 rfl) (by show 1 ≤ 8 + _; omega) (Nat.le_trans (Nat.le_of_ble_eq_true rfl : _ ≤ 40) (by show 40 ≤ 120 + _; omega)) ?_
  refine W.eq (g2 := F0 m 4 ls []) rfl ?_
  refine lv_aload_n hx hb (xb_d D_StackModule_init 2 rfl) rfl (lv_at hl 0 rfl) ?_
  obtain ⟨hcq1, hsq1, hw⟩ := hw
  refine xb_newo (C := R_Row) (T := F_Row) (N := 3) hx hb 1 hts fin_Row t_Row t_Row_ok hown (hts _ m_cf9255b9) (hts _ m_decbd935) (hts _ m_c1bef504) hR hS hA (by decide) rfl dg_Row (show k + 1 ≤ MC by omega) (show n + 3 ≤ MS by omega) (xb_d D_StackModule_init 3 rfl) (fun q1 H hqq1 hR hS => ?_)
  have hw := hw q1 hqq1
  obtain ⟨h2, eh2⟩ : ∃ x : xb_H, x = xb_new h q1 2 0 := ⟨_, rfl⟩
  rw [← eh2] at hR
  have hw := hw h2 eh2
  have hE : xb_ext h0 h2 := by rw [eh2]; exact hE.new _ _ hqq1
  have hk3 : xb_k h2 q1 = 2 := by rw [eh2]; exact xb_new_k _ _ _ _
  refine lv_dup hx hb (xb_d D_StackModule_init 4 rfl) rfl ?_
  refine lv_iconst (v := 5) hx hb (xb_d D_StackModule_init 5 rfl) (by decide) ?_
  refine xb_call (D := D) (A := A) (σ := σ) (h := h2) (d := 2) (mc := (bc - 1)) (ms := (bs - 3)) (maxL := 2) (rest := [.ref q1, .ref x0]) (av := [.ref q1, .int 5]) (fun T hT X => xt_invI X hx hown rfl (hts _ m_9c57bdbc) (hts _ m_16ca0e9f) (hts _ m_3d9e18a6) nm_Row_init (g := F0 m 10 ls [.int 5, .ref q1, .ref q1, .ref x0]) rfl (b := q1) (argsL := [.int 5]) (rest := [.ref q1, .ref x0]) rfl rfl (by rw [hb]; exact (xb_d D_StackModule_init 6 rfl))) (ok_Row_init l hfl D A σ q1 5 h2 (bc - 1) (bs - 3) _ hw) (hml.trans hl.1.symm) (by rw [hb]; exact (xb_d D_StackModule_init 6 rfl)) (Nat.le_of_ble_eq_true rfl) (Nat.le_of_ble_eq_true rfl) (Nat.le_of_ble_eq_true rfl) (show (k + 1) + (bc - 1) ≤ MC by omega) (show (n + 3) + (bs - 3) ≤ MS by omega) (xt_w1 hB.1 m_3d9e18a6) (xt_cdOf hB.1 m_3d9e18a6) (hts _ m_c1bef504) hB hR hS hA (fun vv h4 bc5 bs5 kk5 nn5 H locs hk5 hn5 hq hEh4 hR hS => ?_) (fun XX ax h4 bc5 bs5 kk5 nn5 H locs hk5 hn5 hq hEh4 hex hR hS => ?_)
  · obtain ⟨rfl, hw⟩ := hq
    have hw := hw hEh4
    have hE := hE.tr hEh4
    refine W.eq (g2 := F0 m 13 ls [.ref q1, .ref x0]) rfl ?_
    obtain ⟨hk6, hw⟩ := hw
    refine xb_putPF (C := R_StackModule) (T := F_StackModule) (N := 19) (ty := .object "StackHost$Row") (x := (some q1)) hx hb 2 2 hts fin_StackModule t_StackModule t_StackModule_ok n_StackModule hown hR hS hk6 (by decide) rfl (by decide) rfl (hts _ m_b7ec8f62) (fun _ h9 => h9) rfl hnm rfl (by decide +kernel) (xb_pnO _ _).1 (xb_pnO _ _).2 (xb_d D_StackModule_init 7 rfl) (fun H locs hR hS => ?_)
    obtain ⟨h7, eh7⟩ : ∃ x : xb_H, x = xb_P h4 x0 2 (some q1) := ⟨_, rfl⟩
    rw [← eh7] at hR
    have hw := hw h7 eh7
    have hE : xb_ext h0 h7 := by rw [eh7]; exact hE
    refine lv_aload_n hx hb (xb_d D_StackModule_init 8 rfl) rfl (lv_at hl 0 rfl) ?_
    obtain ⟨hcq8, hsq8, hw⟩ := hw
    refine xb_newo (C := R_Row) (T := F_Row) (N := 3) hx hb 1 hts fin_Row t_Row t_Row_ok hown (hts _ m_cf9255b9) (hts _ m_decbd935) (hts _ m_c1bef504) hR hS hA (by decide) rfl dg_Row (show ((k + 1) + kk5) + 1 ≤ MC by omega) (show ((n + 3) + nn5) + 3 ≤ MS by omega) (xb_d D_StackModule_init 9 rfl) (fun q8 H hqq8 hR hS => ?_)
    have hw := hw q8 hqq8
    obtain ⟨h9, eh9⟩ : ∃ x : xb_H, x = xb_new h7 q8 2 0 := ⟨_, rfl⟩
    rw [← eh9] at hR
    have hw := hw h9 eh9
    have hE : xb_ext h0 h9 := by rw [eh9]; exact hE.new _ _ hqq8
    have hk10 : xb_k h9 q8 = 2 := by rw [eh9]; exact xb_new_k _ _ _ _
    refine lv_dup hx hb (xb_d D_StackModule_init 10 rfl) rfl ?_
    refine lv_bipush (v := 7) hx hb (xb_d D_StackModule_init 11 rfl) (by decide) ?_
    refine xb_call (D := D) (A := A) (σ := σ) (h := h9) (d := 2) (mc := (bc5 - 1)) (ms := (bs5 - 3)) (maxL := 2) (rest := [.ref q8, .ref x0]) (av := [.ref q8, .int 7]) (fun T hT X => xt_invI X hx hown rfl (hts _ m_9c57bdbc) (hts _ m_16ca0e9f) (hts _ m_3d9e18a6) nm_Row_init (g := F0 m 23 ls [.int 7, .ref q8, .ref q8, .ref x0]) rfl (b := q8) (argsL := [.int 7]) (rest := [.ref q8, .ref x0]) rfl rfl (by rw [hb]; exact (xb_d D_StackModule_init 12 rfl))) (ok_Row_init l hfl D A σ q8 7 h9 (bc5 - 1) (bs5 - 3) _ hw) (hml.trans hl.1.symm) (by rw [hb]; exact (xb_d D_StackModule_init 12 rfl)) (Nat.le_of_ble_eq_true rfl) (Nat.le_of_ble_eq_true rfl) (Nat.le_of_ble_eq_true rfl) (show (((k + 1) + kk5) + 1) + (bc5 - 1) ≤ MC by omega) (show (((n + 3) + nn5) + 3) + (bs5 - 3) ≤ MS by omega) (xt_w1 hB.1 m_3d9e18a6) (xt_cdOf hB.1 m_3d9e18a6) (hts _ m_c1bef504) hB hR hS hA (fun vv h11 bc12 bs12 kk12 nn12 H locs hk12 hn12 hq hEh11 hR hS => ?_) (fun XX ax h11 bc12 bs12 kk12 nn12 H locs hk12 hn12 hq hEh11 hex hR hS => ?_)
    · obtain ⟨rfl, hw⟩ := hq
      have hw := hw hEh11
      have hE := hE.tr hEh11
      refine W.eq (g2 := F0 m 26 ls [.ref q8, .ref x0]) rfl ?_
      have hk6 : xb_k h7 x0 = 3 := by rw [eh7]; exact hk6
      have hk6 : xb_k h9 x0 = 3 := by rw [eh9]; exact xb_nk hqq8 hk6
      have hk6 : xb_k h11 x0 = 3 := hEh11.k hk6
      refine xb_putPF (C := R_StackModule) (T := F_StackModule) (N := 19) (ty := .object "StackHost$Row") (x := (some q8)) hx hb 2 3 hts fin_StackModule t_StackModule t_StackModule_ok n_StackModule hown hR hS hk6 (by decide) rfl (by decide) rfl (hts _ m_ef4e5361) (fun _ h9 => h9) rfl hnm rfl (by decide +kernel) (xb_pnO _ _).1 (xb_pnO _ _).2 (xb_d D_StackModule_init 13 rfl) (fun H locs hR hS => ?_)
      obtain ⟨h13, eh13⟩ : ∃ x : xb_H, x = xb_P h11 x0 3 (some q8) := ⟨_, rfl⟩
      rw [← eh13] at hR
      have hw := hw h13 eh13
      have hE : xb_ext h0 h13 := by rw [eh13]; exact hE
      refine lv_aload_n hx hb (xb_d D_StackModule_init 14 rfl) rfl (lv_at hl 0 rfl) ?_
      obtain ⟨hcq14, hsq14, hw⟩ := hw
      refine xb_newo (C := R_Row) (T := F_Row) (N := 3) hx hb 1 hts fin_Row t_Row t_Row_ok hown (hts _ m_cf9255b9) (hts _ m_decbd935) (hts _ m_c1bef504) hR hS hA (by decide) rfl dg_Row (show ((((k + 1) + kk5) + 1) + kk12) + 1 ≤ MC by omega) (show ((((n + 3) + nn5) + 3) + nn12) + 3 ≤ MS by omega) (xb_d D_StackModule_init 15 rfl) (fun q14 H hqq14 hR hS => ?_)
      have hw := hw q14 hqq14
      obtain ⟨h15, eh15⟩ : ∃ x : xb_H, x = xb_new h13 q14 2 0 := ⟨_, rfl⟩
      rw [← eh15] at hR
      have hw := hw h15 eh15
      have hE : xb_ext h0 h15 := by rw [eh15]; exact hE.new _ _ hqq14
      have hk16 : xb_k h15 q14 = 2 := by rw [eh15]; exact xb_new_k _ _ _ _
      refine lv_dup hx hb (xb_d D_StackModule_init 16 rfl) rfl ?_
      refine lv_iconst (v := 2) hx hb (xb_d D_StackModule_init 17 rfl) (by decide) ?_
      refine xb_call (D := D) (A := A) (σ := σ) (h := h15) (d := 2) (mc := (bc12 - 1)) (ms := (bs12 - 3)) (maxL := 2) (rest := [.ref q14, .ref x0]) (av := [.ref q14, .int 2]) (fun T hT X => xt_invI X hx hown rfl (hts _ m_9c57bdbc) (hts _ m_16ca0e9f) (hts _ m_3d9e18a6) nm_Row_init (g := F0 m 35 ls [.int 2, .ref q14, .ref q14, .ref x0]) rfl (b := q14) (argsL := [.int 2]) (rest := [.ref q14, .ref x0]) rfl rfl (by rw [hb]; exact (xb_d D_StackModule_init 18 rfl))) (ok_Row_init l hfl D A σ q14 2 h15 (bc12 - 1) (bs12 - 3) _ hw) (hml.trans hl.1.symm) (by rw [hb]; exact (xb_d D_StackModule_init 18 rfl)) (Nat.le_of_ble_eq_true rfl) (Nat.le_of_ble_eq_true rfl) (Nat.le_of_ble_eq_true rfl) (show (((((k + 1) + kk5) + 1) + kk12) + 1) + (bc12 - 1) ≤ MC by omega) (show (((((n + 3) + nn5) + 3) + nn12) + 3) + (bs12 - 3) ≤ MS by omega) (xt_w1 hB.1 m_3d9e18a6) (xt_cdOf hB.1 m_3d9e18a6) (hts _ m_c1bef504) hB hR hS hA (fun vv h17 bc18 bs18 kk18 nn18 H locs hk18 hn18 hq hEh17 hR hS => ?_) (fun XX ax h17 bc18 bs18 kk18 nn18 H locs hk18 hn18 hq hEh17 hex hR hS => ?_)
      · obtain ⟨rfl, hw⟩ := hq
        have hw := hw hEh17
        have hE := hE.tr hEh17
        refine W.eq (g2 := F0 m 38 ls [.ref q14, .ref x0]) rfl ?_
        have hk6 : xb_k h13 x0 = 3 := by rw [eh13]; exact hk6
        have hk6 : xb_k h15 x0 = 3 := by rw [eh15]; exact xb_nk hqq14 hk6
        have hk6 : xb_k h17 x0 = 3 := hEh17.k hk6
        refine xb_putPF (C := R_StackModule) (T := F_StackModule) (N := 19) (ty := .object "StackHost$Row") (x := (some q14)) hx hb 2 4 hts fin_StackModule t_StackModule t_StackModule_ok n_StackModule hown hR hS hk6 (by decide) rfl (by decide) rfl (hts _ m_4d92b9c1) (fun _ h9 => h9) rfl hnm rfl (by decide +kernel) (xb_pnO _ _).1 (xb_pnO _ _).2 (xb_d D_StackModule_init 19 rfl) (fun H locs hR hS => ?_)
        obtain ⟨h19, eh19⟩ : ∃ x : xb_H, x = xb_P h17 x0 4 (some q14) := ⟨_, rfl⟩
        rw [← eh19] at hR
        have hw := hw h19 eh19
        have hE : xb_ext h0 h19 := by rw [eh19]; exact hE
        refine lv_aload_n hx hb (xb_d D_StackModule_init 20 rfl) rfl (lv_at hl 0 rfl) ?_
        obtain ⟨hcq20, hsq20, hw⟩ := hw
        refine xb_newo (C := R_Row) (T := F_Row) (N := 3) hx hb 1 hts fin_Row t_Row t_Row_ok hown (hts _ m_cf9255b9) (hts _ m_decbd935) (hts _ m_c1bef504) hR hS hA (by decide) rfl dg_Row (show ((((((k + 1) + kk5) + 1) + kk12) + 1) + kk18) + 1 ≤ MC by omega) (show ((((((n + 3) + nn5) + 3) + nn12) + 3) + nn18) + 3 ≤ MS by omega) (xb_d D_StackModule_init 21 rfl) (fun q20 H hqq20 hR hS => ?_)
        have hw := hw q20 hqq20
        obtain ⟨h21, eh21⟩ : ∃ x : xb_H, x = xb_new h19 q20 2 0 := ⟨_, rfl⟩
        rw [← eh21] at hR
        have hw := hw h21 eh21
        have hE : xb_ext h0 h21 := by rw [eh21]; exact hE.new _ _ hqq20
        have hk22 : xb_k h21 q20 = 2 := by rw [eh21]; exact xb_new_k _ _ _ _
        refine lv_dup hx hb (xb_d D_StackModule_init 22 rfl) rfl ?_
        refine lv_iconst (v := 3) hx hb (xb_d D_StackModule_init 23 rfl) (by decide) ?_
        refine xb_call (D := D) (A := A) (σ := σ) (h := h21) (d := 2) (mc := (bc18 - 1)) (ms := (bs18 - 3)) (maxL := 2) (rest := [.ref q20, .ref x0]) (av := [.ref q20, .int 3]) (fun T hT X => xt_invI X hx hown rfl (hts _ m_9c57bdbc) (hts _ m_16ca0e9f) (hts _ m_3d9e18a6) nm_Row_init (g := F0 m 47 ls [.int 3, .ref q20, .ref q20, .ref x0]) rfl (b := q20) (argsL := [.int 3]) (rest := [.ref q20, .ref x0]) rfl rfl (by rw [hb]; exact (xb_d D_StackModule_init 24 rfl))) (ok_Row_init l hfl D A σ q20 3 h21 (bc18 - 1) (bs18 - 3) _ hw) (hml.trans hl.1.symm) (by rw [hb]; exact (xb_d D_StackModule_init 24 rfl)) (Nat.le_of_ble_eq_true rfl) (Nat.le_of_ble_eq_true rfl) (Nat.le_of_ble_eq_true rfl) (show (((((((k + 1) + kk5) + 1) + kk12) + 1) + kk18) + 1) + (bc18 - 1) ≤ MC by omega) (show (((((((n + 3) + nn5) + 3) + nn12) + 3) + nn18) + 3) + (bs18 - 3) ≤ MS by omega) (xt_w1 hB.1 m_3d9e18a6) (xt_cdOf hB.1 m_3d9e18a6) (hts _ m_c1bef504) hB hR hS hA (fun vv h23 bc24 bs24 kk24 nn24 H locs hk24 hn24 hq hEh23 hR hS => ?_) (fun XX ax h23 bc24 bs24 kk24 nn24 H locs hk24 hn24 hq hEh23 hex hR hS => ?_)
        · obtain ⟨rfl, hw⟩ := hq
          have hw := hw hEh23
          have hE := hE.tr hEh23
          refine W.eq (g2 := F0 m 50 ls [.ref q20, .ref x0]) rfl ?_
          have hk6 : xb_k h19 x0 = 3 := by rw [eh19]; exact hk6
          have hk6 : xb_k h21 x0 = 3 := by rw [eh21]; exact xb_nk hqq20 hk6
          have hk6 : xb_k h23 x0 = 3 := hEh23.k hk6
          refine xb_putPF (C := R_StackModule) (T := F_StackModule) (N := 19) (ty := .object "StackHost$Row") (x := (some q20)) hx hb 2 5 hts fin_StackModule t_StackModule t_StackModule_ok n_StackModule hown hR hS hk6 (by decide) rfl (by decide) rfl (hts _ m_f396a79e) (fun _ h9 => h9) rfl hnm rfl (by decide +kernel) (xb_pnO _ _).1 (xb_pnO _ _).2 (xb_d D_StackModule_init 25 rfl) (fun H locs hR hS => ?_)
          obtain ⟨h25, eh25⟩ : ∃ x : xb_H, x = xb_P h23 x0 5 (some q20) := ⟨_, rfl⟩
          rw [← eh25] at hR
          have hw := hw h25 eh25
          have hE : xb_ext h0 h25 := by rw [eh25]; exact hE
          refine lv_aload_n hx hb (xb_d D_StackModule_init 26 rfl) rfl (lv_at hl 0 rfl) ?_
          obtain ⟨hcq26, hsq26, hw⟩ := hw
          refine xb_newo (C := R_Row) (T := F_Row) (N := 3) hx hb 1 hts fin_Row t_Row t_Row_ok hown (hts _ m_cf9255b9) (hts _ m_decbd935) (hts _ m_c1bef504) hR hS hA (by decide) rfl dg_Row (show ((((((((k + 1) + kk5) + 1) + kk12) + 1) + kk18) + 1) + kk24) + 1 ≤ MC by omega) (show ((((((((n + 3) + nn5) + 3) + nn12) + 3) + nn18) + 3) + nn24) + 3 ≤ MS by omega) (xb_d D_StackModule_init 27 rfl) (fun q26 H hqq26 hR hS => ?_)
          have hw := hw q26 hqq26
          obtain ⟨h27, eh27⟩ : ∃ x : xb_H, x = xb_new h25 q26 2 0 := ⟨_, rfl⟩
          rw [← eh27] at hR
          have hw := hw h27 eh27
          have hE : xb_ext h0 h27 := by rw [eh27]; exact hE.new _ _ hqq26
          have hk28 : xb_k h27 q26 = 2 := by rw [eh27]; exact xb_new_k _ _ _ _
          refine lv_dup hx hb (xb_d D_StackModule_init 28 rfl) rfl ?_
          refine lv_iconst (v := 3) hx hb (xb_d D_StackModule_init 29 rfl) (by decide) ?_
          refine xb_call (D := D) (A := A) (σ := σ) (h := h27) (d := 2) (mc := (bc24 - 1)) (ms := (bs24 - 3)) (maxL := 2) (rest := [.ref q26, .ref x0]) (av := [.ref q26, .int 3]) (fun T hT X => xt_invI X hx hown rfl (hts _ m_9c57bdbc) (hts _ m_16ca0e9f) (hts _ m_3d9e18a6) nm_Row_init (g := F0 m 59 ls [.int 3, .ref q26, .ref q26, .ref x0]) rfl (b := q26) (argsL := [.int 3]) (rest := [.ref q26, .ref x0]) rfl rfl (by rw [hb]; exact (xb_d D_StackModule_init 30 rfl))) (ok_Row_init l hfl D A σ q26 3 h27 (bc24 - 1) (bs24 - 3) _ hw) (hml.trans hl.1.symm) (by rw [hb]; exact (xb_d D_StackModule_init 30 rfl)) (Nat.le_of_ble_eq_true rfl) (Nat.le_of_ble_eq_true rfl) (Nat.le_of_ble_eq_true rfl) (show (((((((((k + 1) + kk5) + 1) + kk12) + 1) + kk18) + 1) + kk24) + 1) + (bc24 - 1) ≤ MC by omega) (show (((((((((n + 3) + nn5) + 3) + nn12) + 3) + nn18) + 3) + nn24) + 3) + (bs24 - 3) ≤ MS by omega) (xt_w1 hB.1 m_3d9e18a6) (xt_cdOf hB.1 m_3d9e18a6) (hts _ m_c1bef504) hB hR hS hA (fun vv h29 bc30 bs30 kk30 nn30 H locs hk30 hn30 hq hEh29 hR hS => ?_) (fun XX ax h29 bc30 bs30 kk30 nn30 H locs hk30 hn30 hq hEh29 hex hR hS => ?_)
          · obtain ⟨rfl, hw⟩ := hq
            have hw := hw hEh29
            have hE := hE.tr hEh29
            refine W.eq (g2 := F0 m 62 ls [.ref q26, .ref x0]) rfl ?_
            have hk6 : xb_k h25 x0 = 3 := by rw [eh25]; exact hk6
            have hk6 : xb_k h27 x0 = 3 := by rw [eh27]; exact xb_nk hqq26 hk6
            have hk6 : xb_k h29 x0 = 3 := hEh29.k hk6
            refine xb_putPF (C := R_StackModule) (T := F_StackModule) (N := 19) (ty := .object "StackHost$Row") (x := (some q26)) hx hb 2 6 hts fin_StackModule t_StackModule t_StackModule_ok n_StackModule hown hR hS hk6 (by decide) rfl (by decide) rfl (hts _ m_fa681d91) (fun _ h9 => h9) rfl hnm rfl (by decide +kernel) (xb_pnO _ _).1 (xb_pnO _ _).2 (xb_d D_StackModule_init 31 rfl) (fun H locs hR hS => ?_)
            obtain ⟨h31, eh31⟩ : ∃ x : xb_H, x = xb_P h29 x0 6 (some q26) := ⟨_, rfl⟩
            rw [← eh31] at hR
            have hw := hw h31 eh31
            have hE : xb_ext h0 h31 := by rw [eh31]; exact hE
            refine lv_aload_n hx hb (xb_d D_StackModule_init 32 rfl) rfl (lv_at hl 0 rfl) ?_
            obtain ⟨hcq32, hsq32, hw⟩ := hw
            refine xb_newo (C := R_Row) (T := F_Row) (N := 3) hx hb 1 hts fin_Row t_Row t_Row_ok hown (hts _ m_cf9255b9) (hts _ m_decbd935) (hts _ m_c1bef504) hR hS hA (by decide) rfl dg_Row (show ((((((((((k + 1) + kk5) + 1) + kk12) + 1) + kk18) + 1) + kk24) + 1) + kk30) + 1 ≤ MC by omega) (show ((((((((((n + 3) + nn5) + 3) + nn12) + 3) + nn18) + 3) + nn24) + 3) + nn30) + 3 ≤ MS by omega) (xb_d D_StackModule_init 33 rfl) (fun q32 H hqq32 hR hS => ?_)
            have hw := hw q32 hqq32
            obtain ⟨h33, eh33⟩ : ∃ x : xb_H, x = xb_new h31 q32 2 0 := ⟨_, rfl⟩
            rw [← eh33] at hR
            have hw := hw h33 eh33
            have hE : xb_ext h0 h33 := by rw [eh33]; exact hE.new _ _ hqq32
            have hk34 : xb_k h33 q32 = 2 := by rw [eh33]; exact xb_new_k _ _ _ _
            refine lv_dup hx hb (xb_d D_StackModule_init 34 rfl) rfl ?_
            refine lv_iconst (v := 4) hx hb (xb_d D_StackModule_init 35 rfl) (by decide) ?_
            refine xb_call (D := D) (A := A) (σ := σ) (h := h33) (d := 2) (mc := (bc30 - 1)) (ms := (bs30 - 3)) (maxL := 2) (rest := [.ref q32, .ref x0]) (av := [.ref q32, .int 4]) (fun T hT X => xt_invI X hx hown rfl (hts _ m_9c57bdbc) (hts _ m_16ca0e9f) (hts _ m_3d9e18a6) nm_Row_init (g := F0 m 71 ls [.int 4, .ref q32, .ref q32, .ref x0]) rfl (b := q32) (argsL := [.int 4]) (rest := [.ref q32, .ref x0]) rfl rfl (by rw [hb]; exact (xb_d D_StackModule_init 36 rfl))) (ok_Row_init l hfl D A σ q32 4 h33 (bc30 - 1) (bs30 - 3) _ hw) (hml.trans hl.1.symm) (by rw [hb]; exact (xb_d D_StackModule_init 36 rfl)) (Nat.le_of_ble_eq_true rfl) (Nat.le_of_ble_eq_true rfl) (Nat.le_of_ble_eq_true rfl) (show (((((((((((k + 1) + kk5) + 1) + kk12) + 1) + kk18) + 1) + kk24) + 1) + kk30) + 1) + (bc30 - 1) ≤ MC by omega) (show (((((((((((n + 3) + nn5) + 3) + nn12) + 3) + nn18) + 3) + nn24) + 3) + nn30) + 3) + (bs30 - 3) ≤ MS by omega) (xt_w1 hB.1 m_3d9e18a6) (xt_cdOf hB.1 m_3d9e18a6) (hts _ m_c1bef504) hB hR hS hA (fun vv h35 bc36 bs36 kk36 nn36 H locs hk36 hn36 hq hEh35 hR hS => ?_) (fun XX ax h35 bc36 bs36 kk36 nn36 H locs hk36 hn36 hq hEh35 hex hR hS => ?_)
            · obtain ⟨rfl, hw⟩ := hq
              have hw := hw hEh35
              have hE := hE.tr hEh35
              refine W.eq (g2 := F0 m 74 ls [.ref q32, .ref x0]) rfl ?_
              have hk6 : xb_k h31 x0 = 3 := by rw [eh31]; exact hk6
              have hk6 : xb_k h33 x0 = 3 := by rw [eh33]; exact xb_nk hqq32 hk6
              have hk6 : xb_k h35 x0 = 3 := hEh35.k hk6
              refine xb_putPF (C := R_StackModule) (T := F_StackModule) (N := 19) (ty := .object "StackHost$Row") (x := (some q32)) hx hb 2 7 hts fin_StackModule t_StackModule t_StackModule_ok n_StackModule hown hR hS hk6 (by decide) rfl (by decide) rfl (hts _ m_f07ea674) (fun _ h9 => h9) rfl hnm rfl (by decide +kernel) (xb_pnO _ _).1 (xb_pnO _ _).2 (xb_d D_StackModule_init 37 rfl) (fun H locs hR hS => ?_)
              obtain ⟨h37, eh37⟩ : ∃ x : xb_H, x = xb_P h35 x0 7 (some q32) := ⟨_, rfl⟩
              rw [← eh37] at hR
              have hw := hw h37 eh37
              have hE : xb_ext h0 h37 := by rw [eh37]; exact hE
              refine lv_aload_n hx hb (xb_d D_StackModule_init 38 rfl) rfl (lv_at hl 0 rfl) ?_
              obtain ⟨hcq38, hsq38, hw⟩ := hw
              refine xb_newo (C := R_Row) (T := F_Row) (N := 3) hx hb 1 hts fin_Row t_Row t_Row_ok hown (hts _ m_cf9255b9) (hts _ m_decbd935) (hts _ m_c1bef504) hR hS hA (by decide) rfl dg_Row (show ((((((((((((k + 1) + kk5) + 1) + kk12) + 1) + kk18) + 1) + kk24) + 1) + kk30) + 1) + kk36) + 1 ≤ MC by omega) (show ((((((((((((n + 3) + nn5) + 3) + nn12) + 3) + nn18) + 3) + nn24) + 3) + nn30) + 3) + nn36) + 3 ≤ MS by omega) (xb_d D_StackModule_init 39 rfl) (fun q38 H hqq38 hR hS => ?_)
              have hw := hw q38 hqq38
              obtain ⟨h39, eh39⟩ : ∃ x : xb_H, x = xb_new h37 q38 2 0 := ⟨_, rfl⟩
              rw [← eh39] at hR
              have hw := hw h39 eh39
              have hE : xb_ext h0 h39 := by rw [eh39]; exact hE.new _ _ hqq38
              have hk40 : xb_k h39 q38 = 2 := by rw [eh39]; exact xb_new_k _ _ _ _
              refine lv_dup hx hb (xb_d D_StackModule_init 40 rfl) rfl ?_
              refine lv_iconst (v := 5) hx hb (xb_d D_StackModule_init 41 rfl) (by decide) ?_
              refine xb_call (D := D) (A := A) (σ := σ) (h := h39) (d := 2) (mc := (bc36 - 1)) (ms := (bs36 - 3)) (maxL := 2) (rest := [.ref q38, .ref x0]) (av := [.ref q38, .int 5]) (fun T hT X => xt_invI X hx hown rfl (hts _ m_9c57bdbc) (hts _ m_16ca0e9f) (hts _ m_3d9e18a6) nm_Row_init (g := F0 m 83 ls [.int 5, .ref q38, .ref q38, .ref x0]) rfl (b := q38) (argsL := [.int 5]) (rest := [.ref q38, .ref x0]) rfl rfl (by rw [hb]; exact (xb_d D_StackModule_init 42 rfl))) (ok_Row_init l hfl D A σ q38 5 h39 (bc36 - 1) (bs36 - 3) _ hw) (hml.trans hl.1.symm) (by rw [hb]; exact (xb_d D_StackModule_init 42 rfl)) (Nat.le_of_ble_eq_true rfl) (Nat.le_of_ble_eq_true rfl) (Nat.le_of_ble_eq_true rfl) (show (((((((((((((k + 1) + kk5) + 1) + kk12) + 1) + kk18) + 1) + kk24) + 1) + kk30) + 1) + kk36) + 1) + (bc36 - 1) ≤ MC by omega) (show (((((((((((((n + 3) + nn5) + 3) + nn12) + 3) + nn18) + 3) + nn24) + 3) + nn30) + 3) + nn36) + 3) + (bs36 - 3) ≤ MS by omega) (xt_w1 hB.1 m_3d9e18a6) (xt_cdOf hB.1 m_3d9e18a6) (hts _ m_c1bef504) hB hR hS hA (fun vv h41 bc42 bs42 kk42 nn42 H locs hk42 hn42 hq hEh41 hR hS => ?_) (fun XX ax h41 bc42 bs42 kk42 nn42 H locs hk42 hn42 hq hEh41 hex hR hS => ?_)
              · obtain ⟨rfl, hw⟩ := hq
                have hw := hw hEh41
                have hE := hE.tr hEh41
                refine W.eq (g2 := F0 m 86 ls [.ref q38, .ref x0]) rfl ?_
                have hk6 : xb_k h37 x0 = 3 := by rw [eh37]; exact hk6
                have hk6 : xb_k h39 x0 = 3 := by rw [eh39]; exact xb_nk hqq38 hk6
                have hk6 : xb_k h41 x0 = 3 := hEh41.k hk6
                refine xb_putPF (C := R_StackModule) (T := F_StackModule) (N := 19) (ty := .object "StackHost$Row") (x := (some q38)) hx hb 2 8 hts fin_StackModule t_StackModule t_StackModule_ok n_StackModule hown hR hS hk6 (by decide) rfl (by decide) rfl (hts _ m_d9eb608a) (fun _ h9 => h9) rfl hnm rfl (by decide +kernel) (xb_pnO _ _).1 (xb_pnO _ _).2 (xb_d D_StackModule_init 43 rfl) (fun H locs hR hS => ?_)
                obtain ⟨h43, eh43⟩ : ∃ x : xb_H, x = xb_P h41 x0 8 (some q38) := ⟨_, rfl⟩
                rw [← eh43] at hR
                have hw := hw h43 eh43
                have hE : xb_ext h0 h43 := by rw [eh43]; exact hE
                refine lv_aload_n hx hb (xb_d D_StackModule_init 44 rfl) rfl (lv_at hl 0 rfl) ?_
                obtain ⟨hcq44, hsq44, hw⟩ := hw
                refine xb_newo (C := R_Row) (T := F_Row) (N := 3) hx hb 1 hts fin_Row t_Row t_Row_ok hown (hts _ m_cf9255b9) (hts _ m_decbd935) (hts _ m_c1bef504) hR hS hA (by decide) rfl dg_Row (show ((((((((((((((k + 1) + kk5) + 1) + kk12) + 1) + kk18) + 1) + kk24) + 1) + kk30) + 1) + kk36) + 1) + kk42) + 1 ≤ MC by omega) (show ((((((((((((((n + 3) + nn5) + 3) + nn12) + 3) + nn18) + 3) + nn24) + 3) + nn30) + 3) + nn36) + 3) + nn42) + 3 ≤ MS by omega) (xb_d D_StackModule_init 45 rfl) (fun q44 H hqq44 hR hS => ?_)
                have hw := hw q44 hqq44
                obtain ⟨h45, eh45⟩ : ∃ x : xb_H, x = xb_new h43 q44 2 0 := ⟨_, rfl⟩
                rw [← eh45] at hR
                have hw := hw h45 eh45
                have hE : xb_ext h0 h45 := by rw [eh45]; exact hE.new _ _ hqq44
                have hk46 : xb_k h45 q44 = 2 := by rw [eh45]; exact xb_new_k _ _ _ _
                refine lv_dup hx hb (xb_d D_StackModule_init 46 rfl) rfl ?_
                refine lv_iconst (v := 5) hx hb (xb_d D_StackModule_init 47 rfl) (by decide) ?_
                refine xb_call (D := D) (A := A) (σ := σ) (h := h45) (d := 2) (mc := (bc42 - 1)) (ms := (bs42 - 3)) (maxL := 2) (rest := [.ref q44, .ref x0]) (av := [.ref q44, .int 5]) (fun T hT X => xt_invI X hx hown rfl (hts _ m_9c57bdbc) (hts _ m_16ca0e9f) (hts _ m_3d9e18a6) nm_Row_init (g := F0 m 95 ls [.int 5, .ref q44, .ref q44, .ref x0]) rfl (b := q44) (argsL := [.int 5]) (rest := [.ref q44, .ref x0]) rfl rfl (by rw [hb]; exact (xb_d D_StackModule_init 48 rfl))) (ok_Row_init l hfl D A σ q44 5 h45 (bc42 - 1) (bs42 - 3) _ hw) (hml.trans hl.1.symm) (by rw [hb]; exact (xb_d D_StackModule_init 48 rfl)) (Nat.le_of_ble_eq_true rfl) (Nat.le_of_ble_eq_true rfl) (Nat.le_of_ble_eq_true rfl) (show (((((((((((((((k + 1) + kk5) + 1) + kk12) + 1) + kk18) + 1) + kk24) + 1) + kk30) + 1) + kk36) + 1) + kk42) + 1) + (bc42 - 1) ≤ MC by omega) (show (((((((((((((((n + 3) + nn5) + 3) + nn12) + 3) + nn18) + 3) + nn24) + 3) + nn30) + 3) + nn36) + 3) + nn42) + 3) + (bs42 - 3) ≤ MS by omega) (xt_w1 hB.1 m_3d9e18a6) (xt_cdOf hB.1 m_3d9e18a6) (hts _ m_c1bef504) hB hR hS hA (fun vv h47 bc48 bs48 kk48 nn48 H locs hk48 hn48 hq hEh47 hR hS => ?_) (fun XX ax h47 bc48 bs48 kk48 nn48 H locs hk48 hn48 hq hEh47 hex hR hS => ?_)
                · obtain ⟨rfl, hw⟩ := hq
                  have hw := hw hEh47
                  have hE := hE.tr hEh47
                  refine W.eq (g2 := F0 m 98 ls [.ref q44, .ref x0]) rfl ?_
                  have hk6 : xb_k h43 x0 = 3 := by rw [eh43]; exact hk6
                  have hk6 : xb_k h45 x0 = 3 := by rw [eh45]; exact xb_nk hqq44 hk6
                  have hk6 : xb_k h47 x0 = 3 := hEh47.k hk6
                  refine xb_putPF (C := R_StackModule) (T := F_StackModule) (N := 19) (ty := .object "StackHost$Row") (x := (some q44)) hx hb 2 9 hts fin_StackModule t_StackModule t_StackModule_ok n_StackModule hown hR hS hk6 (by decide) rfl (by decide) rfl (hts _ m_da628c90) (fun _ h9 => h9) rfl hnm rfl (by decide +kernel) (xb_pnO _ _).1 (xb_pnO _ _).2 (xb_d D_StackModule_init 49 rfl) (fun H locs hR hS => ?_)
                  obtain ⟨h49, eh49⟩ : ∃ x : xb_H, x = xb_P h47 x0 9 (some q44) := ⟨_, rfl⟩
                  rw [← eh49] at hR
                  have hw := hw h49 eh49
                  have hE : xb_ext h0 h49 := by rw [eh49]; exact hE
                  refine lv_aload_n hx hb (xb_d D_StackModule_init 50 rfl) rfl (lv_at hl 0 rfl) ?_
                  obtain ⟨hcq50, hsq50, hw⟩ := hw
                  refine xb_newo (C := R_Row) (T := F_Row) (N := 3) hx hb 1 hts fin_Row t_Row t_Row_ok hown (hts _ m_cf9255b9) (hts _ m_decbd935) (hts _ m_c1bef504) hR hS hA (by decide) rfl dg_Row (show ((((((((((((((((k + 1) + kk5) + 1) + kk12) + 1) + kk18) + 1) + kk24) + 1) + kk30) + 1) + kk36) + 1) + kk42) + 1) + kk48) + 1 ≤ MC by omega) (show ((((((((((((((((n + 3) + nn5) + 3) + nn12) + 3) + nn18) + 3) + nn24) + 3) + nn30) + 3) + nn36) + 3) + nn42) + 3) + nn48) + 3 ≤ MS by omega) (xb_d D_StackModule_init 51 rfl) (fun q50 H hqq50 hR hS => ?_)
                  have hw := hw q50 hqq50
                  obtain ⟨h51, eh51⟩ : ∃ x : xb_H, x = xb_new h49 q50 2 0 := ⟨_, rfl⟩
                  rw [← eh51] at hR
                  have hw := hw h51 eh51
                  have hE : xb_ext h0 h51 := by rw [eh51]; exact hE.new _ _ hqq50
                  have hk52 : xb_k h51 q50 = 2 := by rw [eh51]; exact xb_new_k _ _ _ _
                  refine lv_dup hx hb (xb_d D_StackModule_init 52 rfl) rfl ?_
                  refine lv_iconst (v := 2) hx hb (xb_d D_StackModule_init 53 rfl) (by decide) ?_
                  refine xb_call (D := D) (A := A) (σ := σ) (h := h51) (d := 2) (mc := (bc48 - 1)) (ms := (bs48 - 3)) (maxL := 2) (rest := [.ref q50, .ref x0]) (av := [.ref q50, .int 2]) (fun T hT X => xt_invI X hx hown rfl (hts _ m_9c57bdbc) (hts _ m_16ca0e9f) (hts _ m_3d9e18a6) nm_Row_init (g := F0 m 107 ls [.int 2, .ref q50, .ref q50, .ref x0]) rfl (b := q50) (argsL := [.int 2]) (rest := [.ref q50, .ref x0]) rfl rfl (by rw [hb]; exact (xb_d D_StackModule_init 54 rfl))) (ok_Row_init l hfl D A σ q50 2 h51 (bc48 - 1) (bs48 - 3) _ hw) (hml.trans hl.1.symm) (by rw [hb]; exact (xb_d D_StackModule_init 54 rfl)) (Nat.le_of_ble_eq_true rfl) (Nat.le_of_ble_eq_true rfl) (Nat.le_of_ble_eq_true rfl) (show (((((((((((((((((k + 1) + kk5) + 1) + kk12) + 1) + kk18) + 1) + kk24) + 1) + kk30) + 1) + kk36) + 1) + kk42) + 1) + kk48) + 1) + (bc48 - 1) ≤ MC by omega) (show (((((((((((((((((n + 3) + nn5) + 3) + nn12) + 3) + nn18) + 3) + nn24) + 3) + nn30) + 3) + nn36) + 3) + nn42) + 3) + nn48) + 3) + (bs48 - 3) ≤ MS by omega) (xt_w1 hB.1 m_3d9e18a6) (xt_cdOf hB.1 m_3d9e18a6) (hts _ m_c1bef504) hB hR hS hA (fun vv h53 bc54 bs54 kk54 nn54 H locs hk54 hn54 hq hEh53 hR hS => ?_) (fun XX ax h53 bc54 bs54 kk54 nn54 H locs hk54 hn54 hq hEh53 hex hR hS => ?_)
                  · obtain ⟨rfl, hw⟩ := hq
                    have hw := hw hEh53
                    have hE := hE.tr hEh53
                    refine W.eq (g2 := F0 m 110 ls [.ref q50, .ref x0]) rfl ?_
                    have hk6 : xb_k h49 x0 = 3 := by rw [eh49]; exact hk6
                    have hk6 : xb_k h51 x0 = 3 := by rw [eh51]; exact xb_nk hqq50 hk6
                    have hk6 : xb_k h53 x0 = 3 := hEh53.k hk6
                    refine xb_putPF (C := R_StackModule) (T := F_StackModule) (N := 19) (ty := .object "StackHost$Row") (x := (some q50)) hx hb 2 10 hts fin_StackModule t_StackModule t_StackModule_ok n_StackModule hown hR hS hk6 (by decide) rfl (by decide) rfl (hts _ m_cca3a0b5) (fun _ h9 => h9) rfl hnm rfl (by decide +kernel) (xb_pnO _ _).1 (xb_pnO _ _).2 (xb_d D_StackModule_init 55 rfl) (fun H locs hR hS => ?_)
                    obtain ⟨h55, eh55⟩ : ∃ x : xb_H, x = xb_P h53 x0 10 (some q50) := ⟨_, rfl⟩
                    rw [← eh55] at hR
                    have hw := hw h55 eh55
                    have hE : xb_ext h0 h55 := by rw [eh55]; exact hE
                    refine lv_aload_n hx hb (xb_d D_StackModule_init 56 rfl) rfl (lv_at hl 0 rfl) ?_
                    obtain ⟨hcq56, hsq56, hw⟩ := hw
                    refine xb_newo (C := R_Row) (T := F_Row) (N := 3) hx hb 1 hts fin_Row t_Row t_Row_ok hown (hts _ m_cf9255b9) (hts _ m_decbd935) (hts _ m_c1bef504) hR hS hA (by decide) rfl dg_Row (show ((((((((((((((((((k + 1) + kk5) + 1) + kk12) + 1) + kk18) + 1) + kk24) + 1) + kk30) + 1) + kk36) + 1) + kk42) + 1) + kk48) + 1) + kk54) + 1 ≤ MC by omega) (show ((((((((((((((((((n + 3) + nn5) + 3) + nn12) + 3) + nn18) + 3) + nn24) + 3) + nn30) + 3) + nn36) + 3) + nn42) + 3) + nn48) + 3) + nn54) + 3 ≤ MS by omega) (xb_d D_StackModule_init 57 rfl) (fun q56 H hqq56 hR hS => ?_)
                    have hw := hw q56 hqq56
                    obtain ⟨h57, eh57⟩ : ∃ x : xb_H, x = xb_new h55 q56 2 0 := ⟨_, rfl⟩
                    rw [← eh57] at hR
                    have hw := hw h57 eh57
                    have hE : xb_ext h0 h57 := by rw [eh57]; exact hE.new _ _ hqq56
                    have hk58 : xb_k h57 q56 = 2 := by rw [eh57]; exact xb_new_k _ _ _ _
                    refine lv_dup hx hb (xb_d D_StackModule_init 58 rfl) rfl ?_
                    refine lv_iconst (v := 5) hx hb (xb_d D_StackModule_init 59 rfl) (by decide) ?_
                    refine xb_call (D := D) (A := A) (σ := σ) (h := h57) (d := 2) (mc := (bc54 - 1)) (ms := (bs54 - 3)) (maxL := 2) (rest := [.ref q56, .ref x0]) (av := [.ref q56, .int 5]) (fun T hT X => xt_invI X hx hown rfl (hts _ m_9c57bdbc) (hts _ m_16ca0e9f) (hts _ m_3d9e18a6) nm_Row_init (g := F0 m 119 ls [.int 5, .ref q56, .ref q56, .ref x0]) rfl (b := q56) (argsL := [.int 5]) (rest := [.ref q56, .ref x0]) rfl rfl (by rw [hb]; exact (xb_d D_StackModule_init 60 rfl))) (ok_Row_init l hfl D A σ q56 5 h57 (bc54 - 1) (bs54 - 3) _ hw) (hml.trans hl.1.symm) (by rw [hb]; exact (xb_d D_StackModule_init 60 rfl)) (Nat.le_of_ble_eq_true rfl) (Nat.le_of_ble_eq_true rfl) (Nat.le_of_ble_eq_true rfl) (show (((((((((((((((((((k + 1) + kk5) + 1) + kk12) + 1) + kk18) + 1) + kk24) + 1) + kk30) + 1) + kk36) + 1) + kk42) + 1) + kk48) + 1) + kk54) + 1) + (bc54 - 1) ≤ MC by omega) (show (((((((((((((((((((n + 3) + nn5) + 3) + nn12) + 3) + nn18) + 3) + nn24) + 3) + nn30) + 3) + nn36) + 3) + nn42) + 3) + nn48) + 3) + nn54) + 3) + (bs54 - 3) ≤ MS by omega) (xt_w1 hB.1 m_3d9e18a6) (xt_cdOf hB.1 m_3d9e18a6) (hts _ m_c1bef504) hB hR hS hA (fun vv h59 bc60 bs60 kk60 nn60 H locs hk60 hn60 hq hEh59 hR hS => ?_) (fun XX ax h59 bc60 bs60 kk60 nn60 H locs hk60 hn60 hq hEh59 hex hR hS => ?_)
                    · obtain ⟨rfl, hw⟩ := hq
                      have hw := hw hEh59
                      have hE := hE.tr hEh59
                      refine W.eq (g2 := F0 m 122 ls [.ref q56, .ref x0]) rfl ?_
                      have hk6 : xb_k h55 x0 = 3 := by rw [eh55]; exact hk6
                      have hk6 : xb_k h57 x0 = 3 := by rw [eh57]; exact xb_nk hqq56 hk6
                      have hk6 : xb_k h59 x0 = 3 := hEh59.k hk6
                      refine xb_putPF (C := R_StackModule) (T := F_StackModule) (N := 19) (ty := .object "StackHost$Row") (x := (some q56)) hx hb 2 11 hts fin_StackModule t_StackModule t_StackModule_ok n_StackModule hown hR hS hk6 (by decide) rfl (by decide) rfl (hts _ m_a932e3c3) (fun _ h9 => h9) rfl hnm rfl (by decide +kernel) (xb_pnO _ _).1 (xb_pnO _ _).2 (xb_d D_StackModule_init 61 rfl) (fun H locs hR hS => ?_)
                      obtain ⟨h61, eh61⟩ : ∃ x : xb_H, x = xb_P h59 x0 11 (some q56) := ⟨_, rfl⟩
                      rw [← eh61] at hR
                      have hw := hw h61 eh61
                      have hE : xb_ext h0 h61 := by rw [eh61]; exact hE
                      refine lv_aload_n hx hb (xb_d D_StackModule_init 62 rfl) rfl (lv_at hl 0 rfl) ?_
                      obtain ⟨hcq62, hsq62, hw⟩ := hw
                      refine xb_newo (C := R_Row) (T := F_Row) (N := 3) hx hb 1 hts fin_Row t_Row t_Row_ok hown (hts _ m_cf9255b9) (hts _ m_decbd935) (hts _ m_c1bef504) hR hS hA (by decide) rfl dg_Row (show ((((((((((((((((((((k + 1) + kk5) + 1) + kk12) + 1) + kk18) + 1) + kk24) + 1) + kk30) + 1) + kk36) + 1) + kk42) + 1) + kk48) + 1) + kk54) + 1) + kk60) + 1 ≤ MC by omega) (show ((((((((((((((((((((n + 3) + nn5) + 3) + nn12) + 3) + nn18) + 3) + nn24) + 3) + nn30) + 3) + nn36) + 3) + nn42) + 3) + nn48) + 3) + nn54) + 3) + nn60) + 3 ≤ MS by omega) (xb_d D_StackModule_init 63 rfl) (fun q62 H hqq62 hR hS => ?_)
                      have hw := hw q62 hqq62
                      obtain ⟨h63, eh63⟩ : ∃ x : xb_H, x = xb_new h61 q62 2 0 := ⟨_, rfl⟩
                      rw [← eh63] at hR
                      have hw := hw h63 eh63
                      have hE : xb_ext h0 h63 := by rw [eh63]; exact hE.new _ _ hqq62
                      have hk64 : xb_k h63 q62 = 2 := by rw [eh63]; exact xb_new_k _ _ _ _
                      refine lv_dup hx hb (xb_d D_StackModule_init 64 rfl) rfl ?_
                      refine lv_iconst (v := 2) hx hb (xb_d D_StackModule_init 65 rfl) (by decide) ?_
                      refine xb_call (D := D) (A := A) (σ := σ) (h := h63) (d := 2) (mc := (bc60 - 1)) (ms := (bs60 - 3)) (maxL := 2) (rest := [.ref q62, .ref x0]) (av := [.ref q62, .int 2]) (fun T hT X => xt_invI X hx hown rfl (hts _ m_9c57bdbc) (hts _ m_16ca0e9f) (hts _ m_3d9e18a6) nm_Row_init (g := F0 m 131 ls [.int 2, .ref q62, .ref q62, .ref x0]) rfl (b := q62) (argsL := [.int 2]) (rest := [.ref q62, .ref x0]) rfl rfl (by rw [hb]; exact (xb_d D_StackModule_init 66 rfl))) (ok_Row_init l hfl D A σ q62 2 h63 (bc60 - 1) (bs60 - 3) _ hw) (hml.trans hl.1.symm) (by rw [hb]; exact (xb_d D_StackModule_init 66 rfl)) (Nat.le_of_ble_eq_true rfl) (Nat.le_of_ble_eq_true rfl) (Nat.le_of_ble_eq_true rfl) (show (((((((((((((((((((((k + 1) + kk5) + 1) + kk12) + 1) + kk18) + 1) + kk24) + 1) + kk30) + 1) + kk36) + 1) + kk42) + 1) + kk48) + 1) + kk54) + 1) + kk60) + 1) + (bc60 - 1) ≤ MC by omega) (show (((((((((((((((((((((n + 3) + nn5) + 3) + nn12) + 3) + nn18) + 3) + nn24) + 3) + nn30) + 3) + nn36) + 3) + nn42) + 3) + nn48) + 3) + nn54) + 3) + nn60) + 3) + (bs60 - 3) ≤ MS by omega) (xt_w1 hB.1 m_3d9e18a6) (xt_cdOf hB.1 m_3d9e18a6) (hts _ m_c1bef504) hB hR hS hA (fun vv h65 bc66 bs66 kk66 nn66 H locs hk66 hn66 hq hEh65 hR hS => ?_) (fun XX ax h65 bc66 bs66 kk66 nn66 H locs hk66 hn66 hq hEh65 hex hR hS => ?_)
                      · obtain ⟨rfl, hw⟩ := hq
                        have hw := hw hEh65
                        have hE := hE.tr hEh65
                        refine W.eq (g2 := F0 m 134 ls [.ref q62, .ref x0]) rfl ?_
                        have hk6 : xb_k h61 x0 = 3 := by rw [eh61]; exact hk6
                        have hk6 : xb_k h63 x0 = 3 := by rw [eh63]; exact xb_nk hqq62 hk6
                        have hk6 : xb_k h65 x0 = 3 := hEh65.k hk6
                        refine xb_putPF (C := R_StackModule) (T := F_StackModule) (N := 19) (ty := .object "StackHost$Row") (x := (some q62)) hx hb 2 12 hts fin_StackModule t_StackModule t_StackModule_ok n_StackModule hown hR hS hk6 (by decide) rfl (by decide) rfl (hts _ m_e5061392) (fun _ h9 => h9) rfl hnm rfl (by decide +kernel) (xb_pnO _ _).1 (xb_pnO _ _).2 (xb_d D_StackModule_init 67 rfl) (fun H locs hR hS => ?_)
                        obtain ⟨h67, eh67⟩ : ∃ x : xb_H, x = xb_P h65 x0 12 (some q62) := ⟨_, rfl⟩
                        rw [← eh67] at hR
                        have hw := hw h67 eh67
                        have hE : xb_ext h0 h67 := by rw [eh67]; exact hE
                        refine lv_aload_n hx hb (xb_d D_StackModule_init 68 rfl) rfl (lv_at hl 0 rfl) ?_
                        obtain ⟨hcq68, hsq68, hw⟩ := hw
                        refine xb_newo (C := R_Row) (T := F_Row) (N := 3) hx hb 1 hts fin_Row t_Row t_Row_ok hown (hts _ m_cf9255b9) (hts _ m_decbd935) (hts _ m_c1bef504) hR hS hA (by decide) rfl dg_Row (show ((((((((((((((((((((((k + 1) + kk5) + 1) + kk12) + 1) + kk18) + 1) + kk24) + 1) + kk30) + 1) + kk36) + 1) + kk42) + 1) + kk48) + 1) + kk54) + 1) + kk60) + 1) + kk66) + 1 ≤ MC by omega) (show ((((((((((((((((((((((n + 3) + nn5) + 3) + nn12) + 3) + nn18) + 3) + nn24) + 3) + nn30) + 3) + nn36) + 3) + nn42) + 3) + nn48) + 3) + nn54) + 3) + nn60) + 3) + nn66) + 3 ≤ MS by omega) (xb_d D_StackModule_init 69 rfl) (fun q68 H hqq68 hR hS => ?_)
                        have hw := hw q68 hqq68
                        obtain ⟨h69, eh69⟩ : ∃ x : xb_H, x = xb_new h67 q68 2 0 := ⟨_, rfl⟩
                        rw [← eh69] at hR
                        have hw := hw h69 eh69
                        have hE : xb_ext h0 h69 := by rw [eh69]; exact hE.new _ _ hqq68
                        have hk70 : xb_k h69 q68 = 2 := by rw [eh69]; exact xb_new_k _ _ _ _
                        refine lv_dup hx hb (xb_d D_StackModule_init 70 rfl) rfl ?_
                        refine lv_iconst (v := 5) hx hb (xb_d D_StackModule_init 71 rfl) (by decide) ?_
                        refine xb_call (D := D) (A := A) (σ := σ) (h := h69) (d := 2) (mc := (bc66 - 1)) (ms := (bs66 - 3)) (maxL := 2) (rest := [.ref q68, .ref x0]) (av := [.ref q68, .int 5]) (fun T hT X => xt_invI X hx hown rfl (hts _ m_9c57bdbc) (hts _ m_16ca0e9f) (hts _ m_3d9e18a6) nm_Row_init (g := F0 m 143 ls [.int 5, .ref q68, .ref q68, .ref x0]) rfl (b := q68) (argsL := [.int 5]) (rest := [.ref q68, .ref x0]) rfl rfl (by rw [hb]; exact (xb_d D_StackModule_init 72 rfl))) (ok_Row_init l hfl D A σ q68 5 h69 (bc66 - 1) (bs66 - 3) _ hw) (hml.trans hl.1.symm) (by rw [hb]; exact (xb_d D_StackModule_init 72 rfl)) (Nat.le_of_ble_eq_true rfl) (Nat.le_of_ble_eq_true rfl) (Nat.le_of_ble_eq_true rfl) (show (((((((((((((((((((((((k + 1) + kk5) + 1) + kk12) + 1) + kk18) + 1) + kk24) + 1) + kk30) + 1) + kk36) + 1) + kk42) + 1) + kk48) + 1) + kk54) + 1) + kk60) + 1) + kk66) + 1) + (bc66 - 1) ≤ MC by omega) (show (((((((((((((((((((((((n + 3) + nn5) + 3) + nn12) + 3) + nn18) + 3) + nn24) + 3) + nn30) + 3) + nn36) + 3) + nn42) + 3) + nn48) + 3) + nn54) + 3) + nn60) + 3) + nn66) + 3) + (bs66 - 3) ≤ MS by omega) (xt_w1 hB.1 m_3d9e18a6) (xt_cdOf hB.1 m_3d9e18a6) (hts _ m_c1bef504) hB hR hS hA (fun vv h71 bc72 bs72 kk72 nn72 H locs hk72 hn72 hq hEh71 hR hS => ?_) (fun XX ax h71 bc72 bs72 kk72 nn72 H locs hk72 hn72 hq hEh71 hex hR hS => ?_)
                        · obtain ⟨rfl, hw⟩ := hq
                          have hw := hw hEh71
                          have hE := hE.tr hEh71
                          refine W.eq (g2 := F0 m 146 ls [.ref q68, .ref x0]) rfl ?_
                          have hk6 : xb_k h67 x0 = 3 := by rw [eh67]; exact hk6
                          have hk6 : xb_k h69 x0 = 3 := by rw [eh69]; exact xb_nk hqq68 hk6
                          have hk6 : xb_k h71 x0 = 3 := hEh71.k hk6
                          refine xb_putPF (C := R_StackModule) (T := F_StackModule) (N := 19) (ty := .object "StackHost$Row") (x := (some q68)) hx hb 2 13 hts fin_StackModule t_StackModule t_StackModule_ok n_StackModule hown hR hS hk6 (by decide) rfl (by decide) rfl (hts _ m_d482c833) (fun _ h9 => h9) rfl hnm rfl (by decide +kernel) (xb_pnO _ _).1 (xb_pnO _ _).2 (xb_d D_StackModule_init 73 rfl) (fun H locs hR hS => ?_)
                          obtain ⟨h73, eh73⟩ : ∃ x : xb_H, x = xb_P h71 x0 13 (some q68) := ⟨_, rfl⟩
                          rw [← eh73] at hR
                          have hw := hw h73 eh73
                          have hE : xb_ext h0 h73 := by rw [eh73]; exact hE
                          refine lv_aload_n hx hb (xb_d D_StackModule_init 74 rfl) rfl (lv_at hl 0 rfl) ?_
                          refine lv_iconst (v := 4) hx hb (xb_d D_StackModule_init 75 rfl) (by decide) ?_
                          obtain ⟨hcq74, hsq74, hw⟩ := hw
                          have enq74 : (4 : Int32).toNatClampNeg = 4 := by decide
                          refine xb_newa_i hx hb (hts _ m_d160d5ac) hR hS hA (by decide) (by decide +kernel) (show ((((((((((((((((((((((((k + 1) + kk5) + 1) + kk12) + 1) + kk18) + 1) + kk24) + 1) + kk30) + 1) + kk36) + 1) + kk42) + 1) + kk48) + 1) + kk54) + 1) + kk60) + 1) + kk66) + 1) + kk72) + 1 ≤ MC by omega) (show ((((((((((((((((((((((((n + 3) + nn5) + 3) + nn12) + 3) + nn18) + 3) + nn24) + 3) + nn30) + 3) + nn36) + 3) + nn42) + 3) + nn48) + 3) + nn54) + 3) + nn60) + 3) + nn66) + 3) + nn72) + _ ≤ MS by rw [enq74]; omega) (xb_d D_StackModule_init 76 rfl) (fun q74 H hqq74 hR hS => ?_)
                          rw [enq74] at hR ⊢
                          have hw := hw q74 hqq74
                          obtain ⟨h75, eh75⟩ : ∃ x : xb_H, x = xb_new h73 q74 102 4 := ⟨_, rfl⟩
                          rw [← eh75] at hR
                          have hw := hw h75 eh75
                          have hE : xb_ext h0 h75 := by rw [eh75]; exact hE.new _ _ hqq74
                          have hk76 : xb_k h75 q74 = 102 := by rw [eh75]; exact xb_new_k _ _ _ _
                          have hk6 : xb_k h73 x0 = 3 := by rw [eh73]; exact hk6
                          have hk6 : xb_k h75 x0 = 3 := by rw [eh75]; exact xb_nk hqq74 hk6
                          refine xb_putPF (C := R_StackModule) (T := F_StackModule) (N := 19) (ty := .array .int) (x := (some q74)) hx hb 2 14 hts fin_StackModule t_StackModule t_StackModule_ok n_StackModule hown hR hS hk6 (by decide) rfl (by decide) rfl (hts _ m_bb4d7013) (fun _ h9 => h9) rfl hnm rfl (by decide +kernel) (xb_pnA _ _).1 (xb_pnA _ _).2 (xb_d D_StackModule_init 77 rfl) (fun H locs hR hS => ?_)
                          obtain ⟨h77, eh77⟩ : ∃ x : xb_H, x = xb_P h75 x0 14 (some q74) := ⟨_, rfl⟩
                          rw [← eh77] at hR
                          have hw := hw h77 eh77
                          have hE : xb_ext h0 h77 := by rw [eh77]; exact hE
                          refine lv_aload_n hx hb (xb_d D_StackModule_init 78 rfl) rfl (lv_at hl 0 rfl) ?_
                          refine lv_iconst (v := (-1)) hx hb (xb_d D_StackModule_init 79 rfl) (by decide) ?_
                          have hk6 : xb_k h77 x0 = 3 := by rw [eh77]; exact hk6
                          refine xb_putI (C := R_StackModule) (T := F_StackModule) (N := 19) (ty := .int) (x := (-1)) hx hb 2 15 hts fin_StackModule t_StackModule t_StackModule_ok n_StackModule hown hR hS hk6 (by decide) rfl (by decide) rfl (hts _ m_828ab96c) (fun _ h9 => h9) rfl (by decide +kernel) rfl rfl (xb_d D_StackModule_init 80 rfl) (fun H locs hR hS => ?_)
                          obtain ⟨h78, eh78⟩ : ∃ x : xb_H, x = xb_I h77 x0 15 (-1) := ⟨_, rfl⟩
                          rw [← eh78] at hR
                          have hw := hw h78 eh78
                          have hE : xb_ext h0 h78 := by rw [eh78]; exact hE
                          refine lv_aload_n hx hb (xb_d D_StackModule_init 81 rfl) rfl (lv_at hl 0 rfl) ?_
                          refine lv_iconst (v := (-1)) hx hb (xb_d D_StackModule_init 82 rfl) (by decide) ?_
                          have hk6 : xb_k h78 x0 = 3 := by rw [eh78]; exact hk6
                          refine xb_putI (C := R_StackModule) (T := F_StackModule) (N := 19) (ty := .int) (x := (-1)) hx hb 2 16 hts fin_StackModule t_StackModule t_StackModule_ok n_StackModule hown hR hS hk6 (by decide) rfl (by decide) rfl (hts _ m_29ea2f5d) (fun _ h9 => h9) rfl (by decide +kernel) rfl rfl (xb_d D_StackModule_init 83 rfl) (fun H locs hR hS => ?_)
                          obtain ⟨h79, eh79⟩ : ∃ x : xb_H, x = xb_I h78 x0 16 (-1) := ⟨_, rfl⟩
                          rw [← eh79] at hR
                          have hw := hw h79 eh79
                          have hE : xb_ext h0 h79 := by rw [eh79]; exact hE
                          refine lv_aload_n hx hb (xb_d D_StackModule_init 84 rfl) rfl (lv_at hl 0 rfl) ?_
                          refine lv_aload_n hx hb (xb_d D_StackModule_init 85 rfl) rfl (lv_at hl 1 rfl) ?_
                          have hk6 : xb_k h79 x0 = 3 := by rw [eh79]; exact hk6
                          refine xb_putPF (C := R_StackModule) (T := F_StackModule) (N := 19) (ty := .array .byte) (x := (some x1)) hx hb 2 0 hts fin_StackModule t_StackModule t_StackModule_ok n_StackModule hown hR hS hk6 (by decide) rfl (by decide) rfl (hts _ m_18969b14) (fun _ h9 => h9) rfl hnm rfl (by decide +kernel) (xb_pnA _ _).1 (xb_pnA _ _).2 (xb_d D_StackModule_init 86 rfl) (fun H locs hR hS => ?_)
                          obtain ⟨h80, eh80⟩ : ∃ x : xb_H, x = xb_P h79 x0 0 (some x1) := ⟨_, rfl⟩
                          rw [← eh80] at hR
                          have hw := hw h80 eh80
                          have hE : xb_ext h0 h80 := by rw [eh80]; exact hE
                          refine lv_aload_n hx hb (xb_d D_StackModule_init 87 rfl) rfl (lv_at hl 0 rfl) ?_
                          refine lv_aload_n hx hb (xb_d D_StackModule_init 88 rfl) rfl (lv_at hl 1 rfl) ?_
                          obtain ⟨hk81, hw⟩ := hw
                          refine xb_alen hx hb hR hk81 (by decide) (xb_d D_StackModule_init 89 rfl) ?_
                          obtain ⟨hnq82, hbq82, hcq82, hsq82, hw⟩ := hw
                          have enq82 : (Int32.toNatClampNeg (nI (xb_n h80 x1))) = (Int32.toNatClampNeg (nI (xb_n h80 x1))) := rfl
                          refine xb_newa_i hx hb (hts _ m_d160d5ac) hR hS hA hnq82 hbq82 (show (((((((((((((((((((((((((k + 1) + kk5) + 1) + kk12) + 1) + kk18) + 1) + kk24) + 1) + kk30) + 1) + kk36) + 1) + kk42) + 1) + kk48) + 1) + kk54) + 1) + kk60) + 1) + kk66) + 1) + kk72) + 1) + 1 ≤ MC by omega) (show (((((((((((((((((((((((((n + 3) + nn5) + 3) + nn12) + 3) + nn18) + 3) + nn24) + 3) + nn30) + 3) + nn36) + 3) + nn42) + 3) + nn48) + 3) + nn54) + 3) + nn60) + 3) + nn66) + 3) + nn72) + 4) + _ ≤ MS by rw [enq82]; omega) (xb_d D_StackModule_init 90 rfl) (fun q82 H hqq82 hR hS => ?_)
                          rw [enq82] at hR ⊢
                          have hw := hw q82 hqq82
                          obtain ⟨h83, eh83⟩ : ∃ x : xb_H, x = xb_new h80 q82 102 (Int32.toNatClampNeg (nI (xb_n h80 x1))) := ⟨_, rfl⟩
                          rw [← eh83] at hR
                          have hw := hw h83 eh83
                          have hE : xb_ext h0 h83 := by rw [eh83]; exact hE.new _ _ hqq82
                          have hk84 : xb_k h83 q82 = 102 := by rw [eh83]; exact xb_new_k _ _ _ _
                          have hk6 : xb_k h80 x0 = 3 := by rw [eh80]; exact hk6
                          have hk6 : xb_k h83 x0 = 3 := by rw [eh83]; exact xb_nk hqq82 hk6
                          refine xb_putPF (C := R_StackModule) (T := F_StackModule) (N := 19) (ty := .array .int) (x := (some q82)) hx hb 2 1 hts fin_StackModule t_StackModule t_StackModule_ok n_StackModule hown hR hS hk6 (by decide) rfl (by decide) rfl (hts _ m_790d7a2e) (fun _ h9 => h9) rfl hnm rfl (by decide +kernel) (xb_pnA _ _).1 (xb_pnA _ _).2 (xb_d D_StackModule_init 91 rfl) (fun H locs hR hS => ?_)
                          obtain ⟨h85, eh85⟩ : ∃ x : xb_H, x = xb_P h83 x0 1 (some q82) := ⟨_, rfl⟩
                          rw [← eh85] at hR
                          have hw := hw h85 eh85
                          have hE : xb_ext h0 h85 := by rw [eh85]; exact hE
                          exact xb_vret ((bc72 - 1) - 1) ((bs72 - 4) - (Int32.toNatClampNeg (nI (xb_n h80 x1)))) hx hb hr hlocks (show ((((((((((((((((((((((((((k + 1) + kk5) + 1) + kk12) + 1) + kk18) + 1) + kk24) + 1) + kk30) + 1) + kk36) + 1) + kk42) + 1) + kk48) + 1) + kk54) + 1) + kk60) + 1) + kk66) + 1) + kk72) + 1) + 1) + ((bc72 - 1) - 1) ≤ MC by omega) (show ((((((((((((((((((((((((((n + 3) + nn5) + 3) + nn12) + 3) + nn18) + 3) + nn24) + 3) + nn30) + 3) + nn36) + 3) + nn42) + 3) + nn48) + 3) + nn54) + 3) + nn60) + 3) + nn66) + 3) + nn72) + 4) + (Int32.toNatClampNeg (nI (xb_n h80 x1)))) + ((bs72 - 4) - (Int32.toNatClampNeg (nI (xb_n h80 x1)))) ≤ MS by omega) hE hR hS (xb_d D_StackModule_init 92 rfl) hw
                        · exact False.elim hq
                      · exact False.elim hq
                    · exact False.elim hq
                  · exact False.elim hq
                · exact False.elim hq
              · exact False.elim hq
            · exact False.elim hq
          · exact False.elim hq
        · exact False.elim hq
      · exact False.elim hq
    · exact False.elim hq
  · exact False.elim hq

theorem m_2fc63c70 : (.methodLink "StackHost$StackModule" 84 y_Row_at : Cond) ∈ xt_tbl := xt_in (xt_t4 (List.mem_of_getElem? (i := 147) (by decide +kernel))) (by decide +kernel)
theorem m_c75cb26b : (.methodLink "StackHost$StackModule" 88 y_StackModule_sameBytes : Cond) ∈ xt_tbl := xt_in (xt_t4 (List.mem_of_getElem? (i := 148) (by decide +kernel))) (by decide +kernel)
theorem m_60db31ff : (.static y_StackModule_sameBytes : Cond) ∈ xt_tbl := xt_in (xt_t4 (List.mem_of_getElem? (i := 149) (by decide +kernel))) (by decide +kernel)
theorem m_e49b5738 : (.code y_StackModule_sameBytes b_StackModule_sameBytes 6 (some .boolean) : Cond) ∈ xt_tbl := xt_in (xt_t4 (List.mem_of_getElem? (i := 150) (by decide +kernel))) (by decide +kernel)
theorem nm_StackModule_sameBytes : xt_nm y_StackModule_sameBytes 5 := ⟨by decide +kernel, by decide +kernel⟩
set_option maxRecDepth 100000 in
def T_StackModule_exportNamedBelow : List (Nat × Instr × Nat) := [(0, .iconst 0, 1), (1, .istore 5, 2), (3, .iload 5, 2), (5, .iload_n 1, 1), (6, .if_icmp .ge 51, 3), (9, .aload_n 0, 1), (10, .getfield 35, 3), (13, .iload 5, 2), (15, .iconst 4, 1), (16, .invokevirtual 84, 3), (19, .iload 4, 2), (21, .if_icmp .ne 30, 3), (24, .aload_n 0, 1), (25, .getfield 64, 3), (28, .aload_n 0, 1), (29, .getfield 35, 3), (32, .iload 5, 2), (34, .iconst 3, 1), (35, .invokevirtual 84, 3), (38, .aload_n 2, 1), (39, .iload_n 3, 1), (40, .iload 4, 2), (42, .invokestatic 88, 3), (45, .ifCond .eq 6, 3), (48, .iload 5, 2), (50, .ireturn, 1), (51, .iinc 5 1, 3), (54, .goto (-51), 3), (57, .iconst (-1), 1), (58, .ireturn, 1)]
theorem D_StackModule_exportNamedBelow : ∀ q ∈ T_StackModule_exportNamedBelow, decode b_StackModule_exportNamedBelow q.1 = .ok (q.2.1, q.2.2) := by decide +kernel

set_option maxHeartbeats 4000000 in
set_option maxRecDepth 100000 in
theorem am_StackModule_exportNamedBelow_L51 (l : Launch) (hfl : l.flags = pinnedFlags ++ [noTraceFlag]) (D : va_G) (A : Nat → Prop) (σ MC MS : Nat) (h0 : xb_H) (Qr : Int32 → xb_H → Prop) (K3 : Nat → Int32 → Nat → Int32 → Int32 → Int32 → xb_H → Prop) (hK3 : ∀ (x0 : Nat) (x1 : Int32) (x2 : Nat) (x3 : Int32) (x4 : Int32) (x5 : Int32) (h : xb_H), K3 x0 x1 x2 x3 x4 x5 h → xb_am l D A σ 3 MC MS h0 (fun v h _ _ => ∃ r, v = some (.int r) ∧ Qr r h) (fun _ _ _ _ => False) y_StackModule_exportNamedBelow.cls y_StackModule_exportNamedBelow.name b_StackModule_exportNamedBelow 6 ([] : List ExceptionTableEntry) (some .int) 3 [(0, .ref x0), (1, .int x1), (2, .ref x2), (3, .int x3), (4, .int x4), (5, .int x5)] [] h 0 0) (x0 : Nat) (x1 : Int32) (x2 : Nat) (x3 : Int32) (x4 : Int32) (x5 : Int32) (h : xb_H) (hw : w_StackModule_exportNamedBelow_L51 K3 Qr x0 x1 x2 x3 x4 x5 h) : xb_am l D A σ 3 MC MS h0 (fun v h _ _ => ∃ r, v = some (.int r) ∧ Qr r h) (fun _ _ _ _ => False) y_StackModule_exportNamedBelow.cls y_StackModule_exportNamedBelow.name b_StackModule_exportNamedBelow 6 ([] : List ExceptionTableEntry) (some .int) 51 [(0, .ref x0), (1, .int x1), (2, .ref x2), (3, .int x3), (4, .int x4), (5, .int x5)] [] h 0 0 := by
  unfold w_StackModule_exportNamedBelow_L51 at hw
  intro p e s m args below meth c hC H locs ls k n hE hl hR hS hk hn
  obtain ⟨hx, hb, hown, hlocks, htab, hml, hr, hB, hA, hnm⟩ := id hC
  have hts := hB.1.1.at args
  refine lv_iinc (v := (x5 + 1)) (k := 5) hx hb (xb_d D_StackModule_exportNamedBelow 26 rfl) hl rfl (by first | rfl | decide) (by decide) rfl (fun ls hl => ?_)
  have hl : lv_has ls 6 [(5, .int (x5 + 1)), (0, .ref x0), (1, .int x1), (2, .ref x2), (3, .int x3), (4, .int x4)] := hl
  refine lv_goto (tgt := 3) hx hb (xb_d D_StackModule_exportNamedBelow 27 rfl) rfl ?_
  exact hK3 x0 x1 x2 x3 x4 (x5 + 1) h hw p e s m args below meth c hC H locs ls k n hE (lv_sub hl [1, 2, 3, 4, 5, 0] rfl) hR hS (by omega) (by omega)

set_option maxHeartbeats 4000000 in
set_option maxRecDepth 100000 in
theorem am_StackModule_exportNamedBelow_L3 (l : Launch) (hfl : l.flags = pinnedFlags ++ [noTraceFlag]) (D : va_G) (A : Nat → Prop) (σ MC MS : Nat) (h0 : xb_H) (Qr : Int32 → xb_H → Prop) (n9 : Nat) : ∀ (x0 : Nat) (x1 : Int32) (x2 : Nat) (x3 : Int32) (x4 : Int32) (x5 : Int32) (h : xb_H), w_StackModule_exportNamedBelow_L3 Qr n9 x0 x1 x2 x3 x4 x5 h → xb_am l D A σ 3 MC MS h0 (fun v h _ _ => ∃ r, v = some (.int r) ∧ Qr r h) (fun _ _ _ _ => False) y_StackModule_exportNamedBelow.cls y_StackModule_exportNamedBelow.name b_StackModule_exportNamedBelow 6 ([] : List ExceptionTableEntry) (some .int) 3 [(0, .ref x0), (1, .int x1), (2, .ref x2), (3, .int x3), (4, .int x4), (5, .int x5)] [] h 0 0 := by
  induction n9 with
  | zero => intro x0 x1 x2 x3 x4 x5 h hw; exact False.elim hw
  | succ n9 ih =>
    intro x0 x1 x2 x3 x4 x5 h hw
    unfold w_StackModule_exportNamedBelow_L3 at hw
    intro p e s m args below meth c hC H locs ls k n hE hl hR hS hk hn
    obtain ⟨hx, hb, hown, hlocks, htab, hml, hr, hB, hA, hnm⟩ := id hC
    have hts := hB.1.1.at args
    refine lv_iload hx hb (xb_d D_StackModule_exportNamedBelow 2 rfl) (lv_at hl 5 rfl) ?_
    refine lv_iload_n hx hb (xb_d D_StackModule_exportNamedBelow 3 rfl) rfl (lv_at hl 1 rfl) ?_
    refine lv_icmp_ge (tgt := 57) hx hb (xb_d D_StackModule_exportNamedBelow 4 rfl) rfl (fun hc1 => ?_) (fun hc1 => ?_)
    · have hw := hw.1 hc1
      refine lv_iconst (v := (-1)) hx hb (xb_d D_StackModule_exportNamedBelow 28 rfl) (by decide) ?_
      exact xb_iret 0 0 hx hb hr hlocks (show k + 0 ≤ MC by omega) (show n + 0 ≤ MS by omega) hE hR hS (xb_d D_StackModule_exportNamedBelow 29 rfl) hw
    · have hw := hw.2 hc1
      refine lv_aload_n hx hb (xb_d D_StackModule_exportNamedBelow 5 rfl) rfl (lv_at hl 0 rfl) ?_
      obtain ⟨hk2, hw⟩ := hw
      refine xb_getP (C := R_StackModule) (T := F_StackModule) (N := 19) hx hb 2 8 hts fin_StackModule hown hR hk2 (by decide) rfl (by decide) rfl (hts _ m_d9eb608a) (fun _ h9 => h9) (xb_d D_StackModule_exportNamedBelow 6 rfl) ?_
      obtain ⟨b3, eb3, hw⟩ := hw
      refine xb_some eb3 ?_
      refine lv_iload hx hb (xb_d D_StackModule_exportNamedBelow 7 rfl) (lv_at hl 5 rfl) ?_
      refine lv_iconst (v := 4) hx hb (xb_d D_StackModule_exportNamedBelow 8 rfl) (by decide) ?_
      obtain ⟨hk4, hw⟩ := hw
      refine xb_call0 (D := D) (A := A) (σ := σ) (h := h) (d := 2) (maxL := 3) (rest := []) (av := [.ref b3, .int x5, .int 4]) (fun T hT X => by obtain ⟨cb9, ra9, rb9, rc9⟩ := xb_recv (ci := 1) hR rfl hk4 (by decide); exact xt_invV X hx hown (hts _ m_2fc63c70) (hts _ m_8e233096) (hts _ m_27eed10c) (xt_sigOf (hts _ m_ff1c70ae)) nm_Row_at (by rw [hT]; exact ra9) rb9 rc9 (g := F0 m 16 ls [.int 4, .int x5, .ref b3]) rfl (argsL := [.int x5, .int 4]) (rest := []) rfl rfl (by rw [hb]; exact (xb_d D_StackModule_exportNamedBelow 9 rfl))) (ok_Row_at l hfl D A σ b3 x5 4 h _ hw) (hml.trans hl.1.symm) (by rw [hb]; exact (xb_d D_StackModule_exportNamedBelow 9 rfl)) (Nat.le_of_ble_eq_true rfl) (Nat.le_of_ble_eq_true rfl) (Nat.le_of_ble_eq_true rfl) (show k ≤ MC by omega) (show n ≤ MS by omega) (xt_w1 hB.1 m_ff1c70ae) (xt_cdOf hB.1 m_ff1c70ae) (hts _ m_c1bef504) hB hR hS hA (fun vv h5 H locs hq hEh5 hR hS => ?_)
      obtain ⟨r6, rfl, hw⟩ := hq
      have hw := hw hEh5
      have hE := hE.tr hEh5
      refine W.eq (g2 := F0 m 19 ls [.int r6]) rfl ?_
      refine lv_iload hx hb (xb_d D_StackModule_exportNamedBelow 10 rfl) (lv_at hl 4 rfl) ?_
      refine lv_icmp_ne (tgt := 51) hx hb (xb_d D_StackModule_exportNamedBelow 11 rfl) rfl (fun hc7 => ?_) (fun hc7 => ?_)
      · have hw := hw.1 hc7
        exact am_StackModule_exportNamedBelow_L51 l hfl D A σ MC MS h0 Qr (w_StackModule_exportNamedBelow_L3 Qr n9) ih x0 x1 x2 x3 x4 x5 h5 hw p e s m args below meth c hC H locs ls k n hE (lv_sub hl [0, 1, 2, 3, 4, 5] rfl) hR hS (by omega) (by omega)
      · have hw := hw.2 hc7
        refine lv_aload_n hx hb (xb_d D_StackModule_exportNamedBelow 12 rfl) rfl (lv_at hl 0 rfl) ?_
        have hk2 : xb_k h5 x0 = 3 := hEh5.k hk2
        refine xb_getP (C := R_StackModule) (T := F_StackModule) (N := 19) hx hb 2 0 hts fin_StackModule hown hR hk2 (by decide) rfl (by decide) rfl (hts _ m_18969b14) (fun _ h9 => h9) (xb_d D_StackModule_exportNamedBelow 13 rfl) ?_
        obtain ⟨b8, eb8, hw⟩ := hw
        refine xb_some eb8 ?_
        refine lv_aload_n hx hb (xb_d D_StackModule_exportNamedBelow 14 rfl) rfl (lv_at hl 0 rfl) ?_
        refine xb_getP (C := R_StackModule) (T := F_StackModule) (N := 19) hx hb 2 8 hts fin_StackModule hown hR hk2 (by decide) rfl (by decide) rfl (hts _ m_d9eb608a) (fun _ h9 => h9) (xb_d D_StackModule_exportNamedBelow 15 rfl) ?_
        obtain ⟨b9, eb9, hw⟩ := hw
        refine xb_some eb9 ?_
        refine lv_iload hx hb (xb_d D_StackModule_exportNamedBelow 16 rfl) (lv_at hl 5 rfl) ?_
        refine lv_iconst (v := 3) hx hb (xb_d D_StackModule_exportNamedBelow 17 rfl) (by decide) ?_
        obtain ⟨hk10, hw⟩ := hw
        refine xb_call0 (D := D) (A := A) (σ := σ) (h := h5) (d := 2) (maxL := 3) (rest := [.ref b8]) (av := [.ref b9, .int x5, .int 3]) (fun T hT X => by obtain ⟨cb9, ra9, rb9, rc9⟩ := xb_recv (ci := 1) hR rfl hk10 (by decide); exact xt_invV X hx hown (hts _ m_2fc63c70) (hts _ m_8e233096) (hts _ m_27eed10c) (xt_sigOf (hts _ m_ff1c70ae)) nm_Row_at (by rw [hT]; exact ra9) rb9 rc9 (g := F0 m 35 ls [.int 3, .int x5, .ref b9, .ref b8]) rfl (argsL := [.int x5, .int 3]) (rest := [.ref b8]) rfl rfl (by rw [hb]; exact (xb_d D_StackModule_exportNamedBelow 18 rfl))) (ok_Row_at l hfl D A σ b9 x5 3 h5 _ hw) (hml.trans hl.1.symm) (by rw [hb]; exact (xb_d D_StackModule_exportNamedBelow 18 rfl)) (Nat.le_of_ble_eq_true rfl) (Nat.le_of_ble_eq_true rfl) (Nat.le_of_ble_eq_true rfl) (show k ≤ MC by omega) (show n ≤ MS by omega) (xt_w1 hB.1 m_ff1c70ae) (xt_cdOf hB.1 m_ff1c70ae) (hts _ m_c1bef504) hB hR hS hA (fun vv h11 H locs hq hEh11 hR hS => ?_)
        obtain ⟨r12, rfl, hw⟩ := hq
        have hw := hw hEh11
        have hE := hE.tr hEh11
        refine W.eq (g2 := F0 m 38 ls [.int r12, .ref b8]) rfl ?_
        refine lv_aload_n hx hb (xb_d D_StackModule_exportNamedBelow 19 rfl) rfl (lv_at hl 2 rfl) ?_
        refine lv_iload_n hx hb (xb_d D_StackModule_exportNamedBelow 20 rfl) rfl (lv_at hl 3 rfl) ?_
        refine lv_iload hx hb (xb_d D_StackModule_exportNamedBelow 21 rfl) (lv_at hl 4 rfl) ?_
        refine xb_call0 (D := D) (A := A) (σ := σ) (h := h11) (d := 2) (maxL := 6) (rest := []) (av := [.ref b8, .int r12, .ref x2, .int x3, .int x4]) (fun T hT X => xt_invS X hx hown (hts _ m_c75cb26b) (hts _ m_60db31ff) (hts _ m_9c375545) (xt_sgS (hts _ m_e49b5738)).1 (xt_sgS (hts _ m_e49b5738)).2 nm_StackModule_sameBytes (g := F0 m 42 ls [.int x4, .int x3, .ref x2, .int r12, .ref b8]) rfl (argsL := [.ref b8, .int r12, .ref x2, .int x3, .int x4]) (rest := []) rfl rfl (by rw [hb]; exact (xb_d D_StackModule_exportNamedBelow 22 rfl))) (ok_StackModule_sameBytes l hfl D A σ b8 r12 x2 x3 x4 h11 _ hw) (hml.trans hl.1.symm) (by rw [hb]; exact (xb_d D_StackModule_exportNamedBelow 22 rfl)) (Nat.le_of_ble_eq_true rfl) (Nat.le_of_ble_eq_true rfl) (Nat.le_of_ble_eq_true rfl) (show k ≤ MC by omega) (show n ≤ MS by omega) (xt_w1 hB.1 m_e49b5738) (xt_cdOf hB.1 m_e49b5738) (hts _ m_9c375545) hB hR hS hA (fun vv h13 H locs hq hEh13 hR hS => ?_)
        obtain ⟨r14, rfl, hw⟩ := hq
        have hw := hw hEh13
        have hE := hE.tr hEh13
        refine W.eq (g2 := F0 m 45 ls [.int r14]) rfl ?_
        refine lv_if_eq (tgt := 51) hx hb (xb_d D_StackModule_exportNamedBelow 23 rfl) rfl (fun hc15 => ?_) (fun hc15 => ?_)
        · have hw := hw.1 hc15
          exact am_StackModule_exportNamedBelow_L51 l hfl D A σ MC MS h0 Qr (w_StackModule_exportNamedBelow_L3 Qr n9) ih x0 x1 x2 x3 x4 x5 h13 hw p e s m args below meth c hC H locs ls k n hE (lv_sub hl [0, 1, 2, 3, 4, 5] rfl) hR hS (by omega) (by omega)
        · have hw := hw.2 hc15
          refine lv_iload hx hb (xb_d D_StackModule_exportNamedBelow 24 rfl) (lv_at hl 5 rfl) ?_
          exact xb_iret 0 0 hx hb hr hlocks (show k + 0 ≤ MC by omega) (show n + 0 ≤ MS by omega) hE hR hS (xb_d D_StackModule_exportNamedBelow 25 rfl) hw

set_option maxHeartbeats 4000000 in
set_option maxRecDepth 100000 in
theorem ok_StackModule_exportNamedBelow (l : Launch) (hfl : l.flags = pinnedFlags ++ [noTraceFlag]) (D : va_G) (A : Nat → Prop) (σ : Nat) (x0 : Nat) (x1 : Int32) (x2 : Nat) (x3 : Int32) (x4 : Int32) (h : xb_H) (Qr : Int32 → xb_H → Prop) (hw : w_StackModule_exportNamedBelow x0 x1 x2 x3 x4 h Qr) : xb_Met l y_StackModule_exportNamedBelow [.code y_StackModule_exportNamedBelow b_StackModule_exportNamedBelow 6 (some .int)] (xb_rm 3 0 0) (xb_Pc D A σ h [.ref x0, .int x1, .ref x2, .int x3, .int x4]) (xb_Qc D A h 0 0 (fun v h _ _ => ∃ r, v = some (.int r) ∧ Qr r h) (fun _ _ _ _ => False)) A := by
  refine xb_ofAm (cc := b_StackModule_exportNamedBelow) (by decide) (Nat.le_of_ble_eq_true rfl) ?_
  unfold w_StackModule_exportNamedBelow at hw
  show xb_am l D A σ 3 0 0 h (fun v h _ _ => ∃ r, v = some (.int r) ∧ Qr r h) (fun _ _ _ _ => False) y_StackModule_exportNamedBelow.cls y_StackModule_exportNamedBelow.name b_StackModule_exportNamedBelow 6 ([] : List ExceptionTableEntry) (some .int) 0 [(0, .ref x0), (1, .int x1), (2, .ref x2), (3, .int x3), (4, .int x4)] [] h 0 0
  obtain ⟨MC, hMC⟩ : ∃ x, x = 0 := ⟨_, rfl⟩
  obtain ⟨MS, hMS⟩ : ∃ x, x = 0 := ⟨_, rfl⟩
  rw [show xb_am l D A σ 3 0 0 = xb_am l D A σ 3 MC MS by rw [hMC, hMS]]
  obtain ⟨h0, hh0⟩ : ∃ x, x = h := ⟨_, rfl⟩
  rw [show xb_am l D A σ 3 MC MS h = xb_am l D A σ 3 MC MS h0 by rw [hh0]]
  intro p e s m args below meth c hC H locs ls k n hE hl hR hS hk hn
  obtain ⟨hx, hb, hown, hlocks, htab, hml, hr, hB, hA, hnm⟩ := id hC
  have hts := hB.1.1.at args
  refine lv_iconst (v := 0) hx hb (xb_d D_StackModule_exportNamedBelow 0 rfl) (by decide) ?_
  refine lv_istore hx hb (xb_d D_StackModule_exportNamedBelow 1 rfl) hl (by decide) rfl (fun ls hl => ?_)
  have hl : lv_has ls 6 [(5, .int 0), (0, .ref x0), (1, .int x1), (2, .ref x2), (3, .int x3), (4, .int x4)] := hl
  obtain ⟨n8, hw⟩ := hw
  exact am_StackModule_exportNamedBelow_L3 l hfl D A σ MC MS h0 Qr n8 x0 x1 x2 x3 x4 0 h hw p e s m args below meth c hC H locs ls k n hE (lv_sub hl [1, 2, 3, 4, 5, 0] rfl) hR hS (by omega) (by omega)

set_option maxRecDepth 100000 in
def T_StackModule_hasResult : List (Nat × Instr × Nat) := [(0, .aload_n 0, 1), (1, .getfield 14, 3), (4, .iload_n 1, 1), (5, .iconst 4, 1), (6, .invokevirtual 84, 3), (9, .bipush 64, 2), (11, .if_icmp .eq 7, 3), (14, .iconst 1, 1), (15, .goto 4, 3), (18, .iconst 0, 1), (19, .ireturn, 1)]
theorem D_StackModule_hasResult : ∀ q ∈ T_StackModule_hasResult, decode b_StackModule_hasResult q.1 = .ok (q.2.1, q.2.2) := by decide +kernel

set_option maxHeartbeats 4000000 in
set_option maxRecDepth 100000 in
theorem am_StackModule_hasResult_L19 (l : Launch) (hfl : l.flags = pinnedFlags ++ [noTraceFlag]) (D : va_G) (A : Nat → Prop) (σ MC MS : Nat) (h0 : xb_H) (Qr : Int32 → xb_H → Prop) (y0 : Int32) (h : xb_H) (hw : w_StackModule_hasResult_L19 Qr y0 h) : xb_am l D A σ 3 MC MS h0 (fun v h _ _ => ∃ r, v = some (.int r) ∧ Qr r h) (fun _ _ _ _ => False) y_StackModule_hasResult.cls y_StackModule_hasResult.name b_StackModule_hasResult 2 ([] : List ExceptionTableEntry) (some .boolean) 19 [] [.int y0] h 0 0 := by
  unfold w_StackModule_hasResult_L19 at hw
  intro p e s m args below meth c hC H locs ls k n hE hl hR hS hk hn
  obtain ⟨hx, hb, hown, hlocks, htab, hml, hr, hB, hA, hnm⟩ := id hC
  have hts := hB.1.1.at args
  exact xb_zret 0 0 hx hb hr hlocks (show k + 0 ≤ MC by omega) (show n + 0 ≤ MS by omega) hw.1 hE hR hS (xb_d D_StackModule_hasResult 10 rfl) hw.2

set_option maxHeartbeats 4000000 in
set_option maxRecDepth 100000 in
theorem ok_StackModule_hasResult (l : Launch) (hfl : l.flags = pinnedFlags ++ [noTraceFlag]) (D : va_G) (A : Nat → Prop) (σ : Nat) (x0 : Nat) (x1 : Int32) (h : xb_H) (Qr : Int32 → xb_H → Prop) (hw : w_StackModule_hasResult x0 x1 h Qr) : xb_Met l y_StackModule_hasResult [.code y_StackModule_hasResult b_StackModule_hasResult 2 (some .boolean)] (xb_rm 3 0 0) (xb_Pc D A σ h [.ref x0, .int x1]) (xb_Qc D A h 0 0 (fun v h _ _ => ∃ r, v = some (.int r) ∧ Qr r h) (fun _ _ _ _ => False)) A := by
  refine xb_ofAm (cc := b_StackModule_hasResult) (by decide) (Nat.le_of_ble_eq_true rfl) ?_
  unfold w_StackModule_hasResult at hw
  show xb_am l D A σ 3 0 0 h (fun v h _ _ => ∃ r, v = some (.int r) ∧ Qr r h) (fun _ _ _ _ => False) y_StackModule_hasResult.cls y_StackModule_hasResult.name b_StackModule_hasResult 2 ([] : List ExceptionTableEntry) (some .boolean) 0 [(0, .ref x0), (1, .int x1)] [] h 0 0
  obtain ⟨MC, hMC⟩ : ∃ x, x = 0 := ⟨_, rfl⟩
  obtain ⟨MS, hMS⟩ : ∃ x, x = 0 := ⟨_, rfl⟩
  rw [show xb_am l D A σ 3 0 0 = xb_am l D A σ 3 MC MS by rw [hMC, hMS]]
  obtain ⟨h0, hh0⟩ : ∃ x, x = h := ⟨_, rfl⟩
  rw [show xb_am l D A σ 3 MC MS h = xb_am l D A σ 3 MC MS h0 by rw [hh0]]
  intro p e s m args below meth c hC H locs ls k n hE hl hR hS hk hn
  obtain ⟨hx, hb, hown, hlocks, htab, hml, hr, hB, hA, hnm⟩ := id hC
  have hts := hB.1.1.at args
  refine lv_aload_n hx hb (xb_d D_StackModule_hasResult 0 rfl) rfl (lv_at hl 0 rfl) ?_
  obtain ⟨hk1, hw⟩ := hw
  refine xb_getP (C := R_StackModule) (T := F_StackModule) (N := 19) hx hb 2 2 hts fin_StackModule hown hR hk1 (by decide) rfl (by decide) rfl (hts _ m_b7ec8f62) (fun _ h9 => h9) (xb_d D_StackModule_hasResult 1 rfl) ?_
  obtain ⟨b2, eb2, hw⟩ := hw
  refine xb_some eb2 ?_
  refine lv_iload_n hx hb (xb_d D_StackModule_hasResult 2 rfl) rfl (lv_at hl 1 rfl) ?_
  refine lv_iconst (v := 4) hx hb (xb_d D_StackModule_hasResult 3 rfl) (by decide) ?_
  obtain ⟨hk3, hw⟩ := hw
  refine xb_call0 (D := D) (A := A) (σ := σ) (h := h) (d := 2) (maxL := 3) (rest := []) (av := [.ref b2, .int x1, .int 4]) (fun T hT X => by obtain ⟨cb9, ra9, rb9, rc9⟩ := xb_recv (ci := 1) hR rfl hk3 (by decide); exact xt_invV X hx hown (hts _ m_2fc63c70) (hts _ m_8e233096) (hts _ m_27eed10c) (xt_sigOf (hts _ m_ff1c70ae)) nm_Row_at (by rw [hT]; exact ra9) rb9 rc9 (g := F0 m 6 ls [.int 4, .int x1, .ref b2]) rfl (argsL := [.int x1, .int 4]) (rest := []) rfl rfl (by rw [hb]; exact (xb_d D_StackModule_hasResult 4 rfl))) (ok_Row_at l hfl D A σ b2 x1 4 h _ hw) (hml.trans hl.1.symm) (by rw [hb]; exact (xb_d D_StackModule_hasResult 4 rfl)) (Nat.le_of_ble_eq_true rfl) (Nat.le_of_ble_eq_true rfl) (Nat.le_of_ble_eq_true rfl) (show k ≤ MC by omega) (show n ≤ MS by omega) (xt_w1 hB.1 m_ff1c70ae) (xt_cdOf hB.1 m_ff1c70ae) (hts _ m_c1bef504) hB hR hS hA (fun vv h4 H locs hq hEh4 hR hS => ?_)
  obtain ⟨r5, rfl, hw⟩ := hq
  have hw := hw hEh4
  have hE := hE.tr hEh4
  refine W.eq (g2 := F0 m 9 ls [.int r5]) rfl ?_
  refine lv_bipush (v := 64) hx hb (xb_d D_StackModule_hasResult 5 rfl) (by decide) ?_
  refine lv_icmp_eq (tgt := 18) hx hb (xb_d D_StackModule_hasResult 6 rfl) rfl (fun hc6 => ?_) (fun hc6 => ?_)
  · have hw := hw.1 hc6
    refine lv_iconst (v := 0) hx hb (xb_d D_StackModule_hasResult 9 rfl) (by decide) ?_
    exact am_StackModule_hasResult_L19 l hfl D A σ MC MS h0 Qr 0 h4 hw p e s m args below meth c hC H locs ls k n hE (lv_sub hl [] rfl) hR hS (by omega) (by omega)
  · have hw := hw.2 hc6
    refine lv_iconst (v := 1) hx hb (xb_d D_StackModule_hasResult 7 rfl) (by decide) ?_
    refine lv_goto (tgt := 19) hx hb (xb_d D_StackModule_hasResult 8 rfl) rfl ?_
    exact am_StackModule_hasResult_L19 l hfl D A σ MC MS h0 Qr 1 h4 hw p e s m args below meth c hC H locs ls k n hE (lv_sub hl [] rfl) hR hS (by omega) (by omega)

theorem m_df1a1f74 : (.methodLink "StackHost$StackModule" 100 y_Reader_shapeOf : Cond) ∈ xt_tbl := xt_in (xt_t6 (List.mem_of_getElem? (i := 51) (by decide +kernel))) (by decide +kernel)
theorem m_9eb17383 : (.static y_Reader_shapeOf : Cond) ∈ xt_tbl := xt_in (xt_t4 (List.mem_of_getElem? (i := 32) (by decide +kernel))) (by decide +kernel)
theorem m_1e1b68a2 : (.code y_Reader_shapeOf b_Reader_shapeOf 1 (some .int) : Cond) ∈ xt_tbl := xt_in (xt_t4 (List.mem_of_getElem? (i := 33) (by decide +kernel))) (by decide +kernel)
theorem nm_Reader_shapeOf : xt_nm y_Reader_shapeOf 1 := ⟨by decide +kernel, by decide +kernel⟩
set_option maxRecDepth 100000 in
def T_StackModule_nextPlace : List (Nat × Instr × Nat) := [(0, .aload_n 0, 1), (1, .getfield 64, 3), (4, .iload_n 1, 1), (5, .baload, 1), (6, .sipush 255, 3), (9, .iand, 1), (10, .invokestatic 100, 3), (13, .tableswitch 39 0 3 #[31, 35, 31, 31], 31), (44, .iload_n 1, 1), (45, .iconst 1, 1), (46, .iadd, 1), (47, .ireturn, 1), (48, .iload_n 1, 1), (49, .iconst 2, 1), (50, .iadd, 1), (51, .ireturn, 1), (52, .aload_n 0, 1), (53, .getfield 68, 3), (56, .iload_n 1, 1), (57, .iaload, 1), (58, .ireturn, 1)]
theorem D_StackModule_nextPlace : ∀ q ∈ T_StackModule_nextPlace, decode b_StackModule_nextPlace q.1 = .ok (q.2.1, q.2.2) := by decide +kernel

set_option maxHeartbeats 4000000 in
set_option maxRecDepth 100000 in
theorem am_StackModule_nextPlace_L44 (l : Launch) (hfl : l.flags = pinnedFlags ++ [noTraceFlag]) (D : va_G) (A : Nat → Prop) (σ MC MS : Nat) (h0 : xb_H) (Qr : Int32 → xb_H → Prop) (x1 : Int32) (h : xb_H) (hw : w_StackModule_nextPlace_L44 Qr x1 h) : xb_am l D A σ 3 MC MS h0 (fun v h _ _ => ∃ r, v = some (.int r) ∧ Qr r h) (fun _ _ _ _ => False) y_StackModule_nextPlace.cls y_StackModule_nextPlace.name b_StackModule_nextPlace 2 ([] : List ExceptionTableEntry) (some .int) 44 [(1, .int x1)] [] h 0 0 := by
  unfold w_StackModule_nextPlace_L44 at hw
  intro p e s m args below meth c hC H locs ls k n hE hl hR hS hk hn
  obtain ⟨hx, hb, hown, hlocks, htab, hml, hr, hB, hA, hnm⟩ := id hC
  have hts := hB.1.1.at args
  refine lv_iload_n hx hb (xb_d D_StackModule_nextPlace 8 rfl) rfl (lv_at hl 0 rfl) ?_
  refine lv_iconst (v := 1) hx hb (xb_d D_StackModule_nextPlace 9 rfl) (by decide) ?_
  refine lv_iadd hx hb (xb_d D_StackModule_nextPlace 10 rfl) ?_
  exact xb_iret 0 0 hx hb hr hlocks (show k + 0 ≤ MC by omega) (show n + 0 ≤ MS by omega) hE hR hS (xb_d D_StackModule_nextPlace 11 rfl) hw

set_option maxHeartbeats 4000000 in
set_option maxRecDepth 100000 in
theorem ok_StackModule_nextPlace (l : Launch) (hfl : l.flags = pinnedFlags ++ [noTraceFlag]) (D : va_G) (A : Nat → Prop) (σ : Nat) (x0 : Nat) (x1 : Int32) (h : xb_H) (Qr : Int32 → xb_H → Prop) (hw : w_StackModule_nextPlace x0 x1 h Qr) : xb_Met l y_StackModule_nextPlace [.code y_StackModule_nextPlace b_StackModule_nextPlace 2 (some .int)] (xb_rm 3 0 0) (xb_Pc D A σ h [.ref x0, .int x1]) (xb_Qc D A h 0 0 (fun v h _ _ => ∃ r, v = some (.int r) ∧ Qr r h) (fun _ _ _ _ => False)) A := by
  refine xb_ofAm (cc := b_StackModule_nextPlace) (by decide) (Nat.le_of_ble_eq_true rfl) ?_
  unfold w_StackModule_nextPlace at hw
  show xb_am l D A σ 3 0 0 h (fun v h _ _ => ∃ r, v = some (.int r) ∧ Qr r h) (fun _ _ _ _ => False) y_StackModule_nextPlace.cls y_StackModule_nextPlace.name b_StackModule_nextPlace 2 ([] : List ExceptionTableEntry) (some .int) 0 [(0, .ref x0), (1, .int x1)] [] h 0 0
  obtain ⟨MC, hMC⟩ : ∃ x, x = 0 := ⟨_, rfl⟩
  obtain ⟨MS, hMS⟩ : ∃ x, x = 0 := ⟨_, rfl⟩
  rw [show xb_am l D A σ 3 0 0 = xb_am l D A σ 3 MC MS by rw [hMC, hMS]]
  obtain ⟨h0, hh0⟩ : ∃ x, x = h := ⟨_, rfl⟩
  rw [show xb_am l D A σ 3 MC MS h = xb_am l D A σ 3 MC MS h0 by rw [hh0]]
  intro p e s m args below meth c hC H locs ls k n hE hl hR hS hk hn
  obtain ⟨hx, hb, hown, hlocks, htab, hml, hr, hB, hA, hnm⟩ := id hC
  have hts := hB.1.1.at args
  refine lv_aload_n hx hb (xb_d D_StackModule_nextPlace 0 rfl) rfl (lv_at hl 0 rfl) ?_
  obtain ⟨hk1, hw⟩ := hw
  refine xb_getP (C := R_StackModule) (T := F_StackModule) (N := 19) hx hb 2 0 hts fin_StackModule hown hR hk1 (by decide) rfl (by decide) rfl (hts _ m_18969b14) (fun _ h9 => h9) (xb_d D_StackModule_nextPlace 1 rfl) ?_
  obtain ⟨b2, eb2, hw⟩ := hw
  refine xb_some eb2 ?_
  refine lv_iload_n hx hb (xb_d D_StackModule_nextPlace 2 rfl) rfl (lv_at hl 1 rfl) ?_
  obtain ⟨hk4, hw⟩ := hw
  obtain ⟨hi3, hw⟩ := hw
  refine xb_bald hx hb hR hk4 hi3 (xb_d D_StackModule_nextPlace 3 rfl) ?_
  refine lv_sipush (v := 255) hx hb (xb_d D_StackModule_nextPlace 4 rfl) (by decide) ?_
  refine lv_iand hx hb (xb_d D_StackModule_nextPlace 5 rfl) ?_
  refine xb_call0 (D := D) (A := A) (σ := σ) (h := h) (d := 2) (maxL := 1) (rest := []) (av := [.int ((xb_i h b2 (Int32.toNatClampNeg x1)) &&& 255)]) (fun T hT X => xt_invS X hx hown (hts _ m_df1a1f74) (hts _ m_9eb17383) (hts _ m_938fcec4) (xt_sgS (hts _ m_1e1b68a2)).1 (xt_sgS (hts _ m_1e1b68a2)).2 nm_Reader_shapeOf (g := F0 m 10 ls [.int ((xb_i h b2 (Int32.toNatClampNeg x1)) &&& 255)]) rfl (argsL := [.int ((xb_i h b2 (Int32.toNatClampNeg x1)) &&& 255)]) (rest := []) rfl rfl (by rw [hb]; exact (xb_d D_StackModule_nextPlace 6 rfl))) (ok_Reader_shapeOf l hfl D A σ ((xb_i h b2 (Int32.toNatClampNeg x1)) &&& 255) h _ hw) (hml.trans hl.1.symm) (by rw [hb]; exact (xb_d D_StackModule_nextPlace 6 rfl)) (Nat.le_of_ble_eq_true rfl) (Nat.le_of_ble_eq_true rfl) (Nat.le_of_ble_eq_true rfl) (show k ≤ MC by omega) (show n ≤ MS by omega) (xt_w1 hB.1 m_1e1b68a2) (xt_cdOf hB.1 m_1e1b68a2) (hts _ m_938fcec4) hB hR hS hA (fun vv h5 H locs hq hEh5 hR hS => ?_)
  obtain ⟨r6, rfl, hw⟩ := hq
  have hw := hw hEh5
  have hE := hE.tr hEh5
  refine W.eq (g2 := F0 m 13 ls [.int r6]) rfl ?_
  by_cases hc7 : r6 = 0
  · have hw := hw.1 hc7
    refine xt_numi hc7 ?_
    refine lv_tableIn (off := 31) (tgt := 44) hx hb (xb_d D_StackModule_nextPlace 7 rfl) (by decide +kernel) (by decide +kernel) (by decide +kernel) (by decide) ?_
    exact am_StackModule_nextPlace_L44 l hfl D A σ MC MS h0 Qr x1 h5 hw p e s m args below meth c hC H locs ls k n hE (lv_sub hl [1] rfl) hR hS (by omega) (by omega)
  have hw := hw.2
  by_cases hc8 : r6 = 1
  · have hw := hw.1 hc8
    refine xt_numi hc8 ?_
    refine lv_tableIn (off := 35) (tgt := 48) hx hb (xb_d D_StackModule_nextPlace 7 rfl) (by decide +kernel) (by decide +kernel) (by decide +kernel) (by decide) ?_
    refine lv_iload_n hx hb (xb_d D_StackModule_nextPlace 12 rfl) rfl (lv_at hl 1 rfl) ?_
    refine lv_iconst (v := 2) hx hb (xb_d D_StackModule_nextPlace 13 rfl) (by decide) ?_
    refine lv_iadd hx hb (xb_d D_StackModule_nextPlace 14 rfl) ?_
    exact xb_iret 0 0 hx hb hr hlocks (show k + 0 ≤ MC by omega) (show n + 0 ≤ MS by omega) hE hR hS (xb_d D_StackModule_nextPlace 15 rfl) hw
  have hw := hw.2
  by_cases hc9 : r6 = 2
  · have hw := hw.1 hc9
    refine xt_numi hc9 ?_
    refine lv_tableIn (off := 31) (tgt := 44) hx hb (xb_d D_StackModule_nextPlace 7 rfl) (by decide +kernel) (by decide +kernel) (by decide +kernel) (by decide) ?_
    exact am_StackModule_nextPlace_L44 l hfl D A σ MC MS h0 Qr x1 h5 hw p e s m args below meth c hC H locs ls k n hE (lv_sub hl [1] rfl) hR hS (by omega) (by omega)
  have hw := hw.2
  by_cases hc10 : r6 = 3
  · have hw := hw.1 hc10
    refine xt_numi hc10 ?_
    refine lv_tableIn (off := 31) (tgt := 44) hx hb (xb_d D_StackModule_nextPlace 7 rfl) (by decide +kernel) (by decide +kernel) (by decide +kernel) (by decide) ?_
    exact am_StackModule_nextPlace_L44 l hfl D A σ MC MS h0 Qr x1 h5 hw p e s m args below meth c hC H locs ls k n hE (lv_sub hl [1] rfl) hR hS (by omega) (by omega)
  have hw := hw.2
  have hw := hw hc7 hc8 hc9 hc10
  refine lv_tableOut (tgt := 52) hx hb (xb_d D_StackModule_nextPlace 7 rfl) (by have a0 := xb_nl (0) 0 (by decide) hc7; have a1 := xb_nl (1) 1 (by decide) hc8; have a2 := xb_nl (2) 2 (by decide) hc9; have a3 := xb_nl (3) 3 (by decide) hc10; omega) (by decide) ?_
  refine lv_aload_n hx hb (xb_d D_StackModule_nextPlace 16 rfl) rfl (lv_at hl 0 rfl) ?_
  have hk1 : xb_k h5 x0 = 3 := hEh5.k hk1
  refine xb_getP (C := R_StackModule) (T := F_StackModule) (N := 19) hx hb 2 1 hts fin_StackModule hown hR hk1 (by decide) rfl (by decide) rfl (hts _ m_790d7a2e) (fun _ h9 => h9) (xb_d D_StackModule_nextPlace 17 rfl) ?_
  obtain ⟨b11, eb11, hw⟩ := hw
  refine xb_some eb11 ?_
  refine lv_iload_n hx hb (xb_d D_StackModule_nextPlace 18 rfl) rfl (lv_at hl 1 rfl) ?_
  obtain ⟨hk13, hw⟩ := hw
  obtain ⟨hi12, hw⟩ := hw
  refine xb_iald hx hb hR hk13 hi12 (xb_d D_StackModule_nextPlace 19 rfl) ?_
  exact xb_iret 0 0 hx hb hr hlocks (show k + 0 ≤ MC by omega) (show n + 0 ≤ MS by omega) hE hR hS (xb_d D_StackModule_nextPlace 20 rfl) hw

set_option maxRecDepth 100000 in
def T_StackModule_parameterType : List (Nat × Instr × Nat) := [(0, .aload_n 0, 1), (1, .getfield 64, 3), (4, .aload_n 0, 1), (5, .getfield 14, 3), (8, .iload_n 1, 1), (9, .iconst 1, 1), (10, .invokevirtual 84, 3), (13, .iload_n 2, 1), (14, .iadd, 1), (15, .baload, 1), (16, .ireturn, 1)]
theorem D_StackModule_parameterType : ∀ q ∈ T_StackModule_parameterType, decode b_StackModule_parameterType q.1 = .ok (q.2.1, q.2.2) := by decide +kernel

set_option maxHeartbeats 4000000 in
set_option maxRecDepth 100000 in
theorem ok_StackModule_parameterType (l : Launch) (hfl : l.flags = pinnedFlags ++ [noTraceFlag]) (D : va_G) (A : Nat → Prop) (σ : Nat) (x0 : Nat) (x1 : Int32) (x2 : Int32) (h : xb_H) (Qr : Int32 → xb_H → Prop) (hw : w_StackModule_parameterType x0 x1 x2 h Qr) : xb_Met l y_StackModule_parameterType [.code y_StackModule_parameterType b_StackModule_parameterType 3 (some .int)] (xb_rm 3 0 0) (xb_Pc D A σ h [.ref x0, .int x1, .int x2]) (xb_Qc D A h 0 0 (fun v h _ _ => ∃ r, v = some (.int r) ∧ Qr r h) (fun _ _ _ _ => False)) A := by
  refine xb_ofAm (cc := b_StackModule_parameterType) (by decide) (Nat.le_of_ble_eq_true rfl) ?_
  unfold w_StackModule_parameterType at hw
  show xb_am l D A σ 3 0 0 h (fun v h _ _ => ∃ r, v = some (.int r) ∧ Qr r h) (fun _ _ _ _ => False) y_StackModule_parameterType.cls y_StackModule_parameterType.name b_StackModule_parameterType 3 ([] : List ExceptionTableEntry) (some .int) 0 [(0, .ref x0), (1, .int x1), (2, .int x2)] [] h 0 0
  obtain ⟨MC, hMC⟩ : ∃ x, x = 0 := ⟨_, rfl⟩
  obtain ⟨MS, hMS⟩ : ∃ x, x = 0 := ⟨_, rfl⟩
  rw [show xb_am l D A σ 3 0 0 = xb_am l D A σ 3 MC MS by rw [hMC, hMS]]
  obtain ⟨h0, hh0⟩ : ∃ x, x = h := ⟨_, rfl⟩
  rw [show xb_am l D A σ 3 MC MS h = xb_am l D A σ 3 MC MS h0 by rw [hh0]]
  intro p e s m args below meth c hC H locs ls k n hE hl hR hS hk hn
  obtain ⟨hx, hb, hown, hlocks, htab, hml, hr, hB, hA, hnm⟩ := id hC
  have hts := hB.1.1.at args
  refine lv_aload_n hx hb (xb_d D_StackModule_parameterType 0 rfl) rfl (lv_at hl 0 rfl) ?_
  obtain ⟨hk1, hw⟩ := hw
  refine xb_getP (C := R_StackModule) (T := F_StackModule) (N := 19) hx hb 2 0 hts fin_StackModule hown hR hk1 (by decide) rfl (by decide) rfl (hts _ m_18969b14) (fun _ h9 => h9) (xb_d D_StackModule_parameterType 1 rfl) ?_
  obtain ⟨b2, eb2, hw⟩ := hw
  refine xb_some eb2 ?_
  refine lv_aload_n hx hb (xb_d D_StackModule_parameterType 2 rfl) rfl (lv_at hl 0 rfl) ?_
  refine xb_getP (C := R_StackModule) (T := F_StackModule) (N := 19) hx hb 2 2 hts fin_StackModule hown hR hk1 (by decide) rfl (by decide) rfl (hts _ m_b7ec8f62) (fun _ h9 => h9) (xb_d D_StackModule_parameterType 3 rfl) ?_
  obtain ⟨b3, eb3, hw⟩ := hw
  refine xb_some eb3 ?_
  refine lv_iload_n hx hb (xb_d D_StackModule_parameterType 4 rfl) rfl (lv_at hl 1 rfl) ?_
  refine lv_iconst (v := 1) hx hb (xb_d D_StackModule_parameterType 5 rfl) (by decide) ?_
  obtain ⟨hk4, hw⟩ := hw
  refine xb_call0 (D := D) (A := A) (σ := σ) (h := h) (d := 2) (maxL := 3) (rest := [.ref b2]) (av := [.ref b3, .int x1, .int 1]) (fun T hT X => by obtain ⟨cb9, ra9, rb9, rc9⟩ := xb_recv (ci := 1) hR rfl hk4 (by decide); exact xt_invV X hx hown (hts _ m_2fc63c70) (hts _ m_8e233096) (hts _ m_27eed10c) (xt_sigOf (hts _ m_ff1c70ae)) nm_Row_at (by rw [hT]; exact ra9) rb9 rc9 (g := F0 m 10 ls [.int 1, .int x1, .ref b3, .ref b2]) rfl (argsL := [.int x1, .int 1]) (rest := [.ref b2]) rfl rfl (by rw [hb]; exact (xb_d D_StackModule_parameterType 6 rfl))) (ok_Row_at l hfl D A σ b3 x1 1 h _ hw) (hml.trans hl.1.symm) (by rw [hb]; exact (xb_d D_StackModule_parameterType 6 rfl)) (Nat.le_of_ble_eq_true rfl) (Nat.le_of_ble_eq_true rfl) (Nat.le_of_ble_eq_true rfl) (show k ≤ MC by omega) (show n ≤ MS by omega) (xt_w1 hB.1 m_ff1c70ae) (xt_cdOf hB.1 m_ff1c70ae) (hts _ m_c1bef504) hB hR hS hA (fun vv h5 H locs hq hEh5 hR hS => ?_)
  obtain ⟨r6, rfl, hw⟩ := hq
  have hw := hw hEh5
  have hE := hE.tr hEh5
  refine W.eq (g2 := F0 m 13 ls [.int r6, .ref b2]) rfl ?_
  refine lv_iload_n hx hb (xb_d D_StackModule_parameterType 7 rfl) rfl (lv_at hl 2 rfl) ?_
  refine lv_iadd hx hb (xb_d D_StackModule_parameterType 8 rfl) ?_
  obtain ⟨hk8, hw⟩ := hw
  obtain ⟨hi7, hw⟩ := hw
  refine xb_bald hx hb hR hk8 hi7 (xb_d D_StackModule_parameterType 9 rfl) ?_
  exact xb_iret 0 0 hx hb hr hlocks (show k + 0 ≤ MC by omega) (show n + 0 ≤ MS by omega) hE hR hS (xb_d D_StackModule_parameterType 10 rfl) hw

set_option maxRecDepth 100000 in
def T_StackModule_parameters : List (Nat × Instr × Nat) := [(0, .aload_n 0, 1), (1, .getfield 14, 3), (4, .iload_n 1, 1), (5, .iconst 2, 1), (6, .invokevirtual 84, 3), (9, .ireturn, 1)]
theorem D_StackModule_parameters : ∀ q ∈ T_StackModule_parameters, decode b_StackModule_parameters q.1 = .ok (q.2.1, q.2.2) := by decide +kernel

set_option maxHeartbeats 4000000 in
set_option maxRecDepth 100000 in
theorem ok_StackModule_parameters (l : Launch) (hfl : l.flags = pinnedFlags ++ [noTraceFlag]) (D : va_G) (A : Nat → Prop) (σ : Nat) (x0 : Nat) (x1 : Int32) (h : xb_H) (Qr : Int32 → xb_H → Prop) (hw : w_StackModule_parameters x0 x1 h Qr) : xb_Met l y_StackModule_parameters [.code y_StackModule_parameters b_StackModule_parameters 2 (some .int)] (xb_rm 3 0 0) (xb_Pc D A σ h [.ref x0, .int x1]) (xb_Qc D A h 0 0 (fun v h _ _ => ∃ r, v = some (.int r) ∧ Qr r h) (fun _ _ _ _ => False)) A := by
  refine xb_ofAm (cc := b_StackModule_parameters) (by decide) (Nat.le_of_ble_eq_true rfl) ?_
  unfold w_StackModule_parameters at hw
  show xb_am l D A σ 3 0 0 h (fun v h _ _ => ∃ r, v = some (.int r) ∧ Qr r h) (fun _ _ _ _ => False) y_StackModule_parameters.cls y_StackModule_parameters.name b_StackModule_parameters 2 ([] : List ExceptionTableEntry) (some .int) 0 [(0, .ref x0), (1, .int x1)] [] h 0 0
  obtain ⟨MC, hMC⟩ : ∃ x, x = 0 := ⟨_, rfl⟩
  obtain ⟨MS, hMS⟩ : ∃ x, x = 0 := ⟨_, rfl⟩
  rw [show xb_am l D A σ 3 0 0 = xb_am l D A σ 3 MC MS by rw [hMC, hMS]]
  obtain ⟨h0, hh0⟩ : ∃ x, x = h := ⟨_, rfl⟩
  rw [show xb_am l D A σ 3 MC MS h = xb_am l D A σ 3 MC MS h0 by rw [hh0]]
  intro p e s m args below meth c hC H locs ls k n hE hl hR hS hk hn
  obtain ⟨hx, hb, hown, hlocks, htab, hml, hr, hB, hA, hnm⟩ := id hC
  have hts := hB.1.1.at args
  refine lv_aload_n hx hb (xb_d D_StackModule_parameters 0 rfl) rfl (lv_at hl 0 rfl) ?_
  obtain ⟨hk1, hw⟩ := hw
  refine xb_getP (C := R_StackModule) (T := F_StackModule) (N := 19) hx hb 2 2 hts fin_StackModule hown hR hk1 (by decide) rfl (by decide) rfl (hts _ m_b7ec8f62) (fun _ h9 => h9) (xb_d D_StackModule_parameters 1 rfl) ?_
  obtain ⟨b2, eb2, hw⟩ := hw
  refine xb_some eb2 ?_
  refine lv_iload_n hx hb (xb_d D_StackModule_parameters 2 rfl) rfl (lv_at hl 1 rfl) ?_
  refine lv_iconst (v := 2) hx hb (xb_d D_StackModule_parameters 3 rfl) (by decide) ?_
  obtain ⟨hk3, hw⟩ := hw
  refine xb_call0 (D := D) (A := A) (σ := σ) (h := h) (d := 2) (maxL := 3) (rest := []) (av := [.ref b2, .int x1, .int 2]) (fun T hT X => by obtain ⟨cb9, ra9, rb9, rc9⟩ := xb_recv (ci := 1) hR rfl hk3 (by decide); exact xt_invV X hx hown (hts _ m_2fc63c70) (hts _ m_8e233096) (hts _ m_27eed10c) (xt_sigOf (hts _ m_ff1c70ae)) nm_Row_at (by rw [hT]; exact ra9) rb9 rc9 (g := F0 m 6 ls [.int 2, .int x1, .ref b2]) rfl (argsL := [.int x1, .int 2]) (rest := []) rfl rfl (by rw [hb]; exact (xb_d D_StackModule_parameters 4 rfl))) (ok_Row_at l hfl D A σ b2 x1 2 h _ hw) (hml.trans hl.1.symm) (by rw [hb]; exact (xb_d D_StackModule_parameters 4 rfl)) (Nat.le_of_ble_eq_true rfl) (Nat.le_of_ble_eq_true rfl) (Nat.le_of_ble_eq_true rfl) (show k ≤ MC by omega) (show n ≤ MS by omega) (xt_w1 hB.1 m_ff1c70ae) (xt_cdOf hB.1 m_ff1c70ae) (hts _ m_c1bef504) hB hR hS hA (fun vv h4 H locs hq hEh4 hR hS => ?_)
  obtain ⟨r5, rfl, hw⟩ := hq
  have hw := hw hEh4
  have hE := hE.tr hEh4
  refine W.eq (g2 := F0 m 9 ls [.int r5]) rfl ?_
  exact xb_iret 0 0 hx hb hr hlocks (show k + 0 ≤ MC by omega) (show n + 0 ≤ MS by omega) hE hR hS (xb_d D_StackModule_parameters 5 rfl) hw

set_option maxRecDepth 100000 in
def T_StackModule_resultType : List (Nat × Instr × Nat) := [(0, .aload_n 0, 1), (1, .getfield 14, 3), (4, .iload_n 1, 1), (5, .iconst 4, 1), (6, .invokevirtual 84, 3), (9, .ireturn, 1)]
theorem D_StackModule_resultType : ∀ q ∈ T_StackModule_resultType, decode b_StackModule_resultType q.1 = .ok (q.2.1, q.2.2) := by decide +kernel

set_option maxHeartbeats 4000000 in
set_option maxRecDepth 100000 in
theorem ok_StackModule_resultType (l : Launch) (hfl : l.flags = pinnedFlags ++ [noTraceFlag]) (D : va_G) (A : Nat → Prop) (σ : Nat) (x0 : Nat) (x1 : Int32) (h : xb_H) (Qr : Int32 → xb_H → Prop) (hw : w_StackModule_resultType x0 x1 h Qr) : xb_Met l y_StackModule_resultType [.code y_StackModule_resultType b_StackModule_resultType 2 (some .int)] (xb_rm 3 0 0) (xb_Pc D A σ h [.ref x0, .int x1]) (xb_Qc D A h 0 0 (fun v h _ _ => ∃ r, v = some (.int r) ∧ Qr r h) (fun _ _ _ _ => False)) A := by
  refine xb_ofAm (cc := b_StackModule_resultType) (by decide) (Nat.le_of_ble_eq_true rfl) ?_
  unfold w_StackModule_resultType at hw
  show xb_am l D A σ 3 0 0 h (fun v h _ _ => ∃ r, v = some (.int r) ∧ Qr r h) (fun _ _ _ _ => False) y_StackModule_resultType.cls y_StackModule_resultType.name b_StackModule_resultType 2 ([] : List ExceptionTableEntry) (some .int) 0 [(0, .ref x0), (1, .int x1)] [] h 0 0
  obtain ⟨MC, hMC⟩ : ∃ x, x = 0 := ⟨_, rfl⟩
  obtain ⟨MS, hMS⟩ : ∃ x, x = 0 := ⟨_, rfl⟩
  rw [show xb_am l D A σ 3 0 0 = xb_am l D A σ 3 MC MS by rw [hMC, hMS]]
  obtain ⟨h0, hh0⟩ : ∃ x, x = h := ⟨_, rfl⟩
  rw [show xb_am l D A σ 3 MC MS h = xb_am l D A σ 3 MC MS h0 by rw [hh0]]
  intro p e s m args below meth c hC H locs ls k n hE hl hR hS hk hn
  obtain ⟨hx, hb, hown, hlocks, htab, hml, hr, hB, hA, hnm⟩ := id hC
  have hts := hB.1.1.at args
  refine lv_aload_n hx hb (xb_d D_StackModule_resultType 0 rfl) rfl (lv_at hl 0 rfl) ?_
  obtain ⟨hk1, hw⟩ := hw
  refine xb_getP (C := R_StackModule) (T := F_StackModule) (N := 19) hx hb 2 2 hts fin_StackModule hown hR hk1 (by decide) rfl (by decide) rfl (hts _ m_b7ec8f62) (fun _ h9 => h9) (xb_d D_StackModule_resultType 1 rfl) ?_
  obtain ⟨b2, eb2, hw⟩ := hw
  refine xb_some eb2 ?_
  refine lv_iload_n hx hb (xb_d D_StackModule_resultType 2 rfl) rfl (lv_at hl 1 rfl) ?_
  refine lv_iconst (v := 4) hx hb (xb_d D_StackModule_resultType 3 rfl) (by decide) ?_
  obtain ⟨hk3, hw⟩ := hw
  refine xb_call0 (D := D) (A := A) (σ := σ) (h := h) (d := 2) (maxL := 3) (rest := []) (av := [.ref b2, .int x1, .int 4]) (fun T hT X => by obtain ⟨cb9, ra9, rb9, rc9⟩ := xb_recv (ci := 1) hR rfl hk3 (by decide); exact xt_invV X hx hown (hts _ m_2fc63c70) (hts _ m_8e233096) (hts _ m_27eed10c) (xt_sigOf (hts _ m_ff1c70ae)) nm_Row_at (by rw [hT]; exact ra9) rb9 rc9 (g := F0 m 6 ls [.int 4, .int x1, .ref b2]) rfl (argsL := [.int x1, .int 4]) (rest := []) rfl rfl (by rw [hb]; exact (xb_d D_StackModule_resultType 4 rfl))) (ok_Row_at l hfl D A σ b2 x1 4 h _ hw) (hml.trans hl.1.symm) (by rw [hb]; exact (xb_d D_StackModule_resultType 4 rfl)) (Nat.le_of_ble_eq_true rfl) (Nat.le_of_ble_eq_true rfl) (Nat.le_of_ble_eq_true rfl) (show k ≤ MC by omega) (show n ≤ MS by omega) (xt_w1 hB.1 m_ff1c70ae) (xt_cdOf hB.1 m_ff1c70ae) (hts _ m_c1bef504) hB hR hS hA (fun vv h4 H locs hq hEh4 hR hS => ?_)
  obtain ⟨r5, rfl, hw⟩ := hq
  have hw := hw hEh4
  have hE := hE.tr hEh4
  refine W.eq (g2 := F0 m 9 ls [.int r5]) rfl ?_
  exact xb_iret 0 0 hx hb hr hlocks (show k + 0 ≤ MC by omega) (show n + 0 ≤ MS by omega) hE hR hS (xb_d D_StackModule_resultType 5 rfl) hw

