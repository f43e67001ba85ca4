theorem m_570d6fb6 : (.constantLong "StackHost$Checker" 129 (-1) : Cond) ∈ xt_tbl := xt_in (xt_t4 (List.mem_of_getElem? (i := 125) (by decide +kernel))) (by decide +kernel)
set_option maxRecDepth 100000 in
def T_Checker_checkLimits : List (Nat × Instr × Nat) := [(0, .aload_n 1, 1), (1, .iload_n 2, 1), (2, .iconst 1, 1), (3, .invokevirtual 121, 3), (6, .lstore 5, 2), (8, .aload_n 1, 1), (9, .iload_n 2, 1), (10, .iconst 2, 1), (11, .invokevirtual 121, 3), (14, .lstore 7, 2), (16, .aload_n 1, 1), (17, .iload_n 2, 1), (18, .iconst 0, 1), (19, .invokevirtual 90, 3), (22, .istore 9, 2), (24, .lload 5, 2), (26, .lload_n 3, 1), (27, .lcmp, 1), (28, .ifCond .gt 27, 3), (31, .lload 7, 2), (33, .lload_n 3, 1), (34, .lcmp, 1), (35, .ifCond .gt 20, 3), (38, .lload 7, 2), (40, .ldc2_w 129, 3), (43, .lcmp, 1), (44, .ifCond .eq 22, 3), (47, .lload 7, 2), (49, .lload 5, 2), (51, .lcmp, 1), (52, .ifCond .ge 14, 3), (55, .aload_n 0, 1), (56, .getfield 38, 3), (59, .bipush 25, 2), (61, .iload 9, 2), (63, .invokevirtual 94, 3), (66, .iload_n 2, 1), (67, .ifCond .le 14, 3), (70, .aload_n 0, 1), (71, .getfield 38, 3), (74, .bipush 27, 2), (76, .iload 9, 2), (78, .invokevirtual 94, 3), (81, .return_, 1)]
theorem D_Checker_checkLimits : ∀ q ∈ T_Checker_checkLimits, decode b_Checker_checkLimits q.1 = .ok (q.2.1, q.2.2) := by decide +kernel

set_option maxHeartbeats 4000000 in
set_option maxRecDepth 100000 in
theorem am_Checker_checkLimits_L81 (l : Launch) (hfl : l.flags = pinnedFlags ++ [noTraceFlag]) (D : va_G) (A : Nat → Prop) (σ MC MS : Nat) (h0 : xb_H) (Qr : xb_H → Nat → Nat → Prop) (Qt : String → xb_H → Nat → Nat → Prop) (h : xb_H) (bc : Nat) (bs : Nat) (hw : w_Checker_checkLimits_L81 Qr Qt h bc bs) : xb_am l D A σ 3 MC MS h0 (fun v h bc bs => v = none ∧ Qr h bc bs) Qt y_Checker_checkLimits.cls y_Checker_checkLimits.name b_Checker_checkLimits 10 ([] : List ExceptionTableEntry) none 81 [] [] h bc bs := by
  unfold w_Checker_checkLimits_L81 at hw
  intro p e s m args below meth c hC H locs ls k n hE hl hR hS hk hn
  obtain ⟨hx, hb, hown, hlocks, htab, hml, hr, hB, hA, hnm⟩ := id hC
  have hts := hB.1.1.at args
  exact xb_vret bc bs hx hb hr hlocks (show k + bc ≤ MC by omega) (show n + bs ≤ MS by omega) hE hR hS (xb_d D_Checker_checkLimits 43 rfl) hw

set_option maxHeartbeats 4000000 in
set_option maxRecDepth 100000 in
theorem am_Checker_checkLimits_L66 (l : Launch) (hfl : l.flags = pinnedFlags ++ [noTraceFlag]) (D : va_G) (A : Nat → Prop) (σ MC MS : Nat) (h0 : xb_H) (Qr : xb_H → Nat → Nat → Prop) (Qt : String → xb_H → Nat → Nat → Prop) (x0 : Nat) (x2 : Int32) (x9 : Int32) (h : xb_H) (bc : Nat) (bs : Nat) (hw : w_Checker_checkLimits_L66 Qr Qt x0 x2 x9 h bc bs) : xb_am l D A σ 3 MC MS h0 (fun v h bc bs => v = none ∧ Qr h bc bs) Qt y_Checker_checkLimits.cls y_Checker_checkLimits.name b_Checker_checkLimits 10 ([] : List ExceptionTableEntry) none 66 [(0, .ref x0), (2, .int x2), (9, .int x9)] [] h bc bs := by
  unfold w_Checker_checkLimits_L66 at hw
  intro p e s m args below meth c hC H locs ls k n hE hl hR hS hk hn
  obtain ⟨hx, hb, hown, hlocks, htab, hml, hr, hB, hA, hnm⟩ := id hC
  have hts := hB.1.1.at args
  refine lv_iload_n hx hb (xb_d D_Checker_checkLimits 36 rfl) rfl (lv_at hl 1 rfl) ?_
  refine lv_if_le (tgt := 81) hx hb (xb_d D_Checker_checkLimits 37 rfl) rfl (fun hc1 => ?_) (fun hc1 => ?_)
  · have hw := hw.1 hc1
    exact am_Checker_checkLimits_L81 l hfl D A σ MC MS h0 Qr Qt h bc bs hw p e s m args below meth c hC H locs ls k n hE (lv_sub hl [] rfl) hR hS (by omega) (by omega)
  · have hw := hw.2 hc1
    refine lv_aload_n hx hb (xb_d D_Checker_checkLimits 38 rfl) rfl (lv_at hl 0 rfl) ?_
    obtain ⟨hk2, hw⟩ := hw
    refine xb_getP (C := R_Checker) (T := F_Checker) (N := 17) hx hb 4 0 hts fin_Checker hown hR hk2 (by decide) rfl (by decide) rfl (hts _ m_070795bc) (fun _ h9 => h9) (xb_d D_Checker_checkLimits 39 rfl) ?_
    obtain ⟨b3, eb3, hw⟩ := hw
    refine xb_some eb3 ?_
    refine lv_bipush (v := 27) hx hb (xb_d D_Checker_checkLimits 40 rfl) (by decide) ?_
    refine lv_iload hx hb (xb_d D_Checker_checkLimits 41 rfl) (lv_at hl 2 rfl) ?_
    obtain ⟨hk4, hw⟩ := hw
    refine xb_call (D := D) (A := A) (σ := σ) (h := h) (d := 2) (mc := bc) (ms := bs) (maxL := 3) (rest := []) (av := [.ref b3, .int 27, .int x9]) (fun T hT X => by obtain ⟨cb9, ra9, rb9, rc9⟩ := xb_recv (ci := 2) hR rfl hk4 (by decide); exact xt_invV X hx hown (hts _ m_1d37521a) (hts _ m_865d5b07) (hts _ m_113f8f75) (xt_sigOf (hts _ m_73e65e5f)) nm_StackModule_fail (by rw [hT]; exact ra9) rb9 rc9 (g := F0 m 78 ls [.int x9, .int 27, .ref b3]) rfl (argsL := [.int 27, .int x9]) (rest := []) rfl rfl (by rw [hb]; exact (xb_d D_Checker_checkLimits 42 rfl))) (ok_StackModule_fail l hfl D A σ b3 27 x9 h bc bs _ _ hw) (hml.trans hl.1.symm) (by rw [hb]; exact (xb_d D_Checker_checkLimits 42 rfl)) (Nat.le_of_ble_eq_true rfl) (Nat.le_of_ble_eq_true rfl) (Nat.le_of_ble_eq_true rfl) (show k + bc ≤ MC by omega) (show n + bs ≤ MS by omega) (xt_w1 hB.1 m_73e65e5f) (xt_cdOf hB.1 m_73e65e5f) (hts _ m_9c375545) hB hR hS hA (fun vv h5 bc6 bs6 kk6 nn6 H locs hk6 hn6 hq hEh5 hR hS => ?_) (fun XX ax h5 bc6 bs6 kk6 nn6 H locs hk6 hn6 hq hEh5 hex hR hS => ?_)
    · obtain ⟨rfl, hw⟩ := hq
      have hw := hw hEh5
      have hE := hE.tr hEh5
      refine W.eq (g2 := F0 m 81 ls []) rfl ?_
      exact am_Checker_checkLimits_L81 l hfl D A σ MC MS h0 Qr Qt h5 bc6 bs6 hw p e s m args below meth c hC H locs ls (k + kk6) (n + nn6) hE (lv_sub hl [] rfl) hR hS (by omega) (by omega)
    · exact xb_pass hlocks (fun x hx9 => by rw [htab] at hx9; first | (cases hx9; done) | (simp [tableOf] at hx9; subst hx9; decide) | (simp [tableOf] at hx9; rcases hx9 with rfl | rfl <;> decide) | (simp [tableOf] at hx9; rcases hx9 with rfl | rfl | rfl <;> decide)) (show (k + kk6) + bc6 ≤ MC by omega) (show (n + nn6) + bs6 ≤ MS by omega) (hE.tr hEh5) hR hS hex hq

set_option maxHeartbeats 4000000 in
set_option maxRecDepth 100000 in
theorem am_Checker_checkLimits_L55 (l : Launch) (hfl : l.flags = pinnedFlags ++ [noTraceFlag]) (D : va_G) (A : Nat → Prop) (σ MC MS : Nat) (h0 : xb_H) (Qr : xb_H → Nat → Nat → Prop) (Qt : String → xb_H → Nat → Nat → Prop) (x0 : Nat) (x2 : Int32) (x9 : Int32) (h : xb_H) (bc : Nat) (bs : Nat) (hw : w_Checker_checkLimits_L55 Qr Qt x0 x2 x9 h bc bs) : xb_am l D A σ 3 MC MS h0 (fun v h bc bs => v = none ∧ Qr h bc bs) Qt y_Checker_checkLimits.cls y_Checker_checkLimits.name b_Checker_checkLimits 10 ([] : List ExceptionTableEntry) none 55 [(0, .ref x0), (2, .int x2), (9, .int x9)] [] h bc bs := by
  unfold w_Checker_checkLimits_L55 at hw
  intro p e s m args below meth c hC H locs ls k n hE hl hR hS hk hn
  obtain ⟨hx, hb, hown, hlocks, htab, hml, hr, hB, hA, hnm⟩ := id hC
  have hts := hB.1.1.at args
  refine lv_aload_n hx hb (xb_d D_Checker_checkLimits 31 rfl) rfl (lv_at hl 0 rfl) ?_
  obtain ⟨hk1, hw⟩ := hw
  refine xb_getP (C := R_Checker) (T := F_Checker) (N := 17) hx hb 4 0 hts fin_Checker hown hR hk1 (by decide) rfl (by decide) rfl (hts _ m_070795bc) (fun _ h9 => h9) (xb_d D_Checker_checkLimits 32 rfl) ?_
  obtain ⟨b2, eb2, hw⟩ := hw
  refine xb_some eb2 ?_
  refine lv_bipush (v := 25) hx hb (xb_d D_Checker_checkLimits 33 rfl) (by decide) ?_
  refine lv_iload hx hb (xb_d D_Checker_checkLimits 34 rfl) (lv_at hl 2 rfl) ?_
  obtain ⟨hk3, hw⟩ := hw
  refine xb_call (D := D) (A := A) (σ := σ) (h := h) (d := 2) (mc := bc) (ms := bs) (maxL := 3) (rest := []) (av := [.ref b2, .int 25, .int x9]) (fun T hT X => by obtain ⟨cb9, ra9, rb9, rc9⟩ := xb_recv (ci := 2) hR rfl hk3 (by decide); exact xt_invV X hx hown (hts _ m_1d37521a) (hts _ m_865d5b07) (hts _ m_113f8f75) (xt_sigOf (hts _ m_73e65e5f)) nm_StackModule_fail (by rw [hT]; exact ra9) rb9 rc9 (g := F0 m 63 ls [.int x9, .int 25, .ref b2]) rfl (argsL := [.int 25, .int x9]) (rest := []) rfl rfl (by rw [hb]; exact (xb_d D_Checker_checkLimits 35 rfl))) (ok_StackModule_fail l hfl D A σ b2 25 x9 h bc bs _ _ hw) (hml.trans hl.1.symm) (by rw [hb]; exact (xb_d D_Checker_checkLimits 35 rfl)) (Nat.le_of_ble_eq_true rfl) (Nat.le_of_ble_eq_true rfl) (Nat.le_of_ble_eq_true rfl) (show k + bc ≤ MC by omega) (show n + bs ≤ MS by omega) (xt_w1 hB.1 m_73e65e5f) (xt_cdOf hB.1 m_73e65e5f) (hts _ m_9c375545) hB hR hS hA (fun vv h4 bc5 bs5 kk5 nn5 H locs hk5 hn5 hq hEh4 hR hS => ?_) (fun XX ax h4 bc5 bs5 kk5 nn5 H locs hk5 hn5 hq hEh4 hex hR hS => ?_)
  · obtain ⟨rfl, hw⟩ := hq
    have hw := hw hEh4
    have hE := hE.tr hEh4
    refine W.eq (g2 := F0 m 66 ls []) rfl ?_
    exact am_Checker_checkLimits_L66 l hfl D A σ MC MS h0 Qr Qt x0 x2 x9 h4 bc5 bs5 hw p e s m args below meth c hC H locs ls (k + kk5) (n + nn5) hE (lv_sub hl [0, 1, 2] rfl) hR hS (by omega) (by omega)
  · exact xb_pass hlocks (fun x hx9 => by rw [htab] at hx9; first | (cases hx9; done) | (simp [tableOf] at hx9; subst hx9; decide) | (simp [tableOf] at hx9; rcases hx9 with rfl | rfl <;> decide) | (simp [tableOf] at hx9; rcases hx9 with rfl | rfl | rfl <;> decide)) (show (k + kk5) + bc5 ≤ MC by omega) (show (n + nn5) + bs5 ≤ MS by omega) (hE.tr hEh4) hR hS hex hq

set_option maxHeartbeats 4000000 in
set_option maxRecDepth 100000 in
theorem ok_Checker_checkLimits (l : Launch) (hfl : l.flags = pinnedFlags ++ [noTraceFlag]) (D : va_G) (A : Nat → Prop) (σ : Nat) (x0 : Nat) (x1 : Nat) (x2 : Int32) (x3 : Int64) (h : xb_H) (bc : Nat) (bs : Nat) (Qr : xb_H → Nat → Nat → Prop) (Qt : String → xb_H → Nat → Nat → Prop) (hw : w_Checker_checkLimits x0 x1 x2 x3 h bc bs Qr Qt) : xb_Met l y_Checker_checkLimits [.code y_Checker_checkLimits b_Checker_checkLimits 10 none] (xb_rm 3 bc bs) (xb_Pc D A σ h [.ref x0, .ref x1, .int x2, .long x3]) (xb_Qc D A h bc bs (fun v h bc bs => v = none ∧ Qr h bc bs) Qt) A := by
  refine xb_ofAm (cc := b_Checker_checkLimits) (by decide) (Nat.le_of_ble_eq_true rfl) ?_
  unfold w_Checker_checkLimits at hw
  show xb_am l D A σ 3 bc bs h (fun v h bc bs => v = none ∧ Qr h bc bs) Qt y_Checker_checkLimits.cls y_Checker_checkLimits.name b_Checker_checkLimits 10 ([] : List ExceptionTableEntry) none 0 [(0, .ref x0), (1, .ref x1), (2, .int x2), (3, .long x3)] [] h bc bs
  obtain ⟨MC, hMC⟩ : ∃ x, x = bc := ⟨_, rfl⟩
  obtain ⟨MS, hMS⟩ : ∃ x, x = bs := ⟨_, rfl⟩
  rw [show xb_am l D A σ 3 bc bs = xb_am l D A σ 3 MC MS by rw [hMC, hMS]]
  obtain ⟨h0, hh0⟩ : ∃ x, x = h := ⟨_, rfl⟩
  rw [show xb_am l D A σ 3 MC MS h = xb_am l D A σ 3 MC MS h0 by rw [hh0]]
  intro p e s m args below meth c hC H locs ls k n hE hl hR hS hk hn
  obtain ⟨hx, hb, hown, hlocks, htab, hml, hr, hB, hA, hnm⟩ := id hC
  have hts := hB.1.1.at args
  refine lv_aload_n hx hb (xb_d D_Checker_checkLimits 0 rfl) rfl (lv_at hl 1 rfl) ?_
  refine lv_iload_n hx hb (xb_d D_Checker_checkLimits 1 rfl) rfl (lv_at hl 2 rfl) ?_
  refine lv_iconst (v := 1) hx hb (xb_d D_Checker_checkLimits 2 rfl) (by decide) ?_
  obtain ⟨hk1, hw⟩ := hw
  refine xb_call0 (D := D) (A := A) (σ := σ) (h := h) (d := 2) (maxL := 3) (rest := []) (av := [.ref x1, .int x2, .int 1]) (fun T hT X => by obtain ⟨cb9, ra9, rb9, rc9⟩ := xb_recv (ci := 1) hR rfl hk1 (by decide); exact xt_invV X hx hown (hts _ m_e00feb7e) (hts _ m_8db3b24f) (hts _ m_78dc30a4) (xt_sigOf (hts _ m_a4177401)) nm_Row_longAt (by rw [hT]; exact ra9) rb9 rc9 (g := F0 m 3 ls [.int 1, .int x2, .ref x1]) rfl (argsL := [.int x2, .int 1]) (rest := []) rfl rfl (by rw [hb]; exact (xb_d D_Checker_checkLimits 3 rfl))) (ok_Row_longAt l hfl D A σ x1 x2 1 h _ hw) (hml.trans hl.1.symm) (by rw [hb]; exact (xb_d D_Checker_checkLimits 3 rfl)) (Nat.le_of_ble_eq_true rfl) (Nat.le_of_ble_eq_true rfl) (Nat.le_of_ble_eq_true rfl) (show k ≤ MC by omega) (show n ≤ MS by omega) (xt_w1 hB.1 m_a4177401) (xt_cdOf hB.1 m_a4177401) (hts _ m_c1bef504) hB hR hS hA (fun vv h2 H locs hq hEh2 hR hS => ?_)
  obtain ⟨r3, rfl, hw⟩ := hq
  have hw := hw hEh2
  have hE := hE.tr hEh2
  refine W.eq (g2 := F0 m 6 ls [.long r3]) rfl ?_
  refine lv_lstore hx hb (xb_d D_Checker_checkLimits 4 rfl) hl (by decide) rfl (fun ls hl => ?_)
  have hl : lv_has ls 10 [(5, .long r3), (0, .ref x0), (1, .ref x1), (2, .int x2), (3, .long x3)] := hl
  refine lv_aload_n hx hb (xb_d D_Checker_checkLimits 5 rfl) rfl (lv_at hl 2 rfl) ?_
  refine lv_iload_n hx hb (xb_d D_Checker_checkLimits 6 rfl) rfl (lv_at hl 3 rfl) ?_
  refine lv_iconst (v := 2) hx hb (xb_d D_Checker_checkLimits 7 rfl) (by decide) ?_
  have hk1 : xb_k h2 x1 = 2 := hEh2.k hk1
  refine xb_call0 (D := D) (A := A) (σ := σ) (h := h2) (d := 2) (maxL := 3) (rest := []) (av := [.ref x1, .int x2, .int 2]) (fun T hT X => by obtain ⟨cb9, ra9, rb9, rc9⟩ := xb_recv (ci := 1) hR rfl hk1 (by decide); exact xt_invV X hx hown (hts _ m_e00feb7e) (hts _ m_8db3b24f) (hts _ m_78dc30a4) (xt_sigOf (hts _ m_a4177401)) nm_Row_longAt (by rw [hT]; exact ra9) rb9 rc9 (g := F0 m 11 ls [.int 2, .int x2, .ref x1]) rfl (argsL := [.int x2, .int 2]) (rest := []) rfl rfl (by rw [hb]; exact (xb_d D_Checker_checkLimits 8 rfl))) (ok_Row_longAt l hfl D A σ x1 x2 2 h2 _ hw) (hml.trans hl.1.symm) (by rw [hb]; exact (xb_d D_Checker_checkLimits 8 rfl)) (Nat.le_of_ble_eq_true rfl) (Nat.le_of_ble_eq_true rfl) (Nat.le_of_ble_eq_true rfl) (show k ≤ MC by omega) (show n ≤ MS by omega) (xt_w1 hB.1 m_a4177401) (xt_cdOf hB.1 m_a4177401) (hts _ m_c1bef504) hB hR hS hA (fun vv h4 H locs hq hEh4 hR hS => ?_)
  obtain ⟨r5, rfl, hw⟩ := hq
  have hw := hw hEh4
  have hE := hE.tr hEh4
  refine W.eq (g2 := F0 m 14 ls [.long r5]) rfl ?_
  refine lv_lstore hx hb (xb_d D_Checker_checkLimits 9 rfl) hl (by decide) rfl (fun ls hl => ?_)
  have hl : lv_has ls 10 [(7, .long r5), (5, .long r3), (0, .ref x0), (1, .ref x1), (2, .int x2), (3, .long x3)] := hl
  refine lv_aload_n hx hb (xb_d D_Checker_checkLimits 10 rfl) rfl (lv_at hl 3 rfl) ?_
  refine lv_iload_n hx hb (xb_d D_Checker_checkLimits 11 rfl) rfl (lv_at hl 4 rfl) ?_
  refine lv_iconst (v := 0) hx hb (xb_d D_Checker_checkLimits 12 rfl) (by decide) ?_
  have hk1 : xb_k h4 x1 = 2 := hEh4.k hk1
  refine xb_call0 (D := D) (A := A) (σ := σ) (h := h4) (d := 2) (maxL := 3) (rest := []) (av := [.ref x1, .int x2, .int 0]) (fun T hT X => by obtain ⟨cb9, ra9, rb9, rc9⟩ := xb_recv (ci := 1) hR rfl hk1 (by decide); exact xt_invV X hx hown (hts _ m_068feb96) (hts _ m_8e233096) (hts _ m_27eed10c) (xt_sigOf (hts _ m_ff1c70ae)) nm_Row_at (by rw [hT]; exact ra9) rb9 rc9 (g := F0 m 19 ls [.int 0, .int x2, .ref x1]) rfl (argsL := [.int x2, .int 0]) (rest := []) rfl rfl (by rw [hb]; exact (xb_d D_Checker_checkLimits 13 rfl))) (ok_Row_at l hfl D A σ x1 x2 0 h4 _ hw) (hml.trans hl.1.symm) (by rw [hb]; exact (xb_d D_Checker_checkLimits 13 rfl)) (Nat.le_of_ble_eq_true rfl) (Nat.le_of_ble_eq_true rfl) (Nat.le_of_ble_eq_true rfl) (show k ≤ MC by omega) (show n ≤ MS by omega) (xt_w1 hB.1 m_ff1c70ae) (xt_cdOf hB.1 m_ff1c70ae) (hts _ m_c1bef504) hB hR hS hA (fun vv h6 H locs hq hEh6 hR hS => ?_)
  obtain ⟨r7, rfl, hw⟩ := hq
  have hw := hw hEh6
  have hE := hE.tr hEh6
  refine W.eq (g2 := F0 m 22 ls [.int r7]) rfl ?_
  refine lv_istore hx hb (xb_d D_Checker_checkLimits 14 rfl) hl (by decide) rfl (fun ls hl => ?_)
  have hl : lv_has ls 10 [(9, .int r7), (7, .long r5), (5, .long r3), (0, .ref x0), (1, .ref x1), (2, .int x2), (3, .long x3)] := hl
  refine lv_lload hx hb (xb_d D_Checker_checkLimits 15 rfl) (lv_at hl 2 rfl) ?_
  refine lv_lload_n hx hb (xb_d D_Checker_checkLimits 16 rfl) rfl (lv_at hl 6 rfl) ?_
  refine xb_lc_gt (tgt := 55) hx hb (xb_d D_Checker_checkLimits 17 rfl) (xb_d D_Checker_checkLimits 18 rfl) rfl (fun hc8 => ?_) (fun hc8 => ?_)
  · have hw := hw.1 hc8
    exact am_Checker_checkLimits_L55 l hfl D A σ MC MS h0 Qr Qt x0 x2 r7 h6 bc bs hw p e s m args below meth c hC H locs ls k n hE (lv_sub hl [3, 5, 0] rfl) hR hS (by omega) (by omega)
  · have hw := hw.2 hc8
    refine lv_lload hx hb (xb_d D_Checker_checkLimits 19 rfl) (lv_at hl 1 rfl) ?_
    refine lv_lload_n hx hb (xb_d D_Checker_checkLimits 20 rfl) rfl (lv_at hl 6 rfl) ?_
    refine xb_lc_gt (tgt := 55) hx hb (xb_d D_Checker_checkLimits 21 rfl) (xb_d D_Checker_checkLimits 22 rfl) rfl (fun hc9 => ?_) (fun hc9 => ?_)
    · have hw := hw.1 hc9
      exact am_Checker_checkLimits_L55 l hfl D A σ MC MS h0 Qr Qt x0 x2 r7 h6 bc bs hw p e s m args below meth c hC H locs ls k n hE (lv_sub hl [3, 5, 0] rfl) hR hS (by omega) (by omega)
    · have hw := hw.2 hc9
      refine lv_lload hx hb (xb_d D_Checker_checkLimits 23 rfl) (lv_at hl 1 rfl) ?_
      refine lv_ldc2 (v := (-1)) hx hb hown (hts _ m_570d6fb6) (xb_d D_Checker_checkLimits 24 rfl) ?_
      refine xb_lc_eq (tgt := 66) hx hb (xb_d D_Checker_checkLimits 25 rfl) (xb_d D_Checker_checkLimits 26 rfl) rfl (fun hc10 => ?_) (fun hc10 => ?_)
      · have hw := hw.1 hc10
        exact am_Checker_checkLimits_L66 l hfl D A σ MC MS h0 Qr Qt x0 x2 r7 h6 bc bs hw p e s m args below meth c hC H locs ls k n hE (lv_sub hl [3, 5, 0] rfl) hR hS (by omega) (by omega)
      · have hw := hw.2 hc10
        refine lv_lload hx hb (xb_d D_Checker_checkLimits 27 rfl) (lv_at hl 1 rfl) ?_
        refine lv_lload hx hb (xb_d D_Checker_checkLimits 28 rfl) (lv_at hl 2 rfl) ?_
        refine xb_lc_ge (tgt := 66) hx hb (xb_d D_Checker_checkLimits 29 rfl) (xb_d D_Checker_checkLimits 30 rfl) rfl (fun hc11 => ?_) (fun hc11 => ?_)
        · have hw := hw.1 hc11
          exact am_Checker_checkLimits_L66 l hfl D A σ MC MS h0 Qr Qt x0 x2 r7 h6 bc bs hw p e s m args below meth c hC H locs ls k n hE (lv_sub hl [3, 5, 0] rfl) hR hS (by omega) (by omega)
        · have hw := hw.2 hc11
          exact am_Checker_checkLimits_L55 l hfl D A σ MC MS h0 Qr Qt x0 x2 r7 h6 bc bs hw p e s m args below meth c hC H locs ls k n hE (lv_sub hl [3, 5, 0] rfl) hR hS (by omega) (by omega)

set_option maxRecDepth 100000 in
def T_Checker_checkTypes : List (Nat × Instr × Nat) := [(0, .iconst 0, 1), (1, .istore_n 1, 1), (2, .iload_n 1, 1), (3, .aload_n 0, 1), (4, .getfield 38, 3), (7, .getfield 87, 3), (10, .invokevirtual 77, 3), (13, .if_icmp .ge 46, 3), (16, .aload_n 0, 1), (17, .getfield 38, 3), (20, .getfield 87, 3), (23, .iload_n 1, 1), (24, .iconst 3, 1), (25, .invokevirtual 90, 3), (28, .iconst 1, 1), (29, .if_icmp .le 24, 3), (32, .aload_n 0, 1), (33, .getfield 38, 3), (36, .bipush 28, 2), (38, .aload_n 0, 1), (39, .getfield 38, 3), (42, .getfield 87, 3), (45, .iload_n 1, 1), (46, .iconst 0, 1), (47, .invokevirtual 90, 3), (50, .invokevirtual 94, 3), (53, .iinc 1 1, 3), (56, .goto (-54), 3), (59, .return_, 1)]
theorem D_Checker_checkTypes : ∀ q ∈ T_Checker_checkTypes, decode b_Checker_checkTypes q.1 = .ok (q.2.1, q.2.2) := by decide +kernel

set_option maxHeartbeats 4000000 in
set_option maxRecDepth 100000 in
theorem am_Checker_checkTypes_L53 (l : Launch) (hfl : l.flags = pinnedFlags ++ [noTraceFlag]) (D : va_G) (A : Nat → Prop) (σ MC MS : Nat) (h0 : xb_H) (Qr : xb_H → Nat → Nat → Prop) (Qt : String → xb_H → Nat → Nat → Prop) (K2 : Nat → Int32 → xb_H → Nat → Nat → Prop) (hK2 : ∀ (x0 : Nat) (x1 : Int32) (h : xb_H) (bc : Nat) (bs : Nat), K2 x0 x1 h bc bs → xb_am l D A σ 3 MC MS h0 (fun v h bc bs => v = none ∧ Qr h bc bs) Qt y_Checker_checkTypes.cls y_Checker_checkTypes.name b_Checker_checkTypes 2 ([] : List ExceptionTableEntry) none 2 [(0, .ref x0), (1, .int x1)] [] h bc bs) (x0 : Nat) (x1 : Int32) (h : xb_H) (bc : Nat) (bs : Nat) (hw : w_Checker_checkTypes_L53 K2 Qr Qt x0 x1 h bc bs) : xb_am l D A σ 3 MC MS h0 (fun v h bc bs => v = none ∧ Qr h bc bs) Qt y_Checker_checkTypes.cls y_Checker_checkTypes.name b_Checker_checkTypes 2 ([] : List ExceptionTableEntry) none 53 [(0, .ref x0), (1, .int x1)] [] h bc bs := by
  unfold w_Checker_checkTypes_L53 at hw
  intro p e s m args below meth c hC H locs ls k n hE hl hR hS hk hn
  obtain ⟨hx, hb, hown, hlocks, htab, hml, hr, hB, hA, hnm⟩ := id hC
  have hts := hB.1.1.at args
  refine lv_iinc (v := (x1 + 1)) (k := 1) hx hb (xb_d D_Checker_checkTypes 26 rfl) hl rfl (by first | rfl | decide) (by decide) rfl (fun ls hl => ?_)
  have hl : lv_has ls 2 [(1, .int (x1 + 1)), (0, .ref x0)] := hl
  refine lv_goto (tgt := 2) hx hb (xb_d D_Checker_checkTypes 27 rfl) rfl ?_
  exact hK2 x0 (x1 + 1) h bc bs hw p e s m args below meth c hC H locs ls k n hE (lv_sub hl [1, 0] rfl) hR hS (by omega) (by omega)

set_option maxHeartbeats 4000000 in
set_option maxRecDepth 100000 in
theorem am_Checker_checkTypes_L2 (l : Launch) (hfl : l.flags = pinnedFlags ++ [noTraceFlag]) (D : va_G) (A : Nat → Prop) (σ MC MS : Nat) (h0 : xb_H) (Qr : xb_H → Nat → Nat → Prop) (Qt : String → xb_H → Nat → Nat → Prop) (n9 : Nat) : ∀ (x0 : Nat) (x1 : Int32) (h : xb_H) (bc : Nat) (bs : Nat), w_Checker_checkTypes_L2 Qr Qt n9 x0 x1 h bc bs → xb_am l D A σ 3 MC MS h0 (fun v h bc bs => v = none ∧ Qr h bc bs) Qt y_Checker_checkTypes.cls y_Checker_checkTypes.name b_Checker_checkTypes 2 ([] : List ExceptionTableEntry) none 2 [(0, .ref x0), (1, .int x1)] [] h bc bs := by
  induction n9 with
  | zero => intro x0 x1 h bc bs hw; exact False.elim hw
  | succ n9 ih =>
    intro x0 x1 h bc bs hw
    unfold w_Checker_checkTypes_L2 at hw
    intro p e s m args below meth c hC H locs ls k n hE hl hR hS hk hn
    obtain ⟨hx, hb, hown, hlocks, htab, hml, hr, hB, hA, hnm⟩ := id hC
    have hts := hB.1.1.at args
    refine lv_iload_n hx hb (xb_d D_Checker_checkTypes 2 rfl) rfl (lv_at hl 1 rfl) ?_
    refine lv_aload_n hx hb (xb_d D_Checker_checkTypes 3 rfl) rfl (lv_at hl 0 rfl) ?_
    obtain ⟨hk1, hw⟩ := hw
    refine xb_getP (C := R_Checker) (T := F_Checker) (N := 17) hx hb 4 0 hts fin_Checker hown hR hk1 (by decide) rfl (by decide) rfl (hts _ m_070795bc) (fun _ h9 => h9) (xb_d D_Checker_checkTypes 4 rfl) ?_
    obtain ⟨b2, eb2, hw⟩ := hw
    refine xb_some eb2 ?_
    obtain ⟨hk3, hw⟩ := hw
    refine xb_getP (C := R_StackModule) (T := F_StackModule) (N := 19) hx hb 2 2 hts fin_StackModule hown hR hk3 (by decide) rfl (by decide) rfl (hts _ m_e7e89823) (fun _ h9 => h9) (xb_d D_Checker_checkTypes 5 rfl) ?_
    obtain ⟨b4, eb4, hw⟩ := hw
    refine xb_some eb4 ?_
    obtain ⟨hk5, hw⟩ := hw
    refine xb_call0 (D := D) (A := A) (σ := σ) (h := h) (d := 2) (maxL := 1) (rest := [.int x1]) (av := [.ref b4]) (fun T hT X => by obtain ⟨cb9, ra9, rb9, rc9⟩ := xb_recv (ci := 1) hR rfl hk5 (by decide); exact xt_invV X hx hown (hts _ m_c8b950b4) (hts _ m_ded65609) (hts _ m_a4161156) (xt_sigOf (hts _ m_83ba3721)) nm_Row_lines (by rw [hT]; exact ra9) rb9 rc9 (g := F0 m 10 ls [.ref b4, .int x1]) rfl (argsL := []) (rest := [.int x1]) rfl rfl (by rw [hb]; exact (xb_d D_Checker_checkTypes 6 rfl))) (ok_Row_lines l hfl D A σ b4 h _ hw) (hml.trans hl.1.symm) (by rw [hb]; exact (xb_d D_Checker_checkTypes 6 rfl)) (Nat.le_of_ble_eq_true rfl) (Nat.le_of_ble_eq_true rfl) (Nat.le_of_ble_eq_true rfl) (show k ≤ MC by omega) (show n ≤ MS by omega) (xt_w1 hB.1 m_83ba3721) (xt_cdOf hB.1 m_83ba3721) (hts _ m_c1bef504) hB hR hS hA (fun vv h6 H locs hq hEh6 hR hS => ?_)
    obtain ⟨r7, rfl, hw⟩ := hq
    have hw := hw hEh6
    have hE := hE.tr hEh6
    refine W.eq (g2 := F0 m 13 ls [.int r7, .int x1]) rfl ?_
    refine lv_icmp_ge (tgt := 59) hx hb (xb_d D_Checker_checkTypes 7 rfl) rfl (fun hc8 => ?_) (fun hc8 => ?_)
    · have hw := hw.1 hc8
      exact xb_vret bc bs hx hb hr hlocks (show k + bc ≤ MC by omega) (show n + bs ≤ MS by omega) hE hR hS (xb_d D_Checker_checkTypes 28 rfl) hw
    · have hw := hw.2 hc8
      refine lv_aload_n hx hb (xb_d D_Checker_checkTypes 8 rfl) rfl (lv_at hl 0 rfl) ?_
      have hk1 : xb_k h6 x0 = 5 := hEh6.k hk1
      refine xb_getP (C := R_Checker) (T := F_Checker) (N := 17) hx hb 4 0 hts fin_Checker hown hR hk1 (by decide) rfl (by decide) rfl (hts _ m_070795bc) (fun _ h9 => h9) (xb_d D_Checker_checkTypes 9 rfl) ?_
      obtain ⟨b9, eb9, hw⟩ := hw
      refine xb_some eb9 ?_
      obtain ⟨hk10, hw⟩ := hw
      refine xb_getP (C := R_StackModule) (T := F_StackModule) (N := 19) hx hb 2 2 hts fin_StackModule hown hR hk10 (by decide) rfl (by decide) rfl (hts _ m_e7e89823) (fun _ h9 => h9) (xb_d D_Checker_checkTypes 10 rfl) ?_
      obtain ⟨b11, eb11, hw⟩ := hw
      refine xb_some eb11 ?_
      refine lv_iload_n hx hb (xb_d D_Checker_checkTypes 11 rfl) rfl (lv_at hl 1 rfl) ?_
      refine lv_iconst (v := 3) hx hb (xb_d D_Checker_checkTypes 12 rfl) (by decide) ?_
      obtain ⟨hk12, hw⟩ := hw
      refine xb_call0 (D := D) (A := A) (σ := σ) (h := h6) (d := 2) (maxL := 3) (rest := []) (av := [.ref b11, .int x1, .int 3]) (fun T hT X => by obtain ⟨cb9, ra9, rb9, rc9⟩ := xb_recv (ci := 1) hR rfl hk12 (by decide); exact xt_invV X hx hown (hts _ m_068feb96) (hts _ m_8e233096) (hts _ m_27eed10c) (xt_sigOf (hts _ m_ff1c70ae)) nm_Row_at (by rw [hT]; exact ra9) rb9 rc9 (g := F0 m 25 ls [.int 3, .int x1, .ref b11]) rfl (argsL := [.int x1, .int 3]) (rest := []) rfl rfl (by rw [hb]; exact (xb_d D_Checker_checkTypes 13 rfl))) (ok_Row_at l hfl D A σ b11 x1 3 h6 _ hw) (hml.trans hl.1.symm) (by rw [hb]; exact (xb_d D_Checker_checkTypes 13 rfl)) (Nat.le_of_ble_eq_true rfl) (Nat.le_of_ble_eq_true rfl) (Nat.le_of_ble_eq_true rfl) (show k ≤ MC by omega) (show n ≤ MS by omega) (xt_w1 hB.1 m_ff1c70ae) (xt_cdOf hB.1 m_ff1c70ae) (hts _ m_c1bef504) hB hR hS hA (fun vv h13 H locs hq hEh13 hR hS => ?_)
      obtain ⟨r14, rfl, hw⟩ := hq
      have hw := hw hEh13
      have hE := hE.tr hEh13
      refine W.eq (g2 := F0 m 28 ls [.int r14]) rfl ?_
      refine lv_iconst (v := 1) hx hb (xb_d D_Checker_checkTypes 14 rfl) (by decide) ?_
      refine lv_icmp_le (tgt := 53) hx hb (xb_d D_Checker_checkTypes 15 rfl) rfl (fun hc15 => ?_) (fun hc15 => ?_)
      · have hw := hw.1 hc15
        exact am_Checker_checkTypes_L53 l hfl D A σ MC MS h0 Qr Qt (w_Checker_checkTypes_L2 Qr Qt n9) ih x0 x1 h13 bc bs hw p e s m args below meth c hC H locs ls k n hE (lv_sub hl [0, 1] rfl) hR hS (by omega) (by omega)
      · have hw := hw.2 hc15
        refine lv_aload_n hx hb (xb_d D_Checker_checkTypes 16 rfl) rfl (lv_at hl 0 rfl) ?_
        have hk1 : xb_k h13 x0 = 5 := hEh13.k hk1
        refine xb_getP (C := R_Checker) (T := F_Checker) (N := 17) hx hb 4 0 hts fin_Checker hown hR hk1 (by decide) rfl (by decide) rfl (hts _ m_070795bc) (fun _ h9 => h9) (xb_d D_Checker_checkTypes 17 rfl) ?_
        obtain ⟨b16, eb16, hw⟩ := hw
        refine xb_some eb16 ?_
        refine lv_bipush (v := 28) hx hb (xb_d D_Checker_checkTypes 18 rfl) (by decide) ?_
        refine lv_aload_n hx hb (xb_d D_Checker_checkTypes 19 rfl) rfl (lv_at hl 0 rfl) ?_
        refine xb_getP (C := R_Checker) (T := F_Checker) (N := 17) hx hb 4 0 hts fin_Checker hown hR hk1 (by decide) rfl (by decide) rfl (hts _ m_070795bc) (fun _ h9 => h9) (xb_d D_Checker_checkTypes 20 rfl) ?_
        obtain ⟨b17, eb17, hw⟩ := hw
        refine xb_some eb17 ?_
        obtain ⟨hk18, hw⟩ := hw
        refine xb_getP (C := R_StackModule) (T := F_StackModule) (N := 19) hx hb 2 2 hts fin_StackModule hown hR hk18 (by decide) rfl (by decide) rfl (hts _ m_e7e89823) (fun _ h9 => h9) (xb_d D_Checker_checkTypes 21 rfl) ?_
        obtain ⟨b19, eb19, hw⟩ := hw
        refine xb_some eb19 ?_
        refine lv_iload_n hx hb (xb_d D_Checker_checkTypes 22 rfl) rfl (lv_at hl 1 rfl) ?_
        refine lv_iconst (v := 0) hx hb (xb_d D_Checker_checkTypes 23 rfl) (by decide) ?_
        obtain ⟨hk20, hw⟩ := hw
        refine xb_call0 (D := D) (A := A) (σ := σ) (h := h13) (d := 2) (maxL := 3) (rest := [.int 28, .ref b16]) (av := [.ref b19, .int x1, .int 0]) (fun T hT X => by obtain ⟨cb9, ra9, rb9, rc9⟩ := xb_recv (ci := 1) hR rfl hk20 (by decide); exact xt_invV X hx hown (hts _ m_068feb96) (hts _ m_8e233096) (hts _ m_27eed10c) (xt_sigOf (hts _ m_ff1c70ae)) nm_Row_at (by rw [hT]; exact ra9) rb9 rc9 (g := F0 m 47 ls [.int 0, .int x1, .ref b19, .int 28, .ref b16]) rfl (argsL := [.int x1, .int 0]) (rest := [.int 28, .ref b16]) rfl rfl (by rw [hb]; exact (xb_d D_Checker_checkTypes 24 rfl))) (ok_Row_at l hfl D A σ b19 x1 0 h13 _ hw) (hml.trans hl.1.symm) (by rw [hb]; exact (xb_d D_Checker_checkTypes 24 rfl)) (Nat.le_of_ble_eq_true rfl) (Nat.le_of_ble_eq_true rfl) (Nat.le_of_ble_eq_true rfl) (show k ≤ MC by omega) (show n ≤ MS by omega) (xt_w1 hB.1 m_ff1c70ae) (xt_cdOf hB.1 m_ff1c70ae) (hts _ m_c1bef504) hB hR hS hA (fun vv h21 H locs hq hEh21 hR hS => ?_)
        obtain ⟨r22, rfl, hw⟩ := hq
        have hw := hw hEh21
        have hE := hE.tr hEh21
        refine W.eq (g2 := F0 m 50 ls [.int r22, .int 28, .ref b16]) rfl ?_
        obtain ⟨hk23, hw⟩ := hw
        refine xb_call (D := D) (A := A) (σ := σ) (h := h21) (d := 2) (mc := bc) (ms := bs) (maxL := 3) (rest := []) (av := [.ref b16, .int 28, .int r22]) (fun T hT X => by obtain ⟨cb9, ra9, rb9, rc9⟩ := xb_recv (ci := 2) hR rfl hk23 (by decide); exact xt_invV X hx hown (hts _ m_1d37521a) (hts _ m_865d5b07) (hts _ m_113f8f75) (xt_sigOf (hts _ m_73e65e5f)) nm_StackModule_fail (by rw [hT]; exact ra9) rb9 rc9 (g := F0 m 50 ls [.int r22, .int 28, .ref b16]) rfl (argsL := [.int 28, .int r22]) (rest := []) rfl rfl (by rw [hb]; exact (xb_d D_Checker_checkTypes 25 rfl))) (ok_StackModule_fail l hfl D A σ b16 28 r22 h21 bc bs _ _ hw) (hml.trans hl.1.symm) (by rw [hb]; exact (xb_d D_Checker_checkTypes 25 rfl)) (Nat.le_of_ble_eq_true rfl) (Nat.le_of_ble_eq_true rfl) (Nat.le_of_ble_eq_true rfl) (show k + bc ≤ MC by omega) (show n + bs ≤ MS by omega) (xt_w1 hB.1 m_73e65e5f) (xt_cdOf hB.1 m_73e65e5f) (hts _ m_9c375545) hB hR hS hA (fun vv h24 bc25 bs25 kk25 nn25 H locs hk25 hn25 hq hEh24 hR hS => ?_) (fun XX ax h24 bc25 bs25 kk25 nn25 H locs hk25 hn25 hq hEh24 hex hR hS => ?_)
        · obtain ⟨rfl, hw⟩ := hq
          have hw := hw hEh24
          have hE := hE.tr hEh24
          refine W.eq (g2 := F0 m 53 ls []) rfl ?_
          exact am_Checker_checkTypes_L53 l hfl D A σ MC MS h0 Qr Qt (w_Checker_checkTypes_L2 Qr Qt n9) ih x0 x1 h24 bc25 bs25 hw p e s m args below meth c hC H locs ls (k + kk25) (n + nn25) hE (lv_sub hl [0, 1] rfl) hR hS (by omega) (by omega)
        · exact xb_pass hlocks (fun x hx9 => by rw [htab] at hx9; first | (cases hx9; done) | (simp [tableOf] at hx9; subst hx9; decide) | (simp [tableOf] at hx9; rcases hx9 with rfl | rfl <;> decide) | (simp [tableOf] at hx9; rcases hx9 with rfl | rfl | rfl <;> decide)) (show (k + kk25) + bc25 ≤ MC by omega) (show (n + nn25) + bs25 ≤ MS by omega) (hE.tr hEh24) hR hS hex hq

set_option maxHeartbeats 4000000 in
set_option maxRecDepth 100000 in
theorem ok_Checker_checkTypes (l : Launch) (hfl : l.flags = pinnedFlags ++ [noTraceFlag]) (D : va_G) (A : Nat → Prop) (σ : Nat) (x0 : Nat) (h : xb_H) (bc : Nat) (bs : Nat) (Qr : xb_H → Nat → Nat → Prop) (Qt : String → xb_H → Nat → Nat → Prop) (hw : w_Checker_checkTypes x0 h bc bs Qr Qt) : xb_Met l y_Checker_checkTypes [.code y_Checker_checkTypes b_Checker_checkTypes 2 none] (xb_rm 3 bc bs) (xb_Pc D A σ h [.ref x0]) (xb_Qc D A h bc bs (fun v h bc bs => v = none ∧ Qr h bc bs) Qt) A := by
  refine xb_ofAm (cc := b_Checker_checkTypes) (by decide) (Nat.le_of_ble_eq_true rfl) ?_
  unfold w_Checker_checkTypes at hw
  show xb_am l D A σ 3 bc bs h (fun v h bc bs => v = none ∧ Qr h bc bs) Qt y_Checker_checkTypes.cls y_Checker_checkTypes.name b_Checker_checkTypes 2 ([] : List ExceptionTableEntry) none 0 [(0, .ref x0)] [] h bc bs
  obtain ⟨MC, hMC⟩ : ∃ x, x = bc := ⟨_, rfl⟩
  obtain ⟨MS, hMS⟩ : ∃ x, x = bs := ⟨_, rfl⟩
  rw [show xb_am l D A σ 3 bc bs = xb_am l D A σ 3 MC MS by rw [hMC, hMS]]
  obtain ⟨h0, hh0⟩ : ∃ x, x = h := ⟨_, rfl⟩
  rw [show xb_am l D A σ 3 MC MS h = xb_am l D A σ 3 MC MS h0 by rw [hh0]]
  intro p e s m args below meth c hC H locs ls k n hE hl hR hS hk hn
  obtain ⟨hx, hb, hown, hlocks, htab, hml, hr, hB, hA, hnm⟩ := id hC
  have hts := hB.1.1.at args
  refine lv_iconst (v := 0) hx hb (xb_d D_Checker_checkTypes 0 rfl) (by decide) ?_
  refine lv_istore_n hx hb (xb_d D_Checker_checkTypes 1 rfl) rfl hl (by decide) rfl (fun ls hl => ?_)
  have hl : lv_has ls 2 [(1, .int 0), (0, .ref x0)] := hl
  obtain ⟨n8, hw⟩ := hw
  exact am_Checker_checkTypes_L2 l hfl D A σ MC MS h0 Qr Qt n8 x0 0 h bc bs hw p e s m args below meth c hC H locs ls k n hE (lv_sub hl [1, 0] rfl) hR hS (by omega) (by omega)

theorem m_81589b2f : (.fieldLink "StackHost$Checker" 104 "StackHost$StackModule" "tables" "LStackHost$Row;" : Cond) ∈ xt_tbl := xt_in (xt_t3 (List.mem_of_getElem? (i := 71) (by decide +kernel))) (by decide +kernel)
theorem m_f104cb1a : (.fieldLink "StackHost$Checker" 113 "StackHost$StackModule" "memories" "LStackHost$Row;" : Cond) ∈ xt_tbl := xt_in (xt_t3 (List.mem_of_getElem? (i := 77) (by decide +kernel))) (by decide +kernel)
set_option maxRecDepth 100000 in
def T_Checker_countOf : List (Nat × Instr × Nat) := [(0, .iload_n 1, 1), (1, .tableswitch 60 0 2 #[27, 38, 49], 27), (28, .aload_n 0, 1), (29, .getfield 38, 3), (32, .getfield 118, 3), (35, .invokevirtual 77, 3), (38, .ireturn, 1), (39, .aload_n 0, 1), (40, .getfield 38, 3), (43, .getfield 104, 3), (46, .invokevirtual 77, 3), (49, .ireturn, 1), (50, .aload_n 0, 1), (51, .getfield 38, 3), (54, .getfield 113, 3), (57, .invokevirtual 77, 3), (60, .ireturn, 1), (61, .aload_n 0, 1), (62, .getfield 38, 3), (65, .getfield 134, 3), (68, .invokevirtual 77, 3), (71, .ireturn, 1)]
theorem D_Checker_countOf : ∀ q ∈ T_Checker_countOf, decode b_Checker_countOf q.1 = .ok (q.2.1, q.2.2) := by decide +kernel

set_option maxHeartbeats 4000000 in
set_option maxRecDepth 100000 in
theorem ok_Checker_countOf (l : Launch) (hfl : l.flags = pinnedFlags ++ [noTraceFlag]) (D : va_G) (A : Nat → Prop) (σ : Nat) (x0 : Nat) (x1 : Int32) (h : xb_H) (Qr : Int32 → xb_H → Prop) (hw : w_Checker_countOf x0 x1 h Qr) : xb_Met l y_Checker_countOf [.code y_Checker_countOf b_Checker_countOf 2 (some .int)] (xb_rm 3 0 0) (xb_Pc D A σ h [.ref x0, .int x1]) (xb_Qc D A h 0 0 (fun v h _ _ => ∃ r, v = some (.int r) ∧ Qr r h) (fun _ _ _ _ => False)) A := by
  refine xb_ofAm (cc := b_Checker_countOf) (by decide) (Nat.le_of_ble_eq_true rfl) ?_
  unfold w_Checker_countOf at hw
  show xb_am l D A σ 3 0 0 h (fun v h _ _ => ∃ r, v = some (.int r) ∧ Qr r h) (fun _ _ _ _ => False) y_Checker_countOf.cls y_Checker_countOf.name b_Checker_countOf 2 ([] : List ExceptionTableEntry) (some .int) 0 [(0, .ref x0), (1, .int x1)] [] h 0 0
  obtain ⟨MC, hMC⟩ : ∃ x, x = 0 := ⟨_, rfl⟩
  obtain ⟨MS, hMS⟩ : ∃ x, x = 0 := ⟨_, rfl⟩
  rw [show xb_am l D A σ 3 0 0 = xb_am l D A σ 3 MC MS by rw [hMC, hMS]]
  obtain ⟨h0, hh0⟩ : ∃ x, x = h := ⟨_, rfl⟩
  rw [show xb_am l D A σ 3 MC MS h = xb_am l D A σ 3 MC MS h0 by rw [hh0]]
  intro p e s m args below meth c hC H locs ls k n hE hl hR hS hk hn
  obtain ⟨hx, hb, hown, hlocks, htab, hml, hr, hB, hA, hnm⟩ := id hC
  have hts := hB.1.1.at args
  refine lv_iload_n hx hb (xb_d D_Checker_countOf 0 rfl) rfl (lv_at hl 1 rfl) ?_
  by_cases hc1 : x1 = 0
  · have hw := hw.1 hc1
    refine xt_numi hc1 ?_
    refine lv_tableIn (off := 27) (tgt := 28) hx hb (xb_d D_Checker_countOf 1 rfl) (by decide +kernel) (by decide +kernel) (by decide +kernel) (by decide) ?_
    refine lv_aload_n hx hb (xb_d D_Checker_countOf 2 rfl) rfl (lv_at hl 0 rfl) ?_
    obtain ⟨hk2, hw⟩ := hw
    refine xb_getP (C := R_Checker) (T := F_Checker) (N := 17) hx hb 4 0 hts fin_Checker hown hR hk2 (by decide) rfl (by decide) rfl (hts _ m_070795bc) (fun _ h9 => h9) (xb_d D_Checker_countOf 3 rfl) ?_
    obtain ⟨b3, eb3, hw⟩ := hw
    refine xb_some eb3 ?_
    obtain ⟨hk4, hw⟩ := hw
    refine xb_getP (C := R_StackModule) (T := F_StackModule) (N := 19) hx hb 2 4 hts fin_StackModule hown hR hk4 (by decide) rfl (by decide) rfl (hts _ m_74009c24) (fun _ h9 => h9) (xb_d D_Checker_countOf 4 rfl) ?_
    obtain ⟨b5, eb5, hw⟩ := hw
    refine xb_some eb5 ?_
    obtain ⟨hk6, hw⟩ := hw
    refine xb_call0 (D := D) (A := A) (σ := σ) (h := h) (d := 2) (maxL := 1) (rest := []) (av := [.ref b5]) (fun T hT X => by obtain ⟨cb9, ra9, rb9, rc9⟩ := xb_recv (ci := 1) hR rfl hk6 (by decide); exact xt_invV X hx hown (hts _ m_c8b950b4) (hts _ m_ded65609) (hts _ m_a4161156) (xt_sigOf (hts _ m_83ba3721)) nm_Row_lines (by rw [hT]; exact ra9) rb9 rc9 (g := F0 m 35 ls [.ref b5]) rfl (argsL := []) (rest := []) rfl rfl (by rw [hb]; exact (xb_d D_Checker_countOf 5 rfl))) (ok_Row_lines l hfl D A σ b5 h _ hw) (hml.trans hl.1.symm) (by rw [hb]; exact (xb_d D_Checker_countOf 5 rfl)) (Nat.le_of_ble_eq_true rfl) (Nat.le_of_ble_eq_true rfl) (Nat.le_of_ble_eq_true rfl) (show k ≤ MC by omega) (show n ≤ MS by omega) (xt_w1 hB.1 m_83ba3721) (xt_cdOf hB.1 m_83ba3721) (hts _ m_c1bef504) hB hR hS hA (fun vv h7 H locs hq hEh7 hR hS => ?_)
    obtain ⟨r8, rfl, hw⟩ := hq
    have hw := hw hEh7
    have hE := hE.tr hEh7
    refine W.eq (g2 := F0 m 38 ls [.int r8]) rfl ?_
    exact xb_iret 0 0 hx hb hr hlocks (show k + 0 ≤ MC by omega) (show n + 0 ≤ MS by omega) hE hR hS (xb_d D_Checker_countOf 6 rfl) hw
  have hw := hw.2
  by_cases hc9 : x1 = 1
  · have hw := hw.1 hc9
    refine xt_numi hc9 ?_
    refine lv_tableIn (off := 38) (tgt := 39) hx hb (xb_d D_Checker_countOf 1 rfl) (by decide +kernel) (by decide +kernel) (by decide +kernel) (by decide) ?_
    refine lv_aload_n hx hb (xb_d D_Checker_countOf 7 rfl) rfl (lv_at hl 0 rfl) ?_
    obtain ⟨hk10, hw⟩ := hw
    refine xb_getP (C := R_Checker) (T := F_Checker) (N := 17) hx hb 4 0 hts fin_Checker hown hR hk10 (by decide) rfl (by decide) rfl (hts _ m_070795bc) (fun _ h9 => h9) (xb_d D_Checker_countOf 8 rfl) ?_
    obtain ⟨b11, eb11, hw⟩ := hw
    refine xb_some eb11 ?_
    obtain ⟨hk12, hw⟩ := hw
    refine xb_getP (C := R_StackModule) (T := F_StackModule) (N := 19) hx hb 2 5 hts fin_StackModule hown hR hk12 (by decide) rfl (by decide) rfl (hts _ m_81589b2f) (fun _ h9 => h9) (xb_d D_Checker_countOf 9 rfl) ?_
    obtain ⟨b13, eb13, hw⟩ := hw
    refine xb_some eb13 ?_
    obtain ⟨hk14, hw⟩ := hw
    refine xb_call0 (D := D) (A := A) (σ := σ) (h := h) (d := 2) (maxL := 1) (rest := []) (av := [.ref b13]) (fun T hT X => by obtain ⟨cb9, ra9, rb9, rc9⟩ := xb_recv (ci := 1) hR rfl hk14 (by decide); exact xt_invV X hx hown (hts _ m_c8b950b4) (hts _ m_ded65609) (hts _ m_a4161156) (xt_sigOf (hts _ m_83ba3721)) nm_Row_lines (by rw [hT]; exact ra9) rb9 rc9 (g := F0 m 46 ls [.ref b13]) rfl (argsL := []) (rest := []) rfl rfl (by rw [hb]; exact (xb_d D_Checker_countOf 10 rfl))) (ok_Row_lines l hfl D A σ b13 h _ hw) (hml.trans hl.1.symm) (by rw [hb]; exact (xb_d D_Checker_countOf 10 rfl)) (Nat.le_of_ble_eq_true rfl) (Nat.le_of_ble_eq_true rfl) (Nat.le_of_ble_eq_true rfl) (show k ≤ MC by omega) (show n ≤ MS by omega) (xt_w1 hB.1 m_83ba3721) (xt_cdOf hB.1 m_83ba3721) (hts _ m_c1bef504) hB hR hS hA (fun vv h15 H locs hq hEh15 hR hS => ?_)
    obtain ⟨r16, rfl, hw⟩ := hq
    have hw := hw hEh15
    have hE := hE.tr hEh15
    refine W.eq (g2 := F0 m 49 ls [.int r16]) rfl ?_
    exact xb_iret 0 0 hx hb hr hlocks (show k + 0 ≤ MC by omega) (show n + 0 ≤ MS by omega) hE hR hS (xb_d D_Checker_countOf 11 rfl) hw
  have hw := hw.2
  by_cases hc17 : x1 = 2
  · have hw := hw.1 hc17
    refine xt_numi hc17 ?_
    refine lv_tableIn (off := 49) (tgt := 50) hx hb (xb_d D_Checker_countOf 1 rfl) (by decide +kernel) (by decide +kernel) (by decide +kernel) (by decide) ?_
    refine lv_aload_n hx hb (xb_d D_Checker_countOf 12 rfl) rfl (lv_at hl 0 rfl) ?_
    obtain ⟨hk18, hw⟩ := hw
    refine xb_getP (C := R_Checker) (T := F_Checker) (N := 17) hx hb 4 0 hts fin_Checker hown hR hk18 (by decide) rfl (by decide) rfl (hts _ m_070795bc) (fun _ h9 => h9) (xb_d D_Checker_countOf 13 rfl) ?_
    obtain ⟨b19, eb19, hw⟩ := hw
    refine xb_some eb19 ?_
    obtain ⟨hk20, hw⟩ := hw
    refine xb_getP (C := R_StackModule) (T := F_StackModule) (N := 19) hx hb 2 6 hts fin_StackModule hown hR hk20 (by decide) rfl (by decide) rfl (hts _ m_f104cb1a) (fun _ h9 => h9) (xb_d D_Checker_countOf 14 rfl) ?_
    obtain ⟨b21, eb21, hw⟩ := hw
    refine xb_some eb21 ?_
    obtain ⟨hk22, hw⟩ := hw
    refine xb_call0 (D := D) (A := A) (σ := σ) (h := h) (d := 2) (maxL := 1) (rest := []) (av := [.ref b21]) (fun T hT X => by obtain ⟨cb9, ra9, rb9, rc9⟩ := xb_recv (ci := 1) hR rfl hk22 (by decide); exact xt_invV X hx hown (hts _ m_c8b950b4) (hts _ m_ded65609) (hts _ m_a4161156) (xt_sigOf (hts _ m_83ba3721)) nm_Row_lines (by rw [hT]; exact ra9) rb9 rc9 (g := F0 m 57 ls [.ref b21]) rfl (argsL := []) (rest := []) rfl rfl (by rw [hb]; exact (xb_d D_Checker_countOf 15 rfl))) (ok_Row_lines l hfl D A σ b21 h _ hw) (hml.trans hl.1.symm) (by rw [hb]; exact (xb_d D_Checker_countOf 15 rfl)) (Nat.le_of_ble_eq_true rfl) (Nat.le_of_ble_eq_true rfl) (Nat.le_of_ble_eq_true rfl) (show k ≤ MC by omega) (show n ≤ MS by omega) (xt_w1 hB.1 m_83ba3721) (xt_cdOf hB.1 m_83ba3721) (hts _ m_c1bef504) hB hR hS hA (fun vv h23 H locs hq hEh23 hR hS => ?_)
    obtain ⟨r24, rfl, hw⟩ := hq
    have hw := hw hEh23
    have hE := hE.tr hEh23
    refine W.eq (g2 := F0 m 60 ls [.int r24]) rfl ?_
    exact xb_iret 0 0 hx hb hr hlocks (show k + 0 ≤ MC by omega) (show n + 0 ≤ MS by omega) hE hR hS (xb_d D_Checker_countOf 16 rfl) hw
  have hw := hw.2
  have hw := hw hc1 hc9 hc17
  refine lv_tableOut (tgt := 61) hx hb (xb_d D_Checker_countOf 1 rfl) (by have a0 := xb_nl (0) 0 (by decide) hc1; have a1 := xb_nl (1) 1 (by decide) hc9; have a2 := xb_nl (2) 2 (by decide) hc17; omega) (by decide) ?_
  refine lv_aload_n hx hb (xb_d D_Checker_countOf 17 rfl) rfl (lv_at hl 0 rfl) ?_
  obtain ⟨hk25, hw⟩ := hw
  refine xb_getP (C := R_Checker) (T := F_Checker) (N := 17) hx hb 4 0 hts fin_Checker hown hR hk25 (by decide) rfl (by decide) rfl (hts _ m_070795bc) (fun _ h9 => h9) (xb_d D_Checker_countOf 18 rfl) ?_
  obtain ⟨b26, eb26, hw⟩ := hw
  refine xb_some eb26 ?_
  obtain ⟨hk27, hw⟩ := hw
  refine xb_getP (C := R_StackModule) (T := F_StackModule) (N := 19) hx hb 2 7 hts fin_StackModule hown hR hk27 (by decide) rfl (by decide) rfl (hts _ m_d3e8f814) (fun _ h9 => h9) (xb_d D_Checker_countOf 19 rfl) ?_
  obtain ⟨b28, eb28, hw⟩ := hw
  refine xb_some eb28 ?_
  obtain ⟨hk29, hw⟩ := hw
  refine xb_call0 (D := D) (A := A) (σ := σ) (h := h) (d := 2) (maxL := 1) (rest := []) (av := [.ref b28]) (fun T hT X => by obtain ⟨cb9, ra9, rb9, rc9⟩ := xb_recv (ci := 1) hR rfl hk29 (by decide); exact xt_invV X hx hown (hts _ m_c8b950b4) (hts _ m_ded65609) (hts _ m_a4161156) (xt_sigOf (hts _ m_83ba3721)) nm_Row_lines (by rw [hT]; exact ra9) rb9 rc9 (g := F0 m 68 ls [.ref b28]) rfl (argsL := []) (rest := []) rfl rfl (by rw [hb]; exact (xb_d D_Checker_countOf 20 rfl))) (ok_Row_lines l hfl D A σ b28 h _ hw) (hml.trans hl.1.symm) (by rw [hb]; exact (xb_d D_Checker_countOf 20 rfl)) (Nat.le_of_ble_eq_true rfl) (Nat.le_of_ble_eq_true rfl) (Nat.le_of_ble_eq_true rfl) (show k ≤ MC by omega) (show n ≤ MS by omega) (xt_w1 hB.1 m_83ba3721) (xt_cdOf hB.1 m_83ba3721) (hts _ m_c1bef504) hB hR hS hA (fun vv h30 H locs hq hEh30 hR hS => ?_)
  obtain ⟨r31, rfl, hw⟩ := hq
  have hw := hw hEh30
  have hE := hE.tr hEh30
  refine W.eq (g2 := F0 m 71 ls [.int r31]) rfl ?_
  exact xb_iret 0 0 hx hb hr hlocks (show k + 0 ≤ MC by omega) (show n + 0 ≤ MS by omega) hE hR hS (xb_d D_Checker_countOf 21 rfl) hw

set_option maxRecDepth 100000 in
def T_Checker_require : List (Nat × Instr × Nat) := [(0, .iload_n 1, 1), (1, .ifCond .ne 15, 3), (4, .aload_n 0, 1), (5, .getfield 38, 3), (8, .iload_n 2, 1), (9, .aload_n 0, 1), (10, .getfield 196, 3), (13, .invokevirtual 94, 3), (16, .return_, 1)]
theorem D_Checker_require : ∀ q ∈ T_Checker_require, decode b_Checker_require q.1 = .ok (q.2.1, q.2.2) := by decide +kernel

set_option maxHeartbeats 4000000 in
set_option maxRecDepth 100000 in
theorem am_Checker_require_L16 (l : Launch) (hfl : l.flags = pinnedFlags ++ [noTraceFlag]) (D : va_G) (A : Nat → Prop) (σ MC MS : Nat) (h0 : xb_H) (Qr : xb_H → Nat → Nat → Prop) (Qt : String → xb_H → Nat → Nat → Prop) (h : xb_H) (bc : Nat) (bs : Nat) (hw : w_Checker_require_L16 Qr Qt h bc bs) : xb_am l D A σ 3 MC MS h0 (fun v h bc bs => v = none ∧ Qr h bc bs) Qt y_Checker_require.cls y_Checker_require.name b_Checker_require 3 ([] : List ExceptionTableEntry) none 16 [] [] h bc bs := by
  unfold w_Checker_require_L16 at hw
  intro p e s m args below meth c hC H locs ls k n hE hl hR hS hk hn
  obtain ⟨hx, hb, hown, hlocks, htab, hml, hr, hB, hA, hnm⟩ := id hC
  have hts := hB.1.1.at args
  exact xb_vret bc bs hx hb hr hlocks (show k + bc ≤ MC by omega) (show n + bs ≤ MS by omega) hE hR hS (xb_d D_Checker_require 8 rfl) hw

set_option maxHeartbeats 4000000 in
set_option maxRecDepth 100000 in
theorem ok_Checker_require (l : Launch) (hfl : l.flags = pinnedFlags ++ [noTraceFlag]) (D : va_G) (A : Nat → Prop) (σ : Nat) (x0 : Nat) (x1 : Int32) (x2 : Int32) (h : xb_H) (bc : Nat) (bs : Nat) (Qr : xb_H → Nat → Nat → Prop) (Qt : String → xb_H → Nat → Nat → Prop) (hw : w_Checker_require x0 x1 x2 h bc bs Qr Qt) : xb_Met l y_Checker_require [.code y_Checker_require b_Checker_require 3 none] (xb_rm 3 bc bs) (xb_Pc D A σ h [.ref x0, .int x1, .int x2]) (xb_Qc D A h bc bs (fun v h bc bs => v = none ∧ Qr h bc bs) Qt) A := by
  refine xb_ofAm (cc := b_Checker_require) (by decide) (Nat.le_of_ble_eq_true rfl) ?_
  unfold w_Checker_require at hw
  show xb_am l D A σ 3 bc bs h (fun v h bc bs => v = none ∧ Qr h bc bs) Qt y_Checker_require.cls y_Checker_require.name b_Checker_require 3 ([] : List ExceptionTableEntry) none 0 [(0, .ref x0), (1, .int x1), (2, .int x2)] [] h bc bs
  obtain ⟨MC, hMC⟩ : ∃ x, x = bc := ⟨_, rfl⟩
  obtain ⟨MS, hMS⟩ : ∃ x, x = bs := ⟨_, rfl⟩
  rw [show xb_am l D A σ 3 bc bs = xb_am l D A σ 3 MC MS by rw [hMC, hMS]]
  obtain ⟨h0, hh0⟩ : ∃ x, x = h := ⟨_, rfl⟩
  rw [show xb_am l D A σ 3 MC MS h = xb_am l D A σ 3 MC MS h0 by rw [hh0]]
  intro p e s m args below meth c hC H locs ls k n hE hl hR hS hk hn
  obtain ⟨hx, hb, hown, hlocks, htab, hml, hr, hB, hA, hnm⟩ := id hC
  have hts := hB.1.1.at args
  refine lv_iload_n hx hb (xb_d D_Checker_require 0 rfl) rfl (lv_at hl 1 rfl) ?_
  refine lv_if_ne (tgt := 16) hx hb (xb_d D_Checker_require 1 rfl) rfl (fun hc1 => ?_) (fun hc1 => ?_)
  · have hw := hw.1 hc1
    exact am_Checker_require_L16 l hfl D A σ MC MS h0 Qr Qt h bc bs hw p e s m args below meth c hC H locs ls k n hE (lv_sub hl [] rfl) hR hS (by omega) (by omega)
  · have hw := hw.2 hc1
    refine lv_aload_n hx hb (xb_d D_Checker_require 2 rfl) rfl (lv_at hl 0 rfl) ?_
    obtain ⟨hk2, hw⟩ := hw
    refine xb_getP (C := R_Checker) (T := F_Checker) (N := 17) hx hb 4 0 hts fin_Checker hown hR hk2 (by decide) rfl (by decide) rfl (hts _ m_070795bc) (fun _ h9 => h9) (xb_d D_Checker_require 3 rfl) ?_
    obtain ⟨b3, eb3, hw⟩ := hw
    refine xb_some eb3 ?_
    refine lv_iload_n hx hb (xb_d D_Checker_require 4 rfl) rfl (lv_at hl 2 rfl) ?_
    refine lv_aload_n hx hb (xb_d D_Checker_require 5 rfl) rfl (lv_at hl 0 rfl) ?_
    refine xb_getI (C := R_Checker) (T := F_Checker) (N := 17) hx hb 4 9 hts fin_Checker hown hR hk2 (by decide) rfl (by decide) rfl (hts _ m_28193d38) (fun _ h9 => h9) (xb_d D_Checker_require 6 rfl) ?_
    obtain ⟨hk4, hw⟩ := hw
    refine xb_call (D := D) (A := A) (σ := σ) (h := h) (d := 2) (mc := bc) (ms := bs) (maxL := 3) (rest := []) (av := [.ref b3, .int x2, .int (xb_i h x0 9)]) (fun T hT X => by obtain ⟨cb9, ra9, rb9, rc9⟩ := xb_recv (ci := 2) hR rfl hk4 (by decide); exact xt_invV X hx hown (hts _ m_1d37521a) (hts _ m_865d5b07) (hts _ m_113f8f75) (xt_sigOf (hts _ m_73e65e5f)) nm_StackModule_fail (by rw [hT]; exact ra9) rb9 rc9 (g := F0 m 13 ls [.int (xb_i h x0 9), .int x2, .ref b3]) rfl (argsL := [.int x2, .int (xb_i h x0 9)]) (rest := []) rfl rfl (by rw [hb]; exact (xb_d D_Checker_require 7 rfl))) (ok_StackModule_fail l hfl D A σ b3 x2 (xb_i h x0 9) h bc bs _ _ hw) (hml.trans hl.1.symm) (by rw [hb]; exact (xb_d D_Checker_require 7 rfl)) (Nat.le_of_ble_eq_true rfl) (Nat.le_of_ble_eq_true rfl) (Nat.le_of_ble_eq_true rfl) (show k + bc ≤ MC by omega) (show n + bs ≤ MS by omega) (xt_w1 hB.1 m_73e65e5f) (xt_cdOf hB.1 m_73e65e5f) (hts _ m_9c375545) hB hR hS hA (fun vv h5 bc6 bs6 kk6 nn6 H locs hk6 hn6 hq hEh5 hR hS => ?_) (fun XX ax h5 bc6 bs6 kk6 nn6 H locs hk6 hn6 hq hEh5 hex hR hS => ?_)
    · obtain ⟨rfl, hw⟩ := hq
      have hw := hw hEh5
      have hE := hE.tr hEh5
      refine W.eq (g2 := F0 m 16 ls []) rfl ?_
      exact am_Checker_require_L16 l hfl D A σ MC MS h0 Qr Qt h5 bc6 bs6 hw p e s m args below meth c hC H locs ls (k + kk6) (n + nn6) hE (lv_sub hl [] rfl) hR hS (by omega) (by omega)
    · exact xb_pass hlocks (fun x hx9 => by rw [htab] at hx9; first | (cases hx9; done) | (simp [tableOf] at hx9; subst hx9; decide) | (simp [tableOf] at hx9; rcases hx9 with rfl | rfl <;> decide) | (simp [tableOf] at hx9; rcases hx9 with rfl | rfl | rfl <;> decide)) (show (k + kk6) + bc6 ≤ MC by omega) (show (n + nn6) + bs6 ≤ MS by omega) (hE.tr hEh5) hR hS hex hq

set_option maxRecDepth 100000 in
def T_Checker_take : List (Nat × Instr × Nat) := [(0, .iload_n 1, 1), (1, .bipush 64, 2), (3, .if_icmp .ne 6, 3), (6, .bipush 64, 2), (8, .ireturn, 1), (9, .aload_n 0, 1), (10, .getfield 187, 3), (13, .aload_n 0, 1), (14, .getfield 31, 3), (17, .aload_n 0, 1), (18, .getfield 193, 3), (21, .iconst 1, 1), (22, .isub, 1), (23, .iaload, 1), (24, .if_icmp .gt 32, 3), (27, .aload_n 0, 1), (28, .getfield 34, 3), (31, .aload_n 0, 1), (32, .getfield 193, 3), (35, .iconst 1, 1), (36, .isub, 1), (37, .baload, 1), (38, .ifCond .ne 16, 3), (41, .aload_n 0, 1), (42, .getfield 38, 3), (45, .bipush 21, 2), (47, .aload_n 0, 1), (48, .getfield 196, 3), (51, .invokevirtual 94, 3), (54, .iconst 0, 1), (55, .ireturn, 1), (56, .aload_n 0, 1), (57, .dup, 1), (58, .getfield 187, 3), (61, .iconst 1, 1), (62, .isub, 1), (63, .putfield 187, 3), (66, .aload_n 0, 1), (67, .getfield 9, 3), (70, .aload_n 0, 1), (71, .getfield 187, 3), (74, .baload, 1), (75, .istore_n 2, 1), (76, .iload_n 2, 1), (77, .iload_n 1, 1), (78, .if_icmp .eq 24, 3), (81, .iload_n 2, 1), (82, .ifCond .eq 20, 3), (85, .iload_n 1, 1), (86, .ifCond .eq 16, 3), (89, .aload_n 0, 1), (90, .getfield 38, 3), (93, .bipush 21, 2), (95, .aload_n 0, 1), (96, .getfield 196, 3), (99, .invokevirtual 94, 3), (102, .iload_n 2, 1), (103, .ireturn, 1)]
theorem D_Checker_take : ∀ q ∈ T_Checker_take, decode b_Checker_take q.1 = .ok (q.2.1, q.2.2) := by decide +kernel

set_option maxHeartbeats 4000000 in
set_option maxRecDepth 100000 in
theorem am_Checker_take_L102 (l : Launch) (hfl : l.flags = pinnedFlags ++ [noTraceFlag]) (D : va_G) (A : Nat → Prop) (σ MC MS : Nat) (h0 : xb_H) (Qr : Int32 → xb_H → Nat → Nat → Prop) (Qt : String → xb_H → Nat → Nat → Prop) (x2 : Int32) (h : xb_H) (bc : Nat) (bs : Nat) (hw : w_Checker_take_L102 Qr Qt x2 h bc bs) : xb_am l D A σ 3 MC MS h0 (fun v h bc bs => ∃ r, v = some (.int r) ∧ Qr r h bc bs) Qt y_Checker_take.cls y_Checker_take.name b_Checker_take 3 ([] : List ExceptionTableEntry) (some .int) 102 [(2, .int x2)] [] h bc bs := by
  unfold w_Checker_take_L102 at hw
  intro p e s m args below meth c hC H locs ls k n hE hl hR hS hk hn
  obtain ⟨hx, hb, hown, hlocks, htab, hml, hr, hB, hA, hnm⟩ := id hC
  have hts := hB.1.1.at args
  refine lv_iload_n hx hb (xb_d D_Checker_take 56 rfl) rfl (lv_at hl 0 rfl) ?_
  exact xb_iret bc bs hx hb hr hlocks (show k + bc ≤ MC by omega) (show n + bs ≤ MS by omega) hE hR hS (xb_d D_Checker_take 57 rfl) hw

set_option maxHeartbeats 4000000 in
set_option maxRecDepth 100000 in
theorem am_Checker_take_L54 (l : Launch) (hfl : l.flags = pinnedFlags ++ [noTraceFlag]) (D : va_G) (A : Nat → Prop) (σ MC MS : Nat) (h0 : xb_H) (Qr : Int32 → xb_H → Nat → Nat → Prop) (Qt : String → xb_H → Nat → Nat → Prop) (h : xb_H) (bc : Nat) (bs : Nat) (hw : w_Checker_take_L54 Qr Qt h bc bs) : xb_am l D A σ 3 MC MS h0 (fun v h bc bs => ∃ r, v = some (.int r) ∧ Qr r h bc bs) Qt y_Checker_take.cls y_Checker_take.name b_Checker_take 3 ([] : List ExceptionTableEntry) (some .int) 54 [] [] h bc bs := by
  unfold w_Checker_take_L54 at hw
  intro p e s m args below meth c hC H locs ls k n hE hl hR hS hk hn
  obtain ⟨hx, hb, hown, hlocks, htab, hml, hr, hB, hA, hnm⟩ := id hC
  have hts := hB.1.1.at args
  refine lv_iconst (v := 0) hx hb (xb_d D_Checker_take 29 rfl) (by decide) ?_
  exact xb_iret bc bs hx hb hr hlocks (show k + bc ≤ MC by omega) (show n + bs ≤ MS by omega) hE hR hS (xb_d D_Checker_take 30 rfl) hw

set_option maxHeartbeats 4000000 in
set_option maxRecDepth 100000 in
theorem ok_Checker_take (l : Launch) (hfl : l.flags = pinnedFlags ++ [noTraceFlag]) (D : va_G) (A : Nat → Prop) (σ : Nat) (x0 : Nat) (x1 : Int32) (h : xb_H) (bc : Nat) (bs : Nat) (Qr : Int32 → xb_H → Nat → Nat → Prop) (Qt : String → xb_H → Nat → Nat → Prop) (hw : w_Checker_take x0 x1 h bc bs Qr Qt) : xb_Met l y_Checker_take [.code y_Checker_take b_Checker_take 3 (some .int)] (xb_rm 3 bc bs) (xb_Pc D A σ h [.ref x0, .int x1]) (xb_Qc D A h bc bs (fun v h bc bs => ∃ r, v = some (.int r) ∧ Qr r h bc bs) Qt) A := by
  refine xb_ofAm (cc := b_Checker_take) (by decide) (Nat.le_of_ble_eq_true rfl) ?_
  unfold w_Checker_take at hw
  show xb_am l D A σ 3 bc bs h (fun v h bc bs => ∃ r, v = some (.int r) ∧ Qr r h bc bs) Qt y_Checker_take.cls y_Checker_take.name b_Checker_take 3 ([] : List ExceptionTableEntry) (some .int) 0 [(0, .ref x0), (1, .int x1)] [] h bc bs
  obtain ⟨MC, hMC⟩ : ∃ x, x = bc := ⟨_, rfl⟩
  obtain ⟨MS, hMS⟩ : ∃ x, x = bs := ⟨_, rfl⟩
  rw [show xb_am l D A σ 3 bc bs = xb_am l D A σ 3 MC MS by rw [hMC, hMS]]
  obtain ⟨h0, hh0⟩ : ∃ x, x = h := ⟨_, rfl⟩
  rw [show xb_am l D A σ 3 MC MS h = xb_am l D A σ 3 MC MS h0 by rw [hh0]]
  intro p e s m args below meth c hC H locs ls k n hE hl hR hS hk hn
  obtain ⟨hx, hb, hown, hlocks, htab, hml, hr, hB, hA, hnm⟩ := id hC
  have hts := hB.1.1.at args
  refine lv_iload_n hx hb (xb_d D_Checker_take 0 rfl) rfl (lv_at hl 1 rfl) ?_
  refine lv_bipush (v := 64) hx hb (xb_d D_Checker_take 1 rfl) (by decide) ?_
  refine lv_icmp_ne (tgt := 9) hx hb (xb_d D_Checker_take 2 rfl) rfl (fun hc1 => ?_) (fun hc1 => ?_)
  · have hw := hw.1 hc1
    refine lv_aload_n hx hb (xb_d D_Checker_take 5 rfl) rfl (lv_at hl 0 rfl) ?_
    obtain ⟨hk2, hw⟩ := hw
    refine xb_getI (C := R_Checker) (T := F_Checker) (N := 17) hx hb 4 4 hts fin_Checker hown hR hk2 (by decide) rfl (by decide) rfl (hts _ m_b89190d5) (fun _ h9 => h9) (xb_d D_Checker_take 6 rfl) ?_
    refine lv_aload_n hx hb (xb_d D_Checker_take 7 rfl) rfl (lv_at hl 0 rfl) ?_
    refine xb_getP (C := R_Checker) (T := F_Checker) (N := 17) hx hb 4 14 hts fin_Checker hown hR hk2 (by decide) rfl (by decide) rfl (hts _ m_a3869304) (fun _ h9 => h9) (xb_d D_Checker_take 8 rfl) ?_
    obtain ⟨b3, eb3, hw⟩ := hw
    refine xb_some eb3 ?_
    refine lv_aload_n hx hb (xb_d D_Checker_take 9 rfl) rfl (lv_at hl 0 rfl) ?_
    refine xb_getI (C := R_Checker) (T := F_Checker) (N := 17) hx hb 4 16 hts fin_Checker hown hR hk2 (by decide) rfl (by decide) rfl (hts _ m_47f80c41) (fun _ h9 => h9) (xb_d D_Checker_take 10 rfl) ?_
    refine lv_iconst (v := 1) hx hb (xb_d D_Checker_take 11 rfl) (by decide) ?_
    refine lv_isub hx hb (xb_d D_Checker_take 12 rfl) ?_
    obtain ⟨hk5, hw⟩ := hw
    obtain ⟨hi4, hw⟩ := hw
    refine xb_iald hx hb hR hk5 hi4 (xb_d D_Checker_take 13 rfl) ?_
    refine lv_icmp_gt (tgt := 56) hx hb (xb_d D_Checker_take 14 rfl) rfl (fun hc6 => ?_) (fun hc6 => ?_)
    · have hw := hw.1 hc6
      refine lv_aload_n hx hb (xb_d D_Checker_take 31 rfl) rfl (lv_at hl 0 rfl) ?_
      refine lv_dup hx hb (xb_d D_Checker_take 32 rfl) rfl ?_
      refine xb_getI (C := R_Checker) (T := F_Checker) (N := 17) hx hb 4 4 hts fin_Checker hown hR hk2 (by decide) rfl (by decide) rfl (hts _ m_b89190d5) (fun _ h9 => h9) (xb_d D_Checker_take 33 rfl) ?_
      refine lv_iconst (v := 1) hx hb (xb_d D_Checker_take 34 rfl) (by decide) ?_
      refine lv_isub hx hb (xb_d D_Checker_take 35 rfl) ?_
      refine xb_putI (C := R_Checker) (T := F_Checker) (N := 17) (ty := .int) (x := ((xb_i h x0 4) - 1)) hx hb 4 4 hts fin_Checker t_Checker t_Checker_ok n_Checker hown hR hS hk2 (by decide) rfl (by decide) rfl (hts _ m_b89190d5) (fun _ h9 => h9) rfl (by decide +kernel) rfl rfl (xb_d D_Checker_take 36 rfl) (fun H locs hR hS => ?_)
      obtain ⟨h7, eh7⟩ : ∃ x : xb_H, x = xb_I h x0 4 ((xb_i h x0 4) - 1) := ⟨_, rfl⟩
      rw [← eh7] at hR
      have hw := hw h7 eh7
      have hE : xb_ext h0 h7 := by rw [eh7]; exact hE
      refine lv_aload_n hx hb (xb_d D_Checker_take 37 rfl) rfl (lv_at hl 0 rfl) ?_
      have hk2 : xb_k h7 x0 = 5 := by rw [eh7]; exact hk2
      refine xb_getP (C := R_Checker) (T := F_Checker) (N := 17) hx hb 4 3 hts fin_Checker hown hR hk2 (by decide) rfl (by decide) rfl (hts _ m_9eace759) (fun _ h9 => h9) (xb_d D_Checker_take 38 rfl) ?_
      obtain ⟨b8, eb8, hw⟩ := hw
      refine xb_some eb8 ?_
      refine lv_aload_n hx hb (xb_d D_Checker_take 39 rfl) rfl (lv_at hl 0 rfl) ?_
      refine xb_getI (C := R_Checker) (T := F_Checker) (N := 17) hx hb 4 4 hts fin_Checker hown hR hk2 (by decide) rfl (by decide) rfl (hts _ m_b89190d5) (fun _ h9 => h9) (xb_d D_Checker_take 40 rfl) ?_
      obtain ⟨hk10, hw⟩ := hw
      obtain ⟨hi9, hw⟩ := hw
      refine xb_bald hx hb hR hk10 hi9 (xb_d D_Checker_take 41 rfl) ?_
      obtain ⟨v11, ev11⟩ : ∃ x : Int32, x = (xb_i h7 b8 (Int32.toNatClampNeg (xb_i h7 x0 4))) := ⟨_, rfl⟩
      have hw := hw v11 ev11
      refine xt_numi (y := v11) ev11.symm ?_
      refine lv_istore_n hx hb (xb_d D_Checker_take 42 rfl) rfl hl (by decide) rfl (fun ls hl => ?_)
      have hl : lv_has ls 3 [(2, .int v11), (0, .ref x0), (1, .int x1)] := hl
      refine lv_iload_n hx hb (xb_d D_Checker_take 43 rfl) rfl (lv_at hl 0 rfl) ?_
      refine lv_iload_n hx hb (xb_d D_Checker_take 44 rfl) rfl (lv_at hl 2 rfl) ?_
      refine lv_icmp_eq (tgt := 102) hx hb (xb_d D_Checker_take 45 rfl) rfl (fun hc12 => ?_) (fun hc12 => ?_)
      · have hw := hw.1 hc12
        exact am_Checker_take_L102 l hfl D A σ MC MS h0 Qr Qt v11 h7 bc bs hw p e s m args below meth c hC H locs ls k n hE (lv_sub hl [0] rfl) hR hS (by omega) (by omega)
      · have hw := hw.2 hc12
        refine lv_iload_n hx hb (xb_d D_Checker_take 46 rfl) rfl (lv_at hl 0 rfl) ?_
        refine lv_if_eq (tgt := 102) hx hb (xb_d D_Checker_take 47 rfl) rfl (fun hc13 => ?_) (fun hc13 => ?_)
        · have hw := hw.1 hc13
          exact am_Checker_take_L102 l hfl D A σ MC MS h0 Qr Qt v11 h7 bc bs hw p e s m args below meth c hC H locs ls k n hE (lv_sub hl [0] rfl) hR hS (by omega) (by omega)
        · have hw := hw.2 hc13
          refine lv_iload_n hx hb (xb_d D_Checker_take 48 rfl) rfl (lv_at hl 2 rfl) ?_
          refine lv_if_eq (tgt := 102) hx hb (xb_d D_Checker_take 49 rfl) rfl (fun hc14 => ?_) (fun hc14 => ?_)
          · have hw := hw.1 hc14
            exact am_Checker_take_L102 l hfl D A σ MC MS h0 Qr Qt v11 h7 bc bs hw p e s m args below meth c hC H locs ls k n hE (lv_sub hl [0] rfl) hR hS (by omega) (by omega)
          · have hw := hw.2 hc14
            refine lv_aload_n hx hb (xb_d D_Checker_take 50 rfl) rfl (lv_at hl 1 rfl) ?_
            refine xb_getP (C := R_Checker) (T := F_Checker) (N := 17) hx hb 4 0 hts fin_Checker hown hR hk2 (by decide) rfl (by decide) rfl (hts _ m_070795bc) (fun _ h9 => h9) (xb_d D_Checker_take 51 rfl) ?_
            obtain ⟨b15, eb15, hw⟩ := hw
            refine xb_some eb15 ?_
            refine lv_bipush (v := 21) hx hb (xb_d D_Checker_take 52 rfl) (by decide) ?_
            refine lv_aload_n hx hb (xb_d D_Checker_take 53 rfl) rfl (lv_at hl 1 rfl) ?_
            refine xb_getI (C := R_Checker) (T := F_Checker) (N := 17) hx hb 4 9 hts fin_Checker hown hR hk2 (by decide) rfl (by decide) rfl (hts _ m_28193d38) (fun _ h9 => h9) (xb_d D_Checker_take 54 rfl) ?_
            obtain ⟨hk16, hw⟩ := hw
            refine xb_call (D := D) (A := A) (σ := σ) (h := h7) (d := 2) (mc := bc) (ms := bs) (maxL := 3) (rest := []) (av := [.ref b15, .int 21, .int (xb_i h7 x0 9)]) (fun T hT X => by obtain ⟨cb9, ra9, rb9, rc9⟩ := xb_recv (ci := 2) hR rfl hk16 (by decide); exact xt_invV X hx hown (hts _ m_1d37521a) (hts _ m_865d5b07) (hts _ m_113f8f75) (xt_sigOf (hts _ m_73e65e5f)) nm_StackModule_fail (by rw [hT]; exact ra9) rb9 rc9 (g := F0 m 99 ls [.int (xb_i h7 x0 9), .int 21, .ref b15]) rfl (argsL := [.int 21, .int (xb_i h7 x0 9)]) (rest := []) rfl rfl (by rw [hb]; exact (xb_d D_Checker_take 55 rfl))) (ok_StackModule_fail l hfl D A σ b15 21 (xb_i h7 x0 9) h7 bc bs _ _ hw) (hml.trans hl.1.symm) (by rw [hb]; exact (xb_d D_Checker_take 55 rfl)) (Nat.le_of_ble_eq_true rfl) (Nat.le_of_ble_eq_true rfl) (Nat.le_of_ble_eq_true rfl) (show k + bc ≤ MC by omega) (show n + bs ≤ MS by omega) (xt_w1 hB.1 m_73e65e5f) (xt_cdOf hB.1 m_73e65e5f) (hts _ m_9c375545) hB hR hS hA (fun vv h17 bc18 bs18 kk18 nn18 H locs hk18 hn18 hq hEh17 hR hS => ?_) (fun XX ax h17 bc18 bs18 kk18 nn18 H locs hk18 hn18 hq hEh17 hex hR hS => ?_)
            · obtain ⟨rfl, hw⟩ := hq
              have hw := hw hEh17
              have hE := hE.tr hEh17
              refine W.eq (g2 := F0 m 102 ls []) rfl ?_
              exact am_Checker_take_L102 l hfl D A σ MC MS h0 Qr Qt v11 h17 bc18 bs18 hw p e s m args below meth c hC H locs ls (k + kk18) (n + nn18) hE (lv_sub hl [0] rfl) hR hS (by omega) (by omega)
            · exact xb_pass hlocks (fun x hx9 => by rw [htab] at hx9; first | (cases hx9; done) | (simp [tableOf] at hx9; subst hx9; decide) | (simp [tableOf] at hx9; rcases hx9 with rfl | rfl <;> decide) | (simp [tableOf] at hx9; rcases hx9 with rfl | rfl | rfl <;> decide)) (show (k + kk18) + bc18 ≤ MC by omega) (show (n + nn18) + bs18 ≤ MS by omega) (hE.tr hEh17) hR hS hex hq
    · have hw := hw.2 hc6
      refine lv_aload_n hx hb (xb_d D_Checker_take 15 rfl) rfl (lv_at hl 0 rfl) ?_
      refine xb_getP (C := R_Checker) (T := F_Checker) (N := 17) hx hb 4 15 hts fin_Checker hown hR hk2 (by decide) rfl (by decide) rfl (hts _ m_b845fcd1) (fun _ h9 => h9) (xb_d D_Checker_take 16 rfl) ?_
      obtain ⟨b19, eb19, hw⟩ := hw
      refine xb_some eb19 ?_
      refine lv_aload_n hx hb (xb_d D_Checker_take 17 rfl) rfl (lv_at hl 0 rfl) ?_
      refine xb_getI (C := R_Checker) (T := F_Checker) (N := 17) hx hb 4 16 hts fin_Checker hown hR hk2 (by decide) rfl (by decide) rfl (hts _ m_47f80c41) (fun _ h9 => h9) (xb_d D_Checker_take 18 rfl) ?_
      refine lv_iconst (v := 1) hx hb (xb_d D_Checker_take 19 rfl) (by decide) ?_
      refine lv_isub hx hb (xb_d D_Checker_take 20 rfl) ?_
      obtain ⟨hk21, hw⟩ := hw
      obtain ⟨hi20, hw⟩ := hw
      refine xb_zald hx hb hR hk21 hi20 (xb_d D_Checker_take 21 rfl) ?_
      refine lv_if_ne (tgt := 54) hx hb (xb_d D_Checker_take 22 rfl) rfl (fun hc22 => ?_) (fun hc22 => ?_)
      · have hw := hw.1 hc22
        exact am_Checker_take_L54 l hfl D A σ MC MS h0 Qr Qt h bc bs hw p e s m args below meth c hC H locs ls k n hE (lv_sub hl [] rfl) hR hS (by omega) (by omega)
      · have hw := hw.2 hc22
        refine lv_aload_n hx hb (xb_d D_Checker_take 23 rfl) rfl (lv_at hl 0 rfl) ?_
        refine xb_getP (C := R_Checker) (T := F_Checker) (N := 17) hx hb 4 0 hts fin_Checker hown hR hk2 (by decide) rfl (by decide) rfl (hts _ m_070795bc) (fun _ h9 => h9) (xb_d D_Checker_take 24 rfl) ?_
        obtain ⟨b23, eb23, hw⟩ := hw
        refine xb_some eb23 ?_
        refine lv_bipush (v := 21) hx hb (xb_d D_Checker_take 25 rfl) (by decide) ?_
        refine lv_aload_n hx hb (xb_d D_Checker_take 26 rfl) rfl (lv_at hl 0 rfl) ?_
        refine xb_getI (C := R_Checker) (T := F_Checker) (N := 17) hx hb 4 9 hts fin_Checker hown hR hk2 (by decide) rfl (by decide) rfl (hts _ m_28193d38) (fun _ h9 => h9) (xb_d D_Checker_take 27 rfl) ?_
        obtain ⟨hk24, hw⟩ := hw
        refine xb_call (D := D) (A := A) (σ := σ) (h := h) (d := 2) (mc := bc) (ms := bs) (maxL := 3) (rest := []) (av := [.ref b23, .int 21, .int (xb_i h x0 9)]) (fun T hT X => by obtain ⟨cb9, ra9, rb9, rc9⟩ := xb_recv (ci := 2) hR rfl hk24 (by decide); exact xt_invV X hx hown (hts _ m_1d37521a) (hts _ m_865d5b07) (hts _ m_113f8f75) (xt_sigOf (hts _ m_73e65e5f)) nm_StackModule_fail (by rw [hT]; exact ra9) rb9 rc9 (g := F0 m 51 ls [.int (xb_i h x0 9), .int 21, .ref b23]) rfl (argsL := [.int 21, .int (xb_i h x0 9)]) (rest := []) rfl rfl (by rw [hb]; exact (xb_d D_Checker_take 28 rfl))) (ok_StackModule_fail l hfl D A σ b23 21 (xb_i h x0 9) h bc bs _ _ hw) (hml.trans hl.1.symm) (by rw [hb]; exact (xb_d D_Checker_take 28 rfl)) (Nat.le_of_ble_eq_true rfl) (Nat.le_of_ble_eq_true rfl) (Nat.le_of_ble_eq_true rfl) (show k + bc ≤ MC by omega) (show n + bs ≤ MS by omega) (xt_w1 hB.1 m_73e65e5f) (xt_cdOf hB.1 m_73e65e5f) (hts _ m_9c375545) hB hR hS hA (fun vv h25 bc26 bs26 kk26 nn26 H locs hk26 hn26 hq hEh25 hR hS => ?_) (fun XX ax h25 bc26 bs26 kk26 nn26 H locs hk26 hn26 hq hEh25 hex hR hS => ?_)
        · obtain ⟨rfl, hw⟩ := hq
          have hw := hw hEh25
          have hE := hE.tr hEh25
          refine W.eq (g2 := F0 m 54 ls []) rfl ?_
          exact am_Checker_take_L54 l hfl D A σ MC MS h0 Qr Qt h25 bc26 bs26 hw p e s m args below meth c hC H locs ls (k + kk26) (n + nn26) hE (lv_sub hl [] rfl) hR hS (by omega) (by omega)
        · exact xb_pass hlocks (fun x hx9 => by rw [htab] at hx9; first | (cases hx9; done) | (simp [tableOf] at hx9; subst hx9; decide) | (simp [tableOf] at hx9; rcases hx9 with rfl | rfl <;> decide) | (simp [tableOf] at hx9; rcases hx9 with rfl | rfl | rfl <;> decide)) (show (k + kk26) + bc26 ≤ MC by omega) (show (n + nn26) + bs26 ≤ MS by omega) (hE.tr hEh25) hR hS hex hq
  · have hw := hw.2 hc1
    refine lv_bipush (v := 64) hx hb (xb_d D_Checker_take 3 rfl) (by decide) ?_
    exact xb_iret bc bs hx hb hr hlocks (show k + bc ≤ MC by omega) (show n + bs ≤ MS by omega) hE hR hS (xb_d D_Checker_take 4 rfl) hw

theorem m_887454fc : (.methodLink "StackHost$Format" 36 Lib.Math.max.name : Cond) ∈ xt_tbl := xt_in (xt_t8 (List.mem_of_getElem? (i := 77) (by decide +kernel))) (by decide +kernel)
theorem m_3f81cba8 : (.methodLink "StackHost$Format" 30 y_Whole_zerosAbove : Cond) ∈ xt_tbl := xt_in (xt_t8 (List.mem_of_getElem? (i := 54) (by decide +kernel))) (by decide +kernel)
theorem m_a350c52f : (.static y_Whole_zerosAbove : Cond) ∈ xt_tbl := xt_in (xt_t8 (List.mem_of_getElem? (i := 55) (by decide +kernel))) (by decide +kernel)
theorem m_912e4ef6 : (.initialized "StackHost$Whole" : Cond) ∈ xt_tbl := xt_in (xt_t1 (List.mem_of_getElem? (i := 32) (by decide +kernel))) (by decide +kernel)
theorem m_041868e1 : (.code y_Whole_zerosAbove b_Whole_zerosAbove 6 (some .int) : Cond) ∈ xt_tbl := xt_in (xt_t8 (List.mem_of_getElem? (i := 56) (by decide +kernel))) (by decide +kernel)
theorem nm_Whole_zerosAbove : xt_nm y_Whole_zerosAbove 1 := ⟨by decide +kernel, by decide +kernel⟩
set_option maxRecDepth 100000 in
def T_Format_exponent : List (Nat × Instr × Nat) := [(0, .lload_n 1, 1), (1, .aload_n 0, 1), (2, .getfield 18, 3), (5, .lconst 1, 1), (6, .lsub, 1), (7, .land, 1), (8, .lstore_n 3, 1), (9, .lload_n 3, 1), (10, .aload_n 0, 1), (11, .getfield 9, 3), (14, .iconst 1, 1), (15, .isub, 1), (16, .lushr, 1), (17, .l2i, 1), (18, .istore 5, 2), (20, .iload 5, 2), (22, .ifCond .le 7, 3), (25, .iconst 0, 1), (26, .goto 15, 3), (29, .lload_n 3, 1), (30, .invokestatic 30, 3), (33, .bipush 64, 2), (35, .aload_n 0, 1), (36, .getfield 9, 3), (39, .isub, 1), (40, .isub, 1), (41, .istore 6, 2), (43, .iconst 1, 1), (44, .iload 5, 2), (46, .invokestatic 36, 3), (49, .aload_n 0, 1), (50, .getfield 15, 3), (53, .isub, 1), (54, .aload_n 0, 1), (55, .getfield 9, 3), (58, .iconst 1, 1), (59, .isub, 1), (60, .isub, 1), (61, .iload 6, 2), (63, .isub, 1), (64, .ireturn, 1)]
theorem D_Format_exponent : ∀ q ∈ T_Format_exponent, decode b_Format_exponent q.1 = .ok (q.2.1, q.2.2) := by decide +kernel

set_option maxHeartbeats 4000000 in
set_option maxRecDepth 100000 in
theorem am_Format_exponent_L41 (l : Launch) (hfl : l.flags = pinnedFlags ++ [noTraceFlag]) (D : va_G) (A : Nat → Prop) (σ MC MS : Nat) (h0 : xb_H) (Qr : Int32 → xb_H → Prop) (x0 : Nat) (x5 : Int32) (y0 : Int32) (h : xb_H) (hw : w_Format_exponent_L41 Qr x0 x5 y0 h) : xb_am l D A σ 3 MC MS h0 (fun v h _ _ => ∃ r, v = some (.int r) ∧ Qr r h) (fun _ _ _ _ => False) y_Format_exponent.cls y_Format_exponent.name b_Format_exponent 7 ([] : List ExceptionTableEntry) (some .int) 41 [(0, .ref x0), (5, .int x5)] [.int y0] h 0 0 := by
  unfold w_Format_exponent_L41 at hw
  intro p e s m args below meth c hC H locs ls k n hE hl hR hS hk hn
  obtain ⟨hx, hb, hown, hlocks, htab, hml, hr, hB, hA, hnm⟩ := id hC
  have hts := hB.1.1.at args
  refine lv_istore hx hb (xb_d D_Format_exponent 26 rfl) hl (by decide) rfl (fun ls hl => ?_)
  have hl : lv_has ls 7 [(6, .int y0), (0, .ref x0), (5, .int x5)] := hl
  refine lv_iconst (v := 1) hx hb (xb_d D_Format_exponent 27 rfl) (by decide) ?_
  refine lv_iload hx hb (xb_d D_Format_exponent 28 rfl) (lv_at hl 2 rfl) ?_
  refine va_mmax hx hb (hml.trans hl.1.symm) hown (hts _ m_887454fc) (hts _ m_80a2ec50) (hts _ m_868a9286) (hts _ m_b6349a14) (by show 1 ≤ 8 + _; omega) (Nat.le_trans (Nat.le_of_ble_eq_true rfl : _ ≤ 60) (by show 60 ≤ 120 + _; omega)) (show k ≤ MC by omega) (show n ≤ MS by omega) (xb_d D_Format_exponent 29 rfl) ?_
  refine lv_aload_n hx hb (xb_d D_Format_exponent 30 rfl) rfl (lv_at hl 1 rfl) ?_
  obtain ⟨hk1, hw⟩ := hw
  refine xb_getI (C := R_Format) (T := F_Format) (N := 5) hx hb 5 1 hts fin_Format hown hR hk1 (by decide) rfl (by decide) rfl (hts _ m_a74735c5) (fun _ h9 => h9) (xb_d D_Format_exponent 31 rfl) ?_
  refine lv_isub hx hb (xb_d D_Format_exponent 32 rfl) ?_
  refine lv_aload_n hx hb (xb_d D_Format_exponent 33 rfl) rfl (lv_at hl 1 rfl) ?_
  refine xb_getI (C := R_Format) (T := F_Format) (N := 5) hx hb 5 0 hts fin_Format hown hR hk1 (by decide) rfl (by decide) rfl (hts _ m_019aecde) (fun _ h9 => h9) (xb_d D_Format_exponent 34 rfl) ?_
  refine lv_iconst (v := 1) hx hb (xb_d D_Format_exponent 35 rfl) (by decide) ?_
  refine lv_isub hx hb (xb_d D_Format_exponent 36 rfl) ?_
  refine lv_isub hx hb (xb_d D_Format_exponent 37 rfl) ?_
  refine lv_iload hx hb (xb_d D_Format_exponent 38 rfl) (lv_at hl 0 rfl) ?_
  refine lv_isub hx hb (xb_d D_Format_exponent 39 rfl) ?_
  exact xb_iret 0 0 hx hb hr hlocks (show k + 0 ≤ MC by omega) (show n + 0 ≤ MS by omega) hE hR hS (xb_d D_Format_exponent 40 rfl) hw

set_option maxHeartbeats 4000000 in
set_option maxRecDepth 100000 in
theorem ok_Format_exponent (l : Launch) (hfl : l.flags = pinnedFlags ++ [noTraceFlag]) (D : va_G) (A : Nat → Prop) (σ : Nat) (x0 : Nat) (x1 : Int64) (h : xb_H) (Qr : Int32 → xb_H → Prop) (hw : w_Format_exponent x0 x1 h Qr) : xb_Met l y_Format_exponent [.code y_Format_exponent b_Format_exponent 7 (some .int)] (xb_rm 3 0 0) (xb_Pc D A σ h [.ref x0, .long x1]) (xb_Qc D A h 0 0 (fun v h _ _ => ∃ r, v = some (.int r) ∧ Qr r h) (fun _ _ _ _ => False)) A := by
  refine xb_ofAm (cc := b_Format_exponent) (by decide) (Nat.le_of_ble_eq_true rfl) ?_
  unfold w_Format_exponent at hw
  show xb_am l D A σ 3 0 0 h (fun v h _ _ => ∃ r, v = some (.int r) ∧ Qr r h) (fun _ _ _ _ => False) y_Format_exponent.cls y_Format_exponent.name b_Format_exponent 7 ([] : List ExceptionTableEntry) (some .int) 0 [(0, .ref x0), (1, .long x1)] [] h 0 0
  obtain ⟨MC, hMC⟩ : ∃ x, x = 0 := ⟨_, rfl⟩
  obtain ⟨MS, hMS⟩ : ∃ x, x = 0 := ⟨_, rfl⟩
  rw [show xb_am l D A σ 3 0 0 = xb_am l D A σ 3 MC MS by rw [hMC, hMS]]
  obtain ⟨h0, hh0⟩ : ∃ x, x = h := ⟨_, rfl⟩
  rw [show xb_am l D A σ 3 MC MS h = xb_am l D A σ 3 MC MS h0 by rw [hh0]]
  intro p e s m args below meth c hC H locs ls k n hE hl hR hS hk hn
  obtain ⟨hx, hb, hown, hlocks, htab, hml, hr, hB, hA, hnm⟩ := id hC
  have hts := hB.1.1.at args
  refine lv_lload_n hx hb (xb_d D_Format_exponent 0 rfl) rfl (lv_at hl 1 rfl) ?_
  refine lv_aload_n hx hb (xb_d D_Format_exponent 1 rfl) rfl (lv_at hl 0 rfl) ?_
  obtain ⟨hk1, hw⟩ := hw
  refine xb_getL (C := R_Format) (T := F_Format) (N := 5) hx hb 5 2 hts fin_Format hown hR hk1 (by decide) rfl (by decide) rfl (hts _ m_e3160854) (fun _ h9 => h9) (xb_d D_Format_exponent 2 rfl) ?_
  refine lv_lconst (v := 1) hx hb (xb_d D_Format_exponent 3 rfl) (by decide) ?_
  refine lv_lsub hx hb (xb_d D_Format_exponent 4 rfl) ?_
  refine lv_land hx hb (xb_d D_Format_exponent 5 rfl) ?_
  obtain ⟨v2, ev2⟩ : ∃ x : Int64, x = (x1 &&& ((xb_l h x0 2) - 1)) := ⟨_, rfl⟩
  have hw := hw v2 ev2
  refine xt_numl (y := v2) ev2.symm ?_
  refine lv_lstore_n hx hb (xb_d D_Format_exponent 6 rfl) rfl hl (by decide) rfl (fun ls hl => ?_)
  have hl : lv_has ls 7 [(3, .long v2), (0, .ref x0), (1, .long x1)] := hl
  refine lv_lload_n hx hb (xb_d D_Format_exponent 7 rfl) rfl (lv_at hl 0 rfl) ?_
  refine lv_aload_n hx hb (xb_d D_Format_exponent 8 rfl) rfl (lv_at hl 1 rfl) ?_
  refine xb_getI (C := R_Format) (T := F_Format) (N := 5) hx hb 5 0 hts fin_Format hown hR hk1 (by decide) rfl (by decide) rfl (hts _ m_019aecde) (fun _ h9 => h9) (xb_d D_Format_exponent 9 rfl) ?_
  refine lv_iconst (v := 1) hx hb (xb_d D_Format_exponent 10 rfl) (by decide) ?_
  refine lv_isub hx hb (xb_d D_Format_exponent 11 rfl) ?_
  refine lv_lushr (v := (xb_lushr v2 ((xb_i h x0 0) - 1))) hx hb (xb_d D_Format_exponent 12 rfl) rfl ?_
  refine lv_l2i hx hb (xb_d D_Format_exponent 13 rfl) rfl ?_
  obtain ⟨v3, ev3⟩ : ∃ x : Int32, x = (Int64.toInt32 (xb_lushr v2 ((xb_i h x0 0) - 1))) := ⟨_, rfl⟩
  have hw := hw v3 ev3
  refine xt_numi (y := v3) ev3.symm ?_
  refine lv_istore hx hb (xb_d D_Format_exponent 14 rfl) hl (by decide) rfl (fun ls hl => ?_)
  have hl : lv_has ls 7 [(5, .int v3), (3, .long v2), (0, .ref x0), (1, .long x1)] := hl
  refine lv_iload hx hb (xb_d D_Format_exponent 15 rfl) (lv_at hl 0 rfl) ?_
  refine lv_if_le (tgt := 29) hx hb (xb_d D_Format_exponent 16 rfl) rfl (fun hc4 => ?_) (fun hc4 => ?_)
  · have hw := hw.1 hc4
    refine lv_lload_n hx hb (xb_d D_Format_exponent 19 rfl) rfl (lv_at hl 1 rfl) ?_
    refine xb_call0 (D := D) (A := A) (σ := σ) (h := h) (d := 2) (maxL := 6) (rest := []) (av := [.long v2]) (fun T hT X => xt_invS X hx hown (hts _ m_3f81cba8) (hts _ m_a350c52f) (hts _ m_912e4ef6) (xt_sgS (hts _ m_041868e1)).1 (xt_sgS (hts _ m_041868e1)).2 nm_Whole_zerosAbove (g := F0 m 30 ls [.long v2]) rfl (argsL := [.long v2]) (rest := []) rfl rfl (by rw [hb]; exact (xb_d D_Format_exponent 20 rfl))) (ok_Whole_zerosAbove l hfl D A σ v2 h _ hw) (hml.trans hl.1.symm) (by rw [hb]; exact (xb_d D_Format_exponent 20 rfl)) (Nat.le_of_ble_eq_true rfl) (Nat.le_of_ble_eq_true rfl) (Nat.le_of_ble_eq_true rfl) (show k ≤ MC by omega) (show n ≤ MS by omega) (xt_w1 hB.1 m_041868e1) (xt_cdOf hB.1 m_041868e1) (hts _ m_912e4ef6) hB hR hS hA (fun vv h5 H locs hq hEh5 hR hS => ?_)
    obtain ⟨r6, rfl, hw⟩ := hq
    have hw := hw hEh5
    have hE := hE.tr hEh5
    refine W.eq (g2 := F0 m 33 ls [.int r6]) rfl ?_
    refine lv_bipush (v := 64) hx hb (xb_d D_Format_exponent 21 rfl) (by decide) ?_
    refine lv_aload_n hx hb (xb_d D_Format_exponent 22 rfl) rfl (lv_at hl 2 rfl) ?_
    have hk1 : xb_k h5 x0 = 6 := hEh5.k hk1
    refine xb_getI (C := R_Format) (T := F_Format) (N := 5) hx hb 5 0 hts fin_Format hown hR hk1 (by decide) rfl (by decide) rfl (hts _ m_019aecde) (fun _ h9 => h9) (xb_d D_Format_exponent 23 rfl) ?_
    refine lv_isub hx hb (xb_d D_Format_exponent 24 rfl) ?_
    refine lv_isub hx hb (xb_d D_Format_exponent 25 rfl) ?_
    exact am_Format_exponent_L41 l hfl D A σ MC MS h0 Qr x0 v3 (r6 - (64 - (xb_i h5 x0 0))) h5 hw p e s m args below meth c hC H locs ls k n hE (lv_sub hl [2, 0] rfl) hR hS (by omega) (by omega)
  · have hw := hw.2 hc4
    refine lv_iconst (v := 0) hx hb (xb_d D_Format_exponent 17 rfl) (by decide) ?_
    refine lv_goto (tgt := 41) hx hb (xb_d D_Format_exponent 18 rfl) rfl ?_
    exact am_Format_exponent_L41 l hfl D A σ MC MS h0 Qr x0 v3 0 h hw p e s m args below meth c hC H locs ls k n hE (lv_sub hl [2, 0] rfl) hR hS (by omega) (by omega)

set_option maxRecDepth 100000 in
def T_Format_mantissa : List (Nat × Instr × Nat) := [(0, .lload_n 1, 1), (1, .aload_n 0, 1), (2, .getfield 18, 3), (5, .lconst 1, 1), (6, .lsub, 1), (7, .land, 1), (8, .lstore_n 3, 1), (9, .lconst 1, 1), (10, .aload_n 0, 1), (11, .getfield 9, 3), (14, .iconst 1, 1), (15, .isub, 1), (16, .lshl, 1), (17, .lstore 5, 2), (19, .lload_n 3, 1), (20, .lload 5, 2), (22, .lcmp, 1), (23, .ifCond .ge 18, 3), (26, .lload_n 3, 1), (27, .lload_n 3, 1), (28, .invokestatic 30, 3), (31, .bipush 64, 2), (33, .aload_n 0, 1), (34, .getfield 9, 3), (37, .isub, 1), (38, .isub, 1), (39, .lshl, 1), (40, .lreturn, 1), (41, .lload_n 3, 1), (42, .lload 5, 2), (44, .lconst 1, 1), (45, .lsub, 1), (46, .land, 1), (47, .lload 5, 2), (49, .lor, 1), (50, .lreturn, 1)]
theorem D_Format_mantissa : ∀ q ∈ T_Format_mantissa, decode b_Format_mantissa q.1 = .ok (q.2.1, q.2.2) := by decide +kernel

set_option maxHeartbeats 4000000 in
set_option maxRecDepth 100000 in
theorem ok_Format_mantissa (l : Launch) (hfl : l.flags = pinnedFlags ++ [noTraceFlag]) (D : va_G) (A : Nat → Prop) (σ : Nat) (x0 : Nat) (x1 : Int64) (h : xb_H) (Qr : Int64 → xb_H → Prop) (hw : w_Format_mantissa x0 x1 h Qr) : xb_Met l y_Format_mantissa [.code y_Format_mantissa b_Format_mantissa 7 (some .long)] (xb_rm 3 0 0) (xb_Pc D A σ h [.ref x0, .long x1]) (xb_Qc D A h 0 0 (fun v h _ _ => ∃ r, v = some (.long r) ∧ Qr r h) (fun _ _ _ _ => False)) A := by
  refine xb_ofAm (cc := b_Format_mantissa) (by decide) (Nat.le_of_ble_eq_true rfl) ?_
  unfold w_Format_mantissa at hw
  show xb_am l D A σ 3 0 0 h (fun v h _ _ => ∃ r, v = some (.long r) ∧ Qr r h) (fun _ _ _ _ => False) y_Format_mantissa.cls y_Format_mantissa.name b_Format_mantissa 7 ([] : List ExceptionTableEntry) (some .long) 0 [(0, .ref x0), (1, .long x1)] [] h 0 0
  obtain ⟨MC, hMC⟩ : ∃ x, x = 0 := ⟨_, rfl⟩
  obtain ⟨MS, hMS⟩ : ∃ x, x = 0 := ⟨_, rfl⟩
  rw [show xb_am l D A σ 3 0 0 = xb_am l D A σ 3 MC MS by rw [hMC, hMS]]
  obtain ⟨h0, hh0⟩ : ∃ x, x = h := ⟨_, rfl⟩
  rw [show xb_am l D A σ 3 MC MS h = xb_am l D A σ 3 MC MS h0 by rw [hh0]]
  intro p e s m args below meth c hC H locs ls k n hE hl hR hS hk hn
  obtain ⟨hx, hb, hown, hlocks, htab, hml, hr, hB, hA, hnm⟩ := id hC
  have hts := hB.1.1.at args
  refine lv_lload_n hx hb (xb_d D_Format_mantissa 0 rfl) rfl (lv_at hl 1 rfl) ?_
  refine lv_aload_n hx hb (xb_d D_Format_mantissa 1 rfl) rfl (lv_at hl 0 rfl) ?_
  obtain ⟨hk1, hw⟩ := hw
  refine xb_getL (C := R_Format) (T := F_Format) (N := 5) hx hb 5 2 hts fin_Format hown hR hk1 (by decide) rfl (by decide) rfl (hts _ m_e3160854) (fun _ h9 => h9) (xb_d D_Format_mantissa 2 rfl) ?_
  refine lv_lconst (v := 1) hx hb (xb_d D_Format_mantissa 3 rfl) (by decide) ?_
  refine lv_lsub hx hb (xb_d D_Format_mantissa 4 rfl) ?_
  refine lv_land hx hb (xb_d D_Format_mantissa 5 rfl) ?_
  obtain ⟨v2, ev2⟩ : ∃ x : Int64, x = (x1 &&& ((xb_l h x0 2) - 1)) := ⟨_, rfl⟩
  have hw := hw v2 ev2
  refine xt_numl (y := v2) ev2.symm ?_
  refine lv_lstore_n hx hb (xb_d D_Format_mantissa 6 rfl) rfl hl (by decide) rfl (fun ls hl => ?_)
  have hl : lv_has ls 7 [(3, .long v2), (0, .ref x0), (1, .long x1)] := hl
  refine lv_lconst (v := 1) hx hb (xb_d D_Format_mantissa 7 rfl) (by decide) ?_
  refine lv_aload_n hx hb (xb_d D_Format_mantissa 8 rfl) rfl (lv_at hl 1 rfl) ?_
  refine xb_getI (C := R_Format) (T := F_Format) (N := 5) hx hb 5 0 hts fin_Format hown hR hk1 (by decide) rfl (by decide) rfl (hts _ m_019aecde) (fun _ h9 => h9) (xb_d D_Format_mantissa 9 rfl) ?_
  refine lv_iconst (v := 1) hx hb (xb_d D_Format_mantissa 10 rfl) (by decide) ?_
  refine lv_isub hx hb (xb_d D_Format_mantissa 11 rfl) ?_
  refine lv_lshl (v := (xb_lshl 1 ((xb_i h x0 0) - 1))) hx hb (xb_d D_Format_mantissa 12 rfl) rfl ?_
  obtain ⟨v3, ev3⟩ : ∃ x : Int64, x = (xb_lshl 1 ((xb_i h x0 0) - 1)) := ⟨_, rfl⟩
  have hw := hw v3 ev3
  refine xt_numl (y := v3) ev3.symm ?_
  refine lv_lstore hx hb (xb_d D_Format_mantissa 13 rfl) hl (by decide) rfl (fun ls hl => ?_)
  have hl : lv_has ls 7 [(5, .long v3), (3, .long v2), (0, .ref x0), (1, .long x1)] := hl
  refine lv_lload_n hx hb (xb_d D_Format_mantissa 14 rfl) rfl (lv_at hl 1 rfl) ?_
  refine lv_lload hx hb (xb_d D_Format_mantissa 15 rfl) (lv_at hl 0 rfl) ?_
  refine xb_lc_ge (tgt := 41) hx hb (xb_d D_Format_mantissa 16 rfl) (xb_d D_Format_mantissa 17 rfl) rfl (fun hc4 => ?_) (fun hc4 => ?_)
  · have hw := hw.1 hc4
    refine lv_lload_n hx hb (xb_d D_Format_mantissa 28 rfl) rfl (lv_at hl 1 rfl) ?_
    refine lv_lload hx hb (xb_d D_Format_mantissa 29 rfl) (lv_at hl 0 rfl) ?_
    refine lv_lconst (v := 1) hx hb (xb_d D_Format_mantissa 30 rfl) (by decide) ?_
    refine lv_lsub hx hb (xb_d D_Format_mantissa 31 rfl) ?_
    refine lv_land hx hb (xb_d D_Format_mantissa 32 rfl) ?_
    refine lv_lload hx hb (xb_d D_Format_mantissa 33 rfl) (lv_at hl 0 rfl) ?_
    refine lv_lor hx hb (xb_d D_Format_mantissa 34 rfl) ?_
    exact xb_lret 0 0 hx hb hr hlocks (show k + 0 ≤ MC by omega) (show n + 0 ≤ MS by omega) hE hR hS (xb_d D_Format_mantissa 35 rfl) hw
  · have hw := hw.2 hc4
    refine lv_lload_n hx hb (xb_d D_Format_mantissa 18 rfl) rfl (lv_at hl 1 rfl) ?_
    refine lv_lload_n hx hb (xb_d D_Format_mantissa 19 rfl) rfl (lv_at hl 1 rfl) ?_
    refine xb_call0 (D := D) (A := A) (σ := σ) (h := h) (d := 2) (maxL := 6) (rest := [.long v2]) (av := [.long v2]) (fun T hT X => xt_invS X hx hown (hts _ m_3f81cba8) (hts _ m_a350c52f) (hts _ m_912e4ef6) (xt_sgS (hts _ m_041868e1)).1 (xt_sgS (hts _ m_041868e1)).2 nm_Whole_zerosAbove (g := F0 m 28 ls [.long v2, .long v2]) rfl (argsL := [.long v2]) (rest := [.long v2]) rfl rfl (by rw [hb]; exact (xb_d D_Format_mantissa 20 rfl))) (ok_Whole_zerosAbove l hfl D A σ v2 h _ hw) (hml.trans hl.1.symm) (by rw [hb]; exact (xb_d D_Format_mantissa 20 rfl)) (Nat.le_of_ble_eq_true rfl) (Nat.le_of_ble_eq_true rfl) (Nat.le_of_ble_eq_true rfl) (show k ≤ MC by omega) (show n ≤ MS by omega) (xt_w1 hB.1 m_041868e1) (xt_cdOf hB.1 m_041868e1) (hts _ m_912e4ef6) hB hR hS hA (fun vv h5 H locs hq hEh5 hR hS => ?_)
    obtain ⟨r6, rfl, hw⟩ := hq
    have hw := hw hEh5
    have hE := hE.tr hEh5
    refine W.eq (g2 := F0 m 31 ls [.int r6, .long v2]) rfl ?_
    refine lv_bipush (v := 64) hx hb (xb_d D_Format_mantissa 21 rfl) (by decide) ?_
    refine lv_aload_n hx hb (xb_d D_Format_mantissa 22 rfl) rfl (lv_at hl 2 rfl) ?_
    have hk1 : xb_k h5 x0 = 6 := hEh5.k hk1
    refine xb_getI (C := R_Format) (T := F_Format) (N := 5) hx hb 5 0 hts fin_Format hown hR hk1 (by decide) rfl (by decide) rfl (hts _ m_019aecde) (fun _ h9 => h9) (xb_d D_Format_mantissa 23 rfl) ?_
    refine lv_isub hx hb (xb_d D_Format_mantissa 24 rfl) ?_
    refine lv_isub hx hb (xb_d D_Format_mantissa 25 rfl) ?_
    refine lv_lshl (v := (xb_lshl v2 (r6 - (64 - (xb_i h5 x0 0))))) hx hb (xb_d D_Format_mantissa 26 rfl) rfl ?_
    exact xb_lret 0 0 hx hb hr hlocks (show k + 0 ≤ MC by omega) (show n + 0 ≤ MS by omega) hE hR hS (xb_d D_Format_mantissa 27 rfl) hw

set_option maxRecDepth 100000 in
def T_Format_nearest : List (Nat × Instr × Nat) := [(0, .lload_n 3, 1), (1, .invokestatic 30, 3), (4, .iconst 1, 1), (5, .isub, 1), (6, .istore 5, 2), (8, .lload_n 3, 1), (9, .iload 5, 2), (11, .lshl, 1), (12, .lstore 6, 2), (14, .iload_n 2, 1), (15, .iload 5, 2), (17, .isub, 1), (18, .bipush 62, 2), (20, .iadd, 1), (21, .aload_n 0, 1), (22, .getfield 15, 3), (25, .iadd, 1), (26, .istore 8, 2), (28, .iload_n 1, 1), (29, .ifCond .eq 10, 3), (32, .aload_n 0, 1), (33, .getfield 18, 3), (36, .goto 4, 3), (39, .lconst 0, 1), (40, .lstore 9, 2), (42, .iload 8, 2), (44, .iconst 2, 1), (45, .aload_n 0, 1), (46, .getfield 15, 3), (49, .imul, 1), (50, .if_icmp .le 11, 3), (53, .lload 9, 2), (55, .aload_n 0, 1), (56, .getfield 24, 3), (59, .lor, 1), (60, .lreturn, 1), (61, .bipush 63, 2), (63, .aload_n 0, 1), (64, .getfield 9, 3), (67, .isub, 1), (68, .iload 8, 2), (70, .ifCond .le 7, 3), (73, .iconst 0, 1), (74, .goto 7, 3), (77, .iconst 1, 1), (78, .iload 8, 2), (80, .isub, 1), (81, .iadd, 1), (82, .istore 11, 2), (84, .iload 11, 2), (86, .bipush 63, 2), (88, .if_icmp .le 6, 3), (91, .lload 9, 2), (93, .lreturn, 1), (94, .lload 6, 2), (96, .iload 11, 2), (98, .lushr, 1), (99, .lstore 12, 2), (101, .lload 6, 2), (103, .lconst 1, 1), (104, .iload 11, 2), (106, .lshl, 1), (107, .lconst 1, 1), (108, .lsub, 1), (109, .land, 1), (110, .lstore 14, 2), (112, .lconst 1, 1), (113, .iload 11, 2), (115, .iconst 1, 1), (116, .isub, 1), (117, .lshl, 1), (118, .lstore 16, 2), (120, .lload 14, 2), (122, .lload 16, 2), (124, .lcmp, 1), (125, .ifCond .gt 20, 3), (128, .lload 14, 2), (130, .lload 16, 2), (132, .lcmp, 1), (133, .ifCond .ne 18, 3), (136, .lload 12, 2), (138, .lconst 1, 1), (139, .land, 1), (140, .lconst 1, 1), (141, .lcmp, 1), (142, .ifCond .ne 9, 3), (145, .lload 12, 2), (147, .lconst 1, 1), (148, .ladd, 1), (149, .lstore 12, 2), (151, .iload 8, 2), (153, .ifCond .le 18, 3), (156, .iload 8, 2), (158, .iconst 1, 1), (159, .isub, 1), (160, .i2l, 1), (161, .aload_n 0, 1), (162, .getfield 9, 3), (165, .iconst 1, 1), (166, .isub, 1), (167, .lshl, 1), (168, .goto 4, 3), (171, .lconst 0, 1), (172, .lstore 18, 2), (174, .lload 9, 2), (176, .lload 18, 2), (178, .lload 12, 2), (180, .ladd, 1), (181, .lor, 1), (182, .lreturn, 1)]
theorem D_Format_nearest : ∀ q ∈ T_Format_nearest, decode b_Format_nearest q.1 = .ok (q.2.1, q.2.2) := by decide +kernel

set_option maxHeartbeats 4000000 in
set_option maxRecDepth 100000 in
theorem am_Format_nearest_L172 (l : Launch) (hfl : l.flags = pinnedFlags ++ [noTraceFlag]) (D : va_G) (A : Nat → Prop) (σ MC MS : Nat) (h0 : xb_H) (Qr : Int64 → xb_H → Prop) (x9 : Int64) (x12 : Int64) (y0 : Int64) (h : xb_H) (hw : w_Format_nearest_L172 Qr x9 x12 y0 h) : xb_am l D A σ 3 MC MS h0 (fun v h _ _ => ∃ r, v = some (.long r) ∧ Qr r h) (fun _ _ _ _ => False) y_Format_nearest.cls y_Format_nearest.name b_Format_nearest 20 ([] : List ExceptionTableEntry) (some .long) 172 [(9, .long x9), (12, .long x12)] [.long y0] h 0 0 := by
  unfold w_Format_nearest_L172 at hw
  intro p e s m args below meth c hC H locs ls k n hE hl hR hS hk hn
  obtain ⟨hx, hb, hown, hlocks, htab, hml, hr, hB, hA, hnm⟩ := id hC
  have hts := hB.1.1.at args
  refine lv_lstore hx hb (xb_d D_Format_nearest 103 rfl) hl (by decide) rfl (fun ls hl => ?_)
  have hl : lv_has ls 20 [(18, .long y0), (9, .long x9), (12, .long x12)] := hl
  refine lv_lload hx hb (xb_d D_Format_nearest 104 rfl) (lv_at hl 1 rfl) ?_
  refine lv_lload hx hb (xb_d D_Format_nearest 105 rfl) (lv_at hl 0 rfl) ?_
  refine lv_lload hx hb (xb_d D_Format_nearest 106 rfl) (lv_at hl 2 rfl) ?_
  refine lv_ladd hx hb (xb_d D_Format_nearest 107 rfl) ?_
  refine lv_lor hx hb (xb_d D_Format_nearest 108 rfl) ?_
  exact xb_lret 0 0 hx hb hr hlocks (show k + 0 ≤ MC by omega) (show n + 0 ≤ MS by omega) hE hR hS (xb_d D_Format_nearest 109 rfl) hw

set_option maxHeartbeats 4000000 in
set_option maxRecDepth 100000 in
theorem am_Format_nearest_L151 (l : Launch) (hfl : l.flags = pinnedFlags ++ [noTraceFlag]) (D : va_G) (A : Nat → Prop) (σ MC MS : Nat) (h0 : xb_H) (Qr : Int64 → xb_H → Prop) (x0 : Nat) (x8 : Int32) (x9 : Int64) (x12 : Int64) (h : xb_H) (hw : w_Format_nearest_L151 Qr x0 x8 x9 x12 h) : xb_am l D A σ 3 MC MS h0 (fun v h _ _ => ∃ r, v = some (.long r) ∧ Qr r h) (fun _ _ _ _ => False) y_Format_nearest.cls y_Format_nearest.name b_Format_nearest 20 ([] : List ExceptionTableEntry) (some .long) 151 [(0, .ref x0), (8, .int x8), (9, .long x9), (12, .long x12)] [] h 0 0 := by
  unfold w_Format_nearest_L151 at hw
  intro p e s m args below meth c hC H locs ls k n hE hl hR hS hk hn
  obtain ⟨hx, hb, hown, hlocks, htab, hml, hr, hB, hA, hnm⟩ := id hC
  have hts := hB.1.1.at args
  refine lv_iload hx hb (xb_d D_Format_nearest 90 rfl) (lv_at hl 1 rfl) ?_
  refine lv_if_le (tgt := 171) hx hb (xb_d D_Format_nearest 91 rfl) rfl (fun hc1 => ?_) (fun hc1 => ?_)
  · have hw := hw.1 hc1
    refine lv_lconst (v := 0) hx hb (xb_d D_Format_nearest 102 rfl) (by decide) ?_
    exact am_Format_nearest_L172 l hfl D A σ MC MS h0 Qr x9 x12 0 h hw p e s m args below meth c hC H locs ls k n hE (lv_sub hl [2, 3] rfl) hR hS (by omega) (by omega)
  · have hw := hw.2 hc1
    refine lv_iload hx hb (xb_d D_Format_nearest 92 rfl) (lv_at hl 1 rfl) ?_
    refine lv_iconst (v := 1) hx hb (xb_d D_Format_nearest 93 rfl) (by decide) ?_
    refine lv_isub hx hb (xb_d D_Format_nearest 94 rfl) ?_
    refine lv_i2l hx hb (xb_d D_Format_nearest 95 rfl) rfl ?_
    refine lv_aload_n hx hb (xb_d D_Format_nearest 96 rfl) rfl (lv_at hl 0 rfl) ?_
    obtain ⟨hk2, hw⟩ := hw
    refine xb_getI (C := R_Format) (T := F_Format) (N := 5) hx hb 5 0 hts fin_Format hown hR hk2 (by decide) rfl (by decide) rfl (hts _ m_019aecde) (fun _ h9 => h9) (xb_d D_Format_nearest 97 rfl) ?_
    refine lv_iconst (v := 1) hx hb (xb_d D_Format_nearest 98 rfl) (by decide) ?_
    refine lv_isub hx hb (xb_d D_Format_nearest 99 rfl) ?_
    refine lv_lshl (v := (xb_lshl (Int32.toInt64 (x8 - 1)) ((xb_i h x0 0) - 1))) hx hb (xb_d D_Format_nearest 100 rfl) rfl ?_
    refine lv_goto (tgt := 172) hx hb (xb_d D_Format_nearest 101 rfl) rfl ?_
    exact am_Format_nearest_L172 l hfl D A σ MC MS h0 Qr x9 x12 (xb_lshl (Int32.toInt64 (x8 - 1)) ((xb_i h x0 0) - 1)) h hw p e s m args below meth c hC H locs ls k n hE (lv_sub hl [2, 3] rfl) hR hS (by omega) (by omega)

set_option maxHeartbeats 4000000 in
set_option maxRecDepth 100000 in
theorem am_Format_nearest_L145 (l : Launch) (hfl : l.flags = pinnedFlags ++ [noTraceFlag]) (D : va_G) (A : Nat → Prop) (σ MC MS : Nat) (h0 : xb_H) (Qr : Int64 → xb_H → Prop) (x0 : Nat) (x8 : Int32) (x9 : Int64) (x12 : Int64) (h : xb_H) (hw : w_Format_nearest_L145 Qr x0 x8 x9 x12 h) : xb_am l D A σ 3 MC MS h0 (fun v h _ _ => ∃ r, v = some (.long r) ∧ Qr r h) (fun _ _ _ _ => False) y_Format_nearest.cls y_Format_nearest.name b_Format_nearest 20 ([] : List ExceptionTableEntry) (some .long) 145 [(0, .ref x0), (8, .int x8), (9, .long x9), (12, .long x12)] [] h 0 0 := by
  unfold w_Format_nearest_L145 at hw
  intro p e s m args below meth c hC H locs ls k n hE hl hR hS hk hn
  obtain ⟨hx, hb, hown, hlocks, htab, hml, hr, hB, hA, hnm⟩ := id hC
  have hts := hB.1.1.at args
  refine lv_lload hx hb (xb_d D_Format_nearest 86 rfl) (lv_at hl 3 rfl) ?_
  refine lv_lconst (v := 1) hx hb (xb_d D_Format_nearest 87 rfl) (by decide) ?_
  refine lv_ladd hx hb (xb_d D_Format_nearest 88 rfl) ?_
  obtain ⟨v1, ev1⟩ : ∃ x : Int64, x = (x12 + 1) := ⟨_, rfl⟩
  have hw := hw v1 ev1
  refine xt_numl (y := v1) ev1.symm ?_
  refine lv_lstore hx hb (xb_d D_Format_nearest 89 rfl) hl (by decide) rfl (fun ls hl => ?_)
  have hl : lv_has ls 20 [(12, .long v1), (0, .ref x0), (8, .int x8), (9, .long x9)] := hl
  exact am_Format_nearest_L151 l hfl D A σ MC MS h0 Qr x0 x8 x9 v1 h hw p e s m args below meth c hC H locs ls k n hE (lv_sub hl [1, 2, 3, 0] rfl) hR hS (by omega) (by omega)

set_option maxHeartbeats 4000000 in
set_option maxRecDepth 100000 in
theorem am_Format_nearest_L81 (l : Launch) (hfl : l.flags = pinnedFlags ++ [noTraceFlag]) (D : va_G) (A : Nat → Prop) (σ MC MS : Nat) (h0 : xb_H) (Qr : Int64 → xb_H → Prop) (x0 : Nat) (x6 : Int64) (x8 : Int32) (x9 : Int64) (y0 : Int32) (y1 : Int32) (h : xb_H) (hw : w_Format_nearest_L81 Qr x0 x6 x8 x9 y0 y1 h) : xb_am l D A σ 3 MC MS h0 (fun v h _ _ => ∃ r, v = some (.long r) ∧ Qr r h) (fun _ _ _ _ => False) y_Format_nearest.cls y_Format_nearest.name b_Format_nearest 20 ([] : List ExceptionTableEntry) (some .long) 81 [(0, .ref x0), (6, .long x6), (8, .int x8), (9, .long x9)] [.int y0, .int y1] h 0 0 := by
  unfold w_Format_nearest_L81 at hw
  intro p e s m args below meth c hC H locs ls k n hE hl hR hS hk hn
  obtain ⟨hx, hb, hown, hlocks, htab, hml, hr, hB, hA, hnm⟩ := id hC
  have hts := hB.1.1.at args
  refine lv_iadd hx hb (xb_d D_Format_nearest 47 rfl) ?_
  obtain ⟨v1, ev1⟩ : ∃ x : Int32, x = (y1 + y0) := ⟨_, rfl⟩
  have hw := hw v1 ev1
  refine xt_numi (y := v1) ev1.symm ?_
  refine lv_istore hx hb (xb_d D_Format_nearest 48 rfl) hl (by decide) rfl (fun ls hl => ?_)
  have hl : lv_has ls 20 [(11, .int v1), (0, .ref x0), (6, .long x6), (8, .int x8), (9, .long x9)] := hl
  refine lv_iload hx hb (xb_d D_Format_nearest 49 rfl) (lv_at hl 0 rfl) ?_
  refine lv_bipush (v := 63) hx hb (xb_d D_Format_nearest 50 rfl) (by decide) ?_
  refine lv_icmp_le (tgt := 94) hx hb (xb_d D_Format_nearest 51 rfl) rfl (fun hc2 => ?_) (fun hc2 => ?_)
  · have hw := hw.1 hc2
    refine lv_lload hx hb (xb_d D_Format_nearest 54 rfl) (lv_at hl 2 rfl) ?_
    refine lv_iload hx hb (xb_d D_Format_nearest 55 rfl) (lv_at hl 0 rfl) ?_
    refine lv_lushr (v := (xb_lushr x6 v1)) hx hb (xb_d D_Format_nearest 56 rfl) rfl ?_
    obtain ⟨v3, ev3⟩ : ∃ x : Int64, x = (xb_lushr x6 v1) := ⟨_, rfl⟩
    have hw := hw v3 ev3
    refine xt_numl (y := v3) ev3.symm ?_
    refine lv_lstore hx hb (xb_d D_Format_nearest 57 rfl) hl (by decide) rfl (fun ls hl => ?_)
    have hl : lv_has ls 20 [(12, .long v3), (11, .int v1), (0, .ref x0), (6, .long x6), (8, .int x8), (9, .long x9)] := hl
    refine lv_lload hx hb (xb_d D_Format_nearest 58 rfl) (lv_at hl 3 rfl) ?_
    refine lv_lconst (v := 1) hx hb (xb_d D_Format_nearest 59 rfl) (by decide) ?_
    refine lv_iload hx hb (xb_d D_Format_nearest 60 rfl) (lv_at hl 1 rfl) ?_
    refine lv_lshl (v := (xb_lshl 1 v1)) hx hb (xb_d D_Format_nearest 61 rfl) rfl ?_
    refine lv_lconst (v := 1) hx hb (xb_d D_Format_nearest 62 rfl) (by decide) ?_
    refine lv_lsub hx hb (xb_d D_Format_nearest 63 rfl) ?_
    refine lv_land hx hb (xb_d D_Format_nearest 64 rfl) ?_
    obtain ⟨v4, ev4⟩ : ∃ x : Int64, x = (x6 &&& ((xb_lshl 1 v1) - 1)) := ⟨_, rfl⟩
    have hw := hw v4 ev4
    refine xt_numl (y := v4) ev4.symm ?_
    refine lv_lstore hx hb (xb_d D_Format_nearest 65 rfl) hl (by decide) rfl (fun ls hl => ?_)
    have hl : lv_has ls 20 [(14, .long v4), (12, .long v3), (11, .int v1), (0, .ref x0), (6, .long x6), (8, .int x8), (9, .long x9)] := hl
    refine lv_lconst (v := 1) hx hb (xb_d D_Format_nearest 66 rfl) (by decide) ?_
    refine lv_iload hx hb (xb_d D_Format_nearest 67 rfl) (lv_at hl 2 rfl) ?_
    refine lv_iconst (v := 1) hx hb (xb_d D_Format_nearest 68 rfl) (by decide) ?_
    refine lv_isub hx hb (xb_d D_Format_nearest 69 rfl) ?_
    refine lv_lshl (v := (xb_lshl 1 (v1 - 1))) hx hb (xb_d D_Format_nearest 70 rfl) rfl ?_
    obtain ⟨v5, ev5⟩ : ∃ x : Int64, x = (xb_lshl 1 (v1 - 1)) := ⟨_, rfl⟩
    have hw := hw v5 ev5
    refine xt_numl (y := v5) ev5.symm ?_
    refine lv_lstore hx hb (xb_d D_Format_nearest 71 rfl) hl (by decide) rfl (fun ls hl => ?_)
    have hl : lv_has ls 20 [(16, .long v5), (14, .long v4), (12, .long v3), (11, .int v1), (0, .ref x0), (6, .long x6), (8, .int x8), (9, .long x9)] := hl
    refine lv_lload hx hb (xb_d D_Format_nearest 72 rfl) (lv_at hl 1 rfl) ?_
    refine lv_lload hx hb (xb_d D_Format_nearest 73 rfl) (lv_at hl 0 rfl) ?_
    refine xb_lc_gt (tgt := 145) hx hb (xb_d D_Format_nearest 74 rfl) (xb_d D_Format_nearest 75 rfl) rfl (fun hc6 => ?_) (fun hc6 => ?_)
    · have hw := hw.1 hc6
      exact am_Format_nearest_L145 l hfl D A σ MC MS h0 Qr x0 x8 x9 v3 h hw p e s m args below meth c hC H locs ls k n hE (lv_sub hl [4, 6, 7, 2] rfl) hR hS (by omega) (by omega)
    · have hw := hw.2 hc6
      refine lv_lload hx hb (xb_d D_Format_nearest 76 rfl) (lv_at hl 1 rfl) ?_
      refine lv_lload hx hb (xb_d D_Format_nearest 77 rfl) (lv_at hl 0 rfl) ?_
      refine xb_lc_ne (tgt := 151) hx hb (xb_d D_Format_nearest 78 rfl) (xb_d D_Format_nearest 79 rfl) rfl (fun hc7 => ?_) (fun hc7 => ?_)
      · have hw := hw.1 hc7
        exact am_Format_nearest_L151 l hfl D A σ MC MS h0 Qr x0 x8 x9 v3 h hw p e s m args below meth c hC H locs ls k n hE (lv_sub hl [4, 6, 7, 2] rfl) hR hS (by omega) (by omega)
      · have hw := hw.2 hc7
        refine lv_lload hx hb (xb_d D_Format_nearest 80 rfl) (lv_at hl 2 rfl) ?_
        refine lv_lconst (v := 1) hx hb (xb_d D_Format_nearest 81 rfl) (by decide) ?_
        refine lv_land hx hb (xb_d D_Format_nearest 82 rfl) ?_
        refine lv_lconst (v := 1) hx hb (xb_d D_Format_nearest 83 rfl) (by decide) ?_
        refine xb_lc_ne (tgt := 151) hx hb (xb_d D_Format_nearest 84 rfl) (xb_d D_Format_nearest 85 rfl) rfl (fun hc8 => ?_) (fun hc8 => ?_)
        · have hw := hw.1 hc8
          exact am_Format_nearest_L151 l hfl D A σ MC MS h0 Qr x0 x8 x9 v3 h hw p e s m args below meth c hC H locs ls k n hE (lv_sub hl [4, 6, 7, 2] rfl) hR hS (by omega) (by omega)
        · have hw := hw.2 hc8
          exact am_Format_nearest_L145 l hfl D A σ MC MS h0 Qr x0 x8 x9 v3 h hw p e s m args below meth c hC H locs ls k n hE (lv_sub hl [4, 6, 7, 2] rfl) hR hS (by omega) (by omega)
  · have hw := hw.2 hc2
    refine lv_lload hx hb (xb_d D_Format_nearest 52 rfl) (lv_at hl 4 rfl) ?_
    exact xb_lret 0 0 hx hb hr hlocks (show k + 0 ≤ MC by omega) (show n + 0 ≤ MS by omega) hE hR hS (xb_d D_Format_nearest 53 rfl) hw

set_option maxHeartbeats 4000000 in
set_option maxRecDepth 100000 in
theorem am_Format_nearest_L40 (l : Launch) (hfl : l.flags = pinnedFlags ++ [noTraceFlag]) (D : va_G) (A : Nat → Prop) (σ MC MS : Nat) (h0 : xb_H) (Qr : Int64 → xb_H → Prop) (x0 : Nat) (x6 : Int64) (x8 : Int32) (y0 : Int64) (h : xb_H) (hw : w_Format_nearest_L40 Qr x0 x6 x8 y0 h) : xb_am l D A σ 3 MC MS h0 (fun v h _ _ => ∃ r, v = some (.long r) ∧ Qr r h) (fun _ _ _ _ => False) y_Format_nearest.cls y_Format_nearest.name b_Format_nearest 20 ([] : List ExceptionTableEntry) (some .long) 40 [(0, .ref x0), (6, .long x6), (8, .int x8)] [.long y0] h 0 0 := by
  unfold w_Format_nearest_L40 at hw
  intro p e s m args below meth c hC H locs ls k n hE hl hR hS hk hn
  obtain ⟨hx, hb, hown, hlocks, htab, hml, hr, hB, hA, hnm⟩ := id hC
  have hts := hB.1.1.at args
  refine lv_lstore hx hb (xb_d D_Format_nearest 24 rfl) hl (by decide) rfl (fun ls hl => ?_)
  have hl : lv_has ls 20 [(9, .long y0), (0, .ref x0), (6, .long x6), (8, .int x8)] := hl
  refine lv_iload hx hb (xb_d D_Format_nearest 25 rfl) (lv_at hl 3 rfl) ?_
  refine lv_iconst (v := 2) hx hb (xb_d D_Format_nearest 26 rfl) (by decide) ?_
  refine lv_aload_n hx hb (xb_d D_Format_nearest 27 rfl) rfl (lv_at hl 1 rfl) ?_
  obtain ⟨hk1, hw⟩ := hw
  refine xb_getI (C := R_Format) (T := F_Format) (N := 5) hx hb 5 1 hts fin_Format hown hR hk1 (by decide) rfl (by decide) rfl (hts _ m_a74735c5) (fun _ h9 => h9) (xb_d D_Format_nearest 28 rfl) ?_
  refine lv_imul hx hb (xb_d D_Format_nearest 29 rfl) ?_
  refine lv_icmp_le (tgt := 61) hx hb (xb_d D_Format_nearest 30 rfl) rfl (fun hc2 => ?_) (fun hc2 => ?_)
  · have hw := hw.1 hc2
    refine lv_bipush (v := 63) hx hb (xb_d D_Format_nearest 36 rfl) (by decide) ?_
    refine lv_aload_n hx hb (xb_d D_Format_nearest 37 rfl) rfl (lv_at hl 1 rfl) ?_
    refine xb_getI (C := R_Format) (T := F_Format) (N := 5) hx hb 5 0 hts fin_Format hown hR hk1 (by decide) rfl (by decide) rfl (hts _ m_019aecde) (fun _ h9 => h9) (xb_d D_Format_nearest 38 rfl) ?_
    refine lv_isub hx hb (xb_d D_Format_nearest 39 rfl) ?_
    refine lv_iload hx hb (xb_d D_Format_nearest 40 rfl) (lv_at hl 3 rfl) ?_
    refine lv_if_le (tgt := 77) hx hb (xb_d D_Format_nearest 41 rfl) rfl (fun hc3 => ?_) (fun hc3 => ?_)
    · have hw := hw.1 hc3
      refine lv_iconst (v := 1) hx hb (xb_d D_Format_nearest 44 rfl) (by decide) ?_
      refine lv_iload hx hb (xb_d D_Format_nearest 45 rfl) (lv_at hl 3 rfl) ?_
      refine lv_isub hx hb (xb_d D_Format_nearest 46 rfl) ?_
      exact am_Format_nearest_L81 l hfl D A σ MC MS h0 Qr x0 x6 x8 y0 (1 - x8) (63 - (xb_i h x0 0)) h hw p e s m args below meth c hC H locs ls k n hE (lv_sub hl [1, 2, 3, 0] rfl) hR hS (by omega) (by omega)
    · have hw := hw.2 hc3
      refine lv_iconst (v := 0) hx hb (xb_d D_Format_nearest 42 rfl) (by decide) ?_
      refine lv_goto (tgt := 81) hx hb (xb_d D_Format_nearest 43 rfl) rfl ?_
      exact am_Format_nearest_L81 l hfl D A σ MC MS h0 Qr x0 x6 x8 y0 0 (63 - (xb_i h x0 0)) h hw p e s m args below meth c hC H locs ls k n hE (lv_sub hl [1, 2, 3, 0] rfl) hR hS (by omega) (by omega)
  · have hw := hw.2 hc2
    refine lv_lload hx hb (xb_d D_Format_nearest 31 rfl) (lv_at hl 0 rfl) ?_
    refine lv_aload_n hx hb (xb_d D_Format_nearest 32 rfl) rfl (lv_at hl 1 rfl) ?_
    refine xb_getL (C := R_Format) (T := F_Format) (N := 5) hx hb 5 3 hts fin_Format hown hR hk1 (by decide) rfl (by decide) rfl (hts _ m_1e01af33) (fun _ h9 => h9) (xb_d D_Format_nearest 33 rfl) ?_
    refine lv_lor hx hb (xb_d D_Format_nearest 34 rfl) ?_
    exact xb_lret 0 0 hx hb hr hlocks (show k + 0 ≤ MC by omega) (show n + 0 ≤ MS by omega) hE hR hS (xb_d D_Format_nearest 35 rfl) hw

set_option maxHeartbeats 4000000 in
set_option maxRecDepth 100000 in
theorem ok_Format_nearest (l : Launch) (hfl : l.flags = pinnedFlags ++ [noTraceFlag]) (D : va_G) (A : Nat → Prop) (σ : Nat) (x0 : Nat) (x1 : Int32) (x2 : Int32) (x3 : Int64) (h : xb_H) (Qr : Int64 → xb_H → Prop) (hw : w_Format_nearest x0 x1 x2 x3 h Qr) : xb_Met l y_Format_nearest [.code y_Format_nearest b_Format_nearest 20 (some .long)] (xb_rm 3 0 0) (xb_Pc D A σ h [.ref x0, .int x1, .int x2, .long x3]) (xb_Qc D A h 0 0 (fun v h _ _ => ∃ r, v = some (.long r) ∧ Qr r h) (fun _ _ _ _ => False)) A := by
  refine xb_ofAm (cc := b_Format_nearest) (by decide) (Nat.le_of_ble_eq_true rfl) ?_
  unfold w_Format_nearest at hw
  show xb_am l D A σ 3 0 0 h (fun v h _ _ => ∃ r, v = some (.long r) ∧ Qr r h) (fun _ _ _ _ => False) y_Format_nearest.cls y_Format_nearest.name b_Format_nearest 20 ([] : List ExceptionTableEntry) (some .long) 0 [(0, .ref x0), (1, .int x1), (2, .int x2), (3, .long x3)] [] h 0 0
  obtain ⟨MC, hMC⟩ : ∃ x, x = 0 := ⟨_, rfl⟩
  obtain ⟨MS, hMS⟩ : ∃ x, x = 0 := ⟨_, rfl⟩
  rw [show xb_am l D A σ 3 0 0 = xb_am l D A σ 3 MC MS by rw [hMC, hMS]]
  obtain ⟨h0, hh0⟩ : ∃ x, x = h := ⟨_, rfl⟩
  rw [show xb_am l D A σ 3 MC MS h = xb_am l D A σ 3 MC MS h0 by rw [hh0]]
  intro p e s m args below meth c hC H locs ls k n hE hl hR hS hk hn
  obtain ⟨hx, hb, hown, hlocks, htab, hml, hr, hB, hA, hnm⟩ := id hC
  have hts := hB.1.1.at args
  refine lv_lload_n hx hb (xb_d D_Format_nearest 0 rfl) rfl (lv_at hl 3 rfl) ?_
  refine xb_call0 (D := D) (A := A) (σ := σ) (h := h) (d := 2) (maxL := 6) (rest := []) (av := [.long x3]) (fun T hT X => xt_invS X hx hown (hts _ m_3f81cba8) (hts _ m_a350c52f) (hts _ m_912e4ef6) (xt_sgS (hts _ m_041868e1)).1 (xt_sgS (hts _ m_041868e1)).2 nm_Whole_zerosAbove (g := F0 m 1 ls [.long x3]) rfl (argsL := [.long x3]) (rest := []) rfl rfl (by rw [hb]; exact (xb_d D_Format_nearest 1 rfl))) (ok_Whole_zerosAbove l hfl D A σ x3 h _ hw) (hml.trans hl.1.symm) (by rw [hb]; exact (xb_d D_Format_nearest 1 rfl)) (Nat.le_of_ble_eq_true rfl) (Nat.le_of_ble_eq_true rfl) (Nat.le_of_ble_eq_true rfl) (show k ≤ MC by omega) (show n ≤ MS by omega) (xt_w1 hB.1 m_041868e1) (xt_cdOf hB.1 m_041868e1) (hts _ m_912e4ef6) hB hR hS hA (fun vv h1 H locs hq hEh1 hR hS => ?_)
  obtain ⟨r2, rfl, hw⟩ := hq
  have hw := hw hEh1
  have hE := hE.tr hEh1
  refine W.eq (g2 := F0 m 4 ls [.int r2]) rfl ?_
  refine lv_iconst (v := 1) hx hb (xb_d D_Format_nearest 2 rfl) (by decide) ?_
  refine lv_isub hx hb (xb_d D_Format_nearest 3 rfl) ?_
  obtain ⟨v3, ev3⟩ : ∃ x : Int32, x = (r2 - 1) := ⟨_, rfl⟩
  have hw := hw v3 ev3
  refine xt_numi (y := v3) ev3.symm ?_
  refine lv_istore hx hb (xb_d D_Format_nearest 4 rfl) hl (by decide) rfl (fun ls hl => ?_)
  have hl : lv_has ls 20 [(5, .int v3), (0, .ref x0), (1, .int x1), (2, .int x2), (3, .long x3)] := hl
  refine lv_lload_n hx hb (xb_d D_Format_nearest 5 rfl) rfl (lv_at hl 4 rfl) ?_
  refine lv_iload hx hb (xb_d D_Format_nearest 6 rfl) (lv_at hl 0 rfl) ?_
  refine lv_lshl (v := (xb_lshl x3 v3)) hx hb (xb_d D_Format_nearest 7 rfl) rfl ?_
  obtain ⟨v4, ev4⟩ : ∃ x : Int64, x = (xb_lshl x3 v3) := ⟨_, rfl⟩
  have hw := hw v4 ev4
  refine xt_numl (y := v4) ev4.symm ?_
  refine lv_lstore hx hb (xb_d D_Format_nearest 8 rfl) hl (by decide) rfl (fun ls hl => ?_)
  have hl : lv_has ls 20 [(6, .long v4), (5, .int v3), (0, .ref x0), (1, .int x1), (2, .int x2), (3, .long x3)] := hl
  refine lv_iload_n hx hb (xb_d D_Format_nearest 9 rfl) rfl (lv_at hl 4 rfl) ?_
  refine lv_iload hx hb (xb_d D_Format_nearest 10 rfl) (lv_at hl 1 rfl) ?_
  refine lv_isub hx hb (xb_d D_Format_nearest 11 rfl) ?_
  refine lv_bipush (v := 62) hx hb (xb_d D_Format_nearest 12 rfl) (by decide) ?_
  refine lv_iadd hx hb (xb_d D_Format_nearest 13 rfl) ?_
  refine lv_aload_n hx hb (xb_d D_Format_nearest 14 rfl) rfl (lv_at hl 2 rfl) ?_
  obtain ⟨hk5, hw⟩ := hw
  refine xb_getI (C := R_Format) (T := F_Format) (N := 5) hx hb 5 1 hts fin_Format hown hR hk5 (by decide) rfl (by decide) rfl (hts _ m_a74735c5) (fun _ h9 => h9) (xb_d D_Format_nearest 15 rfl) ?_
  refine lv_iadd hx hb (xb_d D_Format_nearest 16 rfl) ?_
  obtain ⟨v6, ev6⟩ : ∃ x : Int32, x = (((x2 - v3) + 62) + (xb_i h1 x0 1)) := ⟨_, rfl⟩
  have hw := hw v6 ev6
  refine xt_numi (y := v6) ev6.symm ?_
  refine lv_istore hx hb (xb_d D_Format_nearest 17 rfl) hl (by decide) rfl (fun ls hl => ?_)
  have hl : lv_has ls 20 [(8, .int v6), (6, .long v4), (5, .int v3), (0, .ref x0), (1, .int x1), (2, .int x2), (3, .long x3)] := hl
  refine lv_iload_n hx hb (xb_d D_Format_nearest 18 rfl) rfl (lv_at hl 4 rfl) ?_
  refine lv_if_eq (tgt := 39) hx hb (xb_d D_Format_nearest 19 rfl) rfl (fun hc7 => ?_) (fun hc7 => ?_)
  · have hw := hw.1 hc7
    refine lv_lconst (v := 0) hx hb (xb_d D_Format_nearest 23 rfl) (by decide) ?_
    exact am_Format_nearest_L40 l hfl D A σ MC MS h0 Qr x0 v4 v6 0 h1 hw p e s m args below meth c hC H locs ls k n hE (lv_sub hl [3, 1, 0] rfl) hR hS (by omega) (by omega)
  · have hw := hw.2 hc7
    refine lv_aload_n hx hb (xb_d D_Format_nearest 20 rfl) rfl (lv_at hl 3 rfl) ?_
    refine xb_getL (C := R_Format) (T := F_Format) (N := 5) hx hb 5 2 hts fin_Format hown hR hk5 (by decide) rfl (by decide) rfl (hts _ m_e3160854) (fun _ h9 => h9) (xb_d D_Format_nearest 21 rfl) ?_
    refine lv_goto (tgt := 40) hx hb (xb_d D_Format_nearest 22 rfl) rfl ?_
    exact am_Format_nearest_L40 l hfl D A σ MC MS h0 Qr x0 v4 v6 (xb_l h1 x0 2) h1 hw p e s m args below meth c hC H locs ls k n hE (lv_sub hl [3, 1, 0] rfl) hR hS (by omega) (by omega)

theorem m_e7046197 : (.methodLink "StackHost$Format" 50 y_Format_isNegative : Cond) ∈ xt_tbl := xt_in (xt_t8 (List.mem_of_getElem? (i := 36) (by decide +kernel))) (by decide +kernel)
theorem m_9e016368 : (.instanceMethod y_Format_isNegative : Cond) ∈ xt_tbl := xt_in (xt_t8 (List.mem_of_getElem? (i := 37) (by decide +kernel))) (by decide +kernel)
theorem m_42f2e51b : (.selects "StackHost$Format" y_Format_isNegative y_Format_isNegative : Cond) ∈ xt_tbl := xt_in (xt_t8 (List.mem_of_getElem? (i := 38) (by decide +kernel))) (by decide +kernel)
theorem m_6ee44111 : (.code y_Format_isNegative b_Format_isNegative 3 (some .boolean) : Cond) ∈ xt_tbl := xt_in (xt_t8 (List.mem_of_getElem? (i := 39) (by decide +kernel))) (by decide +kernel)
theorem m_64857de5 : (.initialized "StackHost$Format" : Cond) ∈ xt_tbl := xt_in (xt_t1 (List.mem_of_getElem? (i := 7) (by decide +kernel))) (by decide +kernel)
theorem m_d2fcf5e9 : (.methodLink "StackHost$Format" 53 y_Format_magnitude : Cond) ∈ xt_tbl := xt_in (xt_t8 (List.mem_of_getElem? (i := 90) (by decide +kernel))) (by decide +kernel)
theorem m_9ed8050f : (.instanceMethod y_Format_magnitude : Cond) ∈ xt_tbl := xt_in (xt_t8 (List.mem_of_getElem? (i := 92) (by decide +kernel))) (by decide +kernel)
theorem m_945e3e7d : (.selects "StackHost$Format" y_Format_magnitude y_Format_magnitude : Cond) ∈ xt_tbl := xt_in (xt_v7 (q := (⟨"StackHost$Format", "magnitude", "(J)J"⟩, 5)) (List.mem_of_getElem? (i := 10) (by decide +kernel))) (by decide +kernel)
theorem m_08158875 : (.code y_Format_magnitude b_Format_magnitude 3 (some .long) : Cond) ∈ xt_tbl := xt_in (xt_t8 (List.mem_of_getElem? (i := 93) (by decide +kernel))) (by decide +kernel)
theorem nm_Format_isNegative : xt_nm y_Format_isNegative 1 := ⟨by decide +kernel, by decide +kernel⟩
theorem nm_Format_magnitude : xt_nm y_Format_magnitude 1 := ⟨by decide +kernel, by decide +kernel⟩
set_option maxRecDepth 100000 in
def T_Format_ordered : List (Nat × Instr × Nat) := [(0, .aload_n 0, 1), (1, .lload_n 1, 1), (2, .invokevirtual 50, 3), (5, .ifCond .eq 12, 3), (8, .aload_n 0, 1), (9, .lload_n 1, 1), (10, .invokevirtual 53, 3), (13, .lneg, 1), (14, .goto 8, 3), (17, .aload_n 0, 1), (18, .lload_n 1, 1), (19, .invokevirtual 53, 3), (22, .lreturn, 1)]
theorem D_Format_ordered : ∀ q ∈ T_Format_ordered, decode b_Format_ordered q.1 = .ok (q.2.1, q.2.2) := by decide +kernel

set_option maxHeartbeats 4000000 in
set_option maxRecDepth 100000 in
theorem am_Format_ordered_L22 (l : Launch) (hfl : l.flags = pinnedFlags ++ [noTraceFlag]) (D : va_G) (A : Nat → Prop) (σ MC MS : Nat) (h0 : xb_H) (Qr : Int64 → xb_H → Prop) (y0 : Int64) (h : xb_H) (hw : w_Format_ordered_L22 Qr y0 h) : xb_am l D A σ 3 MC MS h0 (fun v h _ _ => ∃ r, v = some (.long r) ∧ Qr r h) (fun _ _ _ _ => False) y_Format_ordered.cls y_Format_ordered.name b_Format_ordered 3 ([] : List ExceptionTableEntry) (some .long) 22 [] [.long y0] h 0 0 := by
  unfold w_Format_ordered_L22 at hw
  intro p e s m args below meth c hC H locs ls k n hE hl hR hS hk hn
  obtain ⟨hx, hb, hown, hlocks, htab, hml, hr, hB, hA, hnm⟩ := id hC
  have hts := hB.1.1.at args
  exact xb_lret 0 0 hx hb hr hlocks (show k + 0 ≤ MC by omega) (show n + 0 ≤ MS by omega) hE hR hS (xb_d D_Format_ordered 12 rfl) hw

set_option maxHeartbeats 4000000 in
set_option maxRecDepth 100000 in
theorem ok_Format_ordered (l : Launch) (hfl : l.flags = pinnedFlags ++ [noTraceFlag]) (D : va_G) (A : Nat → Prop) (σ : Nat) (x0 : Nat) (x1 : Int64) (h : xb_H) (Qr : Int64 → xb_H → Prop) (hw : w_Format_ordered x0 x1 h Qr) : xb_Met l y_Format_ordered [.code y_Format_ordered b_Format_ordered 3 (some .long)] (xb_rm 3 0 0) (xb_Pc D A σ h [.ref x0, .long x1]) (xb_Qc D A h 0 0 (fun v h _ _ => ∃ r, v = some (.long r) ∧ Qr r h) (fun _ _ _ _ => False)) A := by
  refine xb_ofAm (cc := b_Format_ordered) (by decide) (Nat.le_of_ble_eq_true rfl) ?_
  unfold w_Format_ordered at hw
  show xb_am l D A σ 3 0 0 h (fun v h _ _ => ∃ r, v = some (.long r) ∧ Qr r h) (fun _ _ _ _ => False) y_Format_ordered.cls y_Format_ordered.name b_Format_ordered 3 ([] : List ExceptionTableEntry) (some .long) 0 [(0, .ref x0), (1, .long x1)] [] h 0 0
  obtain ⟨MC, hMC⟩ : ∃ x, x = 0 := ⟨_, rfl⟩
  obtain ⟨MS, hMS⟩ : ∃ x, x = 0 := ⟨_, rfl⟩
  rw [show xb_am l D A σ 3 0 0 = xb_am l D A σ 3 MC MS by rw [hMC, hMS]]
  obtain ⟨h0, hh0⟩ : ∃ x, x = h := ⟨_, rfl⟩
  rw [show xb_am l D A σ 3 MC MS h = xb_am l D A σ 3 MC MS h0 by rw [hh0]]
  intro p e s m args below meth c hC H locs ls k n hE hl hR hS hk hn
  obtain ⟨hx, hb, hown, hlocks, htab, hml, hr, hB, hA, hnm⟩ := id hC
  have hts := hB.1.1.at args
  refine lv_aload_n hx hb (xb_d D_Format_ordered 0 rfl) rfl (lv_at hl 0 rfl) ?_
  refine lv_lload_n hx hb (xb_d D_Format_ordered 1 rfl) rfl (lv_at hl 1 rfl) ?_
  obtain ⟨hk1, hw⟩ := hw
  refine xb_call0 (D := D) (A := A) (σ := σ) (h := h) (d := 2) (maxL := 3) (rest := []) (av := [.ref x0, .long x1]) (fun T hT X => by obtain ⟨cb9, ra9, rb9, rc9⟩ := xb_recv (ci := 5) hR rfl hk1 (by decide); exact xt_invV X hx hown (hts _ m_e7046197) (hts _ m_9e016368) (hts _ m_42f2e51b) (xt_sigOf (hts _ m_6ee44111)) nm_Format_isNegative (by rw [hT]; exact ra9) rb9 rc9 (g := F0 m 2 ls [.long x1, .ref x0]) rfl (argsL := [.long x1]) (rest := []) rfl rfl (by rw [hb]; exact (xb_d D_Format_ordered 2 rfl))) (ok_Format_isNegative l hfl D A σ x0 x1 h _ hw) (hml.trans hl.1.symm) (by rw [hb]; exact (xb_d D_Format_ordered 2 rfl)) (Nat.le_of_ble_eq_true rfl) (Nat.le_of_ble_eq_true rfl) (Nat.le_of_ble_eq_true rfl) (show k ≤ MC by omega) (show n ≤ MS by omega) (xt_w1 hB.1 m_6ee44111) (xt_cdOf hB.1 m_6ee44111) (hts _ m_64857de5) hB hR hS hA (fun vv h2 H locs hq hEh2 hR hS => ?_)
  obtain ⟨r3, rfl, hw⟩ := hq
  have hw := hw hEh2
  have hE := hE.tr hEh2
  refine W.eq (g2 := F0 m 5 ls [.int r3]) rfl ?_
  refine lv_if_eq (tgt := 17) hx hb (xb_d D_Format_ordered 3 rfl) rfl (fun hc4 => ?_) (fun hc4 => ?_)
  · have hw := hw.1 hc4
    refine lv_aload_n hx hb (xb_d D_Format_ordered 9 rfl) rfl (lv_at hl 0 rfl) ?_
    refine lv_lload_n hx hb (xb_d D_Format_ordered 10 rfl) rfl (lv_at hl 1 rfl) ?_
    have hk1 : xb_k h2 x0 = 6 := hEh2.k hk1
    refine xb_call0 (D := D) (A := A) (σ := σ) (h := h2) (d := 2) (maxL := 3) (rest := []) (av := [.ref x0, .long x1]) (fun T hT X => by obtain ⟨cb9, ra9, rb9, rc9⟩ := xb_recv (ci := 5) hR rfl hk1 (by decide); exact xt_invV X hx hown (hts _ m_d2fcf5e9) (hts _ m_9ed8050f) (hts _ m_945e3e7d) (xt_sigOf (hts _ m_08158875)) nm_Format_magnitude (by rw [hT]; exact ra9) rb9 rc9 (g := F0 m 19 ls [.long x1, .ref x0]) rfl (argsL := [.long x1]) (rest := []) rfl rfl (by rw [hb]; exact (xb_d D_Format_ordered 11 rfl))) (ok_Format_magnitude l hfl D A σ x0 x1 h2 _ hw) (hml.trans hl.1.symm) (by rw [hb]; exact (xb_d D_Format_ordered 11 rfl)) (Nat.le_of_ble_eq_true rfl) (Nat.le_of_ble_eq_true rfl) (Nat.le_of_ble_eq_true rfl) (show k ≤ MC by omega) (show n ≤ MS by omega) (xt_w1 hB.1 m_08158875) (xt_cdOf hB.1 m_08158875) (hts _ m_64857de5) hB hR hS hA (fun vv h5 H locs hq hEh5 hR hS => ?_)
    obtain ⟨r6, rfl, hw⟩ := hq
    have hw := hw hEh5
    have hE := hE.tr hEh5
    refine W.eq (g2 := F0 m 22 ls [.long r6]) rfl ?_
    exact am_Format_ordered_L22 l hfl D A σ MC MS h0 Qr r6 h5 hw p e s m args below meth c hC H locs ls k n hE (lv_sub hl [] rfl) hR hS (by omega) (by omega)
  · have hw := hw.2 hc4
    refine lv_aload_n hx hb (xb_d D_Format_ordered 4 rfl) rfl (lv_at hl 0 rfl) ?_
    refine lv_lload_n hx hb (xb_d D_Format_ordered 5 rfl) rfl (lv_at hl 1 rfl) ?_
    have hk1 : xb_k h2 x0 = 6 := hEh2.k hk1
    refine xb_call0 (D := D) (A := A) (σ := σ) (h := h2) (d := 2) (maxL := 3) (rest := []) (av := [.ref x0, .long x1]) (fun T hT X => by obtain ⟨cb9, ra9, rb9, rc9⟩ := xb_recv (ci := 5) hR rfl hk1 (by decide); exact xt_invV X hx hown (hts _ m_d2fcf5e9) (hts _ m_9ed8050f) (hts _ m_945e3e7d) (xt_sigOf (hts _ m_08158875)) nm_Format_magnitude (by rw [hT]; exact ra9) rb9 rc9 (g := F0 m 10 ls [.long x1, .ref x0]) rfl (argsL := [.long x1]) (rest := []) rfl rfl (by rw [hb]; exact (xb_d D_Format_ordered 6 rfl))) (ok_Format_magnitude l hfl D A σ x0 x1 h2 _ hw) (hml.trans hl.1.symm) (by rw [hb]; exact (xb_d D_Format_ordered 6 rfl)) (Nat.le_of_ble_eq_true rfl) (Nat.le_of_ble_eq_true rfl) (Nat.le_of_ble_eq_true rfl) (show k ≤ MC by omega) (show n ≤ MS by omega) (xt_w1 hB.1 m_08158875) (xt_cdOf hB.1 m_08158875) (hts _ m_64857de5) hB hR hS hA (fun vv h7 H locs hq hEh7 hR hS => ?_)
    obtain ⟨r8, rfl, hw⟩ := hq
    have hw := hw hEh7
    have hE := hE.tr hEh7
    refine W.eq (g2 := F0 m 13 ls [.long r8]) rfl ?_
    refine lv_lneg hx hb (xb_d D_Format_ordered 7 rfl) ?_
    refine lv_goto (tgt := 22) hx hb (xb_d D_Format_ordered 8 rfl) rfl ?_
    exact am_Format_ordered_L22 l hfl D A σ MC MS h0 Qr (-r8) h7 hw p e s m args below meth c hC H locs ls k n hE (lv_sub hl [] rfl) hR hS (by omega) (by omega)

theorem m_3189b10e : (.methodLink "StackHost$Format" 73 y_Format_signed : Cond) ∈ xt_tbl := xt_in (xt_t8 (List.mem_of_getElem? (i := 65) (by decide +kernel))) (by decide +kernel)
theorem m_ac70dee4 : (.instanceMethod y_Format_signed : Cond) ∈ xt_tbl := xt_in (xt_t8 (List.mem_of_getElem? (i := 67) (by decide +kernel))) (by decide +kernel)
theorem m_6afae6d0 : (.selects "StackHost$Format" y_Format_signed y_Format_signed : Cond) ∈ xt_tbl := xt_in (xt_v7 (q := (⟨"StackHost$Format", "signed", "(ZJ)J"⟩, 5)) (List.mem_of_getElem? (i := 5) (by decide +kernel))) (by decide +kernel)
theorem m_a473a09c : (.code y_Format_signed b_Format_signed 4 (some .long) : Cond) ∈ xt_tbl := xt_in (xt_t8 (List.mem_of_getElem? (i := 68) (by decide +kernel))) (by decide +kernel)
theorem m_05bc524f : (.methodLink "StackHost$Format" 69 y_Format_isAway : Cond) ∈ xt_tbl := xt_in (xt_t8 (List.mem_of_getElem? (i := 102) (by decide +kernel))) (by decide +kernel)
theorem m_2dee8f35 : (.static y_Format_isAway : Cond) ∈ xt_tbl := xt_in (xt_t8 (List.mem_of_getElem? (i := 103) (by decide +kernel))) (by decide +kernel)
theorem m_22ef44d1 : (.code y_Format_isAway b_Format_isAway 3 (some .boolean) : Cond) ∈ xt_tbl := xt_in (xt_t8 (List.mem_of_getElem? (i := 104) (by decide +kernel))) (by decide +kernel)
theorem m_790c0ce9 : (.methodLink "StackHost$Format" 63 y_Format_power : Cond) ∈ xt_tbl := xt_in (xt_t8 (List.mem_of_getElem? (i := 28) (by decide +kernel))) (by decide +kernel)
theorem m_493d47bb : (.instanceMethod y_Format_power : Cond) ∈ xt_tbl := xt_in (xt_t8 (List.mem_of_getElem? (i := 30) (by decide +kernel))) (by decide +kernel)
theorem m_ec26896d : (.selects "StackHost$Format" y_Format_power y_Format_power : Cond) ∈ xt_tbl := xt_in (xt_v7 (q := (⟨"StackHost$Format", "power", "(J)I"⟩, 5)) (List.mem_of_getElem? (i := 1) (by decide +kernel))) (by decide +kernel)
theorem m_93bb879e : (.code y_Format_power b_Format_power 3 (some .int) : Cond) ∈ xt_tbl := xt_in (xt_t8 (List.mem_of_getElem? (i := 31) (by decide +kernel))) (by decide +kernel)
theorem m_113bafb3 : (.methodLink "StackHost$Format" 66 y_Format_isZero : Cond) ∈ xt_tbl := xt_in (xt_t8 (List.mem_of_getElem? (i := 69) (by decide +kernel))) (by decide +kernel)
theorem m_ac384f2f : (.instanceMethod y_Format_isZero : Cond) ∈ xt_tbl := xt_in (xt_t8 (List.mem_of_getElem? (i := 71) (by decide +kernel))) (by decide +kernel)
theorem m_7587e6d0 : (.selects "StackHost$Format" y_Format_isZero y_Format_isZero : Cond) ∈ xt_tbl := xt_in (xt_v7 (q := (⟨"StackHost$Format", "isZero", "(J)Z"⟩, 5)) (List.mem_of_getElem? (i := 6) (by decide +kernel))) (by decide +kernel)
theorem m_8c0ed8f1 : (.code y_Format_isZero b_Format_isZero 3 (some .boolean) : Cond) ∈ xt_tbl := xt_in (xt_t8 (List.mem_of_getElem? (i := 72) (by decide +kernel))) (by decide +kernel)
theorem nm_Format_signed : xt_nm y_Format_signed 2 := ⟨by decide +kernel, by decide +kernel⟩
theorem nm_Format_isAway : xt_nm y_Format_isAway 3 := ⟨by decide +kernel, by decide +kernel⟩
theorem nm_Format_power : xt_nm y_Format_power 1 := ⟨by decide +kernel, by decide +kernel⟩
theorem nm_Format_isZero : xt_nm y_Format_isZero 1 := ⟨by decide +kernel, by decide +kernel⟩
set_option maxRecDepth 100000 in
def T_Format_rounded : List (Nat × Instr × Nat) := [(0, .aload_n 0, 1), (1, .lload_n 2, 1), (2, .invokevirtual 63, 3), (5, .istore 4, 2), (7, .iload 4, 2), (9, .aload_n 0, 1), (10, .getfield 9, 3), (13, .iconst 1, 1), (14, .isub, 1), (15, .if_icmp .ge 11, 3), (18, .aload_n 0, 1), (19, .lload_n 2, 1), (20, .invokevirtual 66, 3), (23, .ifCond .eq 5, 3), (26, .lload_n 2, 1), (27, .lreturn, 1), (28, .aload_n 0, 1), (29, .lload_n 2, 1), (30, .invokevirtual 50, 3), (33, .istore 5, 2), (35, .aload_n 0, 1), (36, .lload_n 2, 1), (37, .invokevirtual 53, 3), (40, .lstore 6, 2), (42, .iload 4, 2), (44, .ifCond .ge 74, 3), (47, .iload 4, 2), (49, .iconst (-1), 1), (50, .if_icmp .ne 27, 3), (53, .lload 6, 2), (55, .aload_n 0, 1), (56, .getfield 15, 3), (59, .iconst 1, 1), (60, .isub, 1), (61, .i2l, 1), (62, .aload_n 0, 1), (63, .getfield 9, 3), (66, .iconst 1, 1), (67, .isub, 1), (68, .lshl, 1), (69, .lcmp, 1), (70, .ifCond .le 7, 3), (73, .iconst 1, 1), (74, .goto 4, 3), (77, .iconst 0, 1), (78, .istore 8, 2), (80, .iload_n 1, 1), (81, .iload 5, 2), (83, .iload 8, 2), (85, .invokestatic 69, 3), (88, .istore 9, 2), (90, .aload_n 0, 1), (91, .iload 5, 2), (93, .iload 9, 2), (95, .ifCond .eq 18, 3), (98, .aload_n 0, 1), (99, .getfield 15, 3), (102, .i2l, 1), (103, .aload_n 0, 1), (104, .getfield 9, 3), (107, .iconst 1, 1), (108, .isub, 1), (109, .lshl, 1), (110, .goto 4, 3), (113, .lconst 0, 1), (114, .invokevirtual 73, 3), (117, .lreturn, 1), (118, .aload_n 0, 1), (119, .getfield 9, 3), (122, .iconst 1, 1), (123, .isub, 1), (124, .iload 4, 2), (126, .isub, 1), (127, .istore 8, 2), (129, .lload 6, 2), (131, .lconst 1, 1), (132, .iload 8, 2), (134, .lshl, 1), (135, .lconst 1, 1), (136, .lsub, 1), (137, .land, 1), (138, .lstore 9, 2), (140, .lload 6, 2), (142, .lload 9, 2), (144, .lsub, 1), (145, .lstore 11, 2), (147, .lload 9, 2), (149, .lconst 0, 1), (150, .lcmp, 1), (151, .ifCond .ne 5, 3), (154, .lload_n 2, 1), (155, .lreturn, 1), (156, .lconst 1, 1), (157, .iload 8, 2), (159, .iconst 1, 1), (160, .isub, 1), (161, .lshl, 1), (162, .lstore 13, 2), (164, .lload 11, 2), (166, .iload 8, 2), (168, .lushr, 1), (169, .lconst 1, 1), (170, .land, 1), (171, .lconst 1, 1), (172, .lcmp, 1), (173, .ifCond .ne 7, 3), (176, .iconst 1, 1), (177, .goto 4, 3), (180, .iconst 0, 1), (181, .istore 15, 2), (183, .iload_n 1, 1), (184, .iload 5, 2), (186, .lload 9, 2), (188, .lload 13, 2), (190, .lcmp, 1), (191, .ifCond .gt 16, 3), (194, .lload 9, 2), (196, .lload 13, 2), (198, .lcmp, 1), (199, .ifCond .ne 12, 3), (202, .iload 15, 2), (204, .ifCond .eq 7, 3), (207, .iconst 1, 1), (208, .goto 4, 3), (211, .iconst 0, 1), (212, .invokestatic 69, 3), (215, .istore 16, 2), (217, .aload_n 0, 1), (218, .iload 5, 2), (220, .iload 16, 2), (222, .ifCond .eq 13, 3), (225, .lload 11, 2), (227, .lconst 1, 1), (228, .iload 8, 2), (230, .lshl, 1), (231, .ladd, 1), (232, .goto 5, 3), (235, .lload 11, 2), (237, .invokevirtual 73, 3), (240, .lreturn, 1)]
theorem D_Format_rounded : ∀ q ∈ T_Format_rounded, decode b_Format_rounded q.1 = .ok (q.2.1, q.2.2) := by decide +kernel

set_option maxHeartbeats 4000000 in
set_option maxRecDepth 100000 in
theorem am_Format_rounded_L237 (l : Launch) (hfl : l.flags = pinnedFlags ++ [noTraceFlag]) (D : va_G) (A : Nat → Prop) (σ MC MS : Nat) (h0 : xb_H) (Qr : Int64 → xb_H → Prop) (y0 : Int64) (y1 : Int32) (y2 : Nat) (h : xb_H) (hw : w_Format_rounded_L237 Qr y0 y1 y2 h) : xb_am l D A σ 3 MC MS h0 (fun v h _ _ => ∃ r, v = some (.long r) ∧ Qr r h) (fun _ _ _ _ => False) y_Format_rounded.cls y_Format_rounded.name b_Format_rounded 17 ([] : List ExceptionTableEntry) (some .long) 237 [] [.long y0, .int y1, .ref y2] h 0 0 := by
  unfold w_Format_rounded_L237 at hw
  intro p e s m args below meth c hC H locs ls k n hE hl hR hS hk hn
  obtain ⟨hx, hb, hown, hlocks, htab, hml, hr, hB, hA, hnm⟩ := id hC
  have hts := hB.1.1.at args
  obtain ⟨hk1, hw⟩ := hw
  refine xb_call0 (D := D) (A := A) (σ := σ) (h := h) (d := 2) (maxL := 4) (rest := []) (av := [.ref y2, .int y1, .long y0]) (fun T hT X => by obtain ⟨cb9, ra9, rb9, rc9⟩ := xb_recv (ci := 5) hR rfl hk1 (by decide); exact xt_invV X hx hown (hts _ m_3189b10e) (hts _ m_ac70dee4) (hts _ m_6afae6d0) (xt_sigOf (hts _ m_a473a09c)) nm_Format_signed (by rw [hT]; exact ra9) rb9 rc9 (g := F0 m 237 ls [.long y0, .int y1, .ref y2]) rfl (argsL := [.int y1, .long y0]) (rest := []) rfl rfl (by rw [hb]; exact (xb_d D_Format_rounded 138 rfl))) (ok_Format_signed l hfl D A σ y2 y1 y0 h _ hw) (hml.trans hl.1.symm) (by rw [hb]; exact (xb_d D_Format_rounded 138 rfl)) (Nat.le_of_ble_eq_true rfl) (Nat.le_of_ble_eq_true rfl) (Nat.le_of_ble_eq_true rfl) (show k ≤ MC by omega) (show n ≤ MS by omega) (xt_w1 hB.1 m_a473a09c) (xt_cdOf hB.1 m_a473a09c) (hts _ m_64857de5) hB hR hS hA (fun vv h2 H locs hq hEh2 hR hS => ?_)
  obtain ⟨r3, rfl, hw⟩ := hq
  have hw := hw hEh2
  have hE := hE.tr hEh2
  refine W.eq (g2 := F0 m 240 ls [.long r3]) rfl ?_
  exact xb_lret 0 0 hx hb hr hlocks (show k + 0 ≤ MC by omega) (show n + 0 ≤ MS by omega) hE hR hS (xb_d D_Format_rounded 139 rfl) hw

set_option maxHeartbeats 4000000 in
set_option maxRecDepth 100000 in
theorem am_Format_rounded_L212 (l : Launch) (hfl : l.flags = pinnedFlags ++ [noTraceFlag]) (D : va_G) (A : Nat → Prop) (σ MC MS : Nat) (h0 : xb_H) (Qr : Int64 → xb_H → Prop) (x0 : Nat) (x5 : Int32) (x8 : Int32) (x11 : Int64) (y0 : Int32) (y1 : Int32) (y2 : Int32) (h : xb_H) (hw : w_Format_rounded_L212 Qr x0 x5 x8 x11 y0 y1 y2 h) : xb_am l D A σ 3 MC MS h0 (fun v h _ _ => ∃ r, v = some (.long r) ∧ Qr r h) (fun _ _ _ _ => False) y_Format_rounded.cls y_Format_rounded.name b_Format_rounded 17 ([] : List ExceptionTableEntry) (some .long) 212 [(0, .ref x0), (5, .int x5), (8, .int x8), (11, .long x11)] [.int y0, .int y1, .int y2] h 0 0 := by
  unfold w_Format_rounded_L212 at hw
  intro p e s m args below meth c hC H locs ls k n hE hl hR hS hk hn
  obtain ⟨hx, hb, hown, hlocks, htab, hml, hr, hB, hA, hnm⟩ := id hC
  have hts := hB.1.1.at args
  refine xb_call0 (D := D) (A := A) (σ := σ) (h := h) (d := 2) (maxL := 3) (rest := []) (av := [.int y2, .int y1, .int y0]) (fun T hT X => xt_invS X hx hown (hts _ m_05bc524f) (hts _ m_2dee8f35) (hts _ m_64857de5) (xt_sgS (hts _ m_22ef44d1)).1 (xt_sgS (hts _ m_22ef44d1)).2 nm_Format_isAway (g := F0 m 212 ls [.int y0, .int y1, .int y2]) rfl (argsL := [.int y2, .int y1, .int y0]) (rest := []) rfl rfl (by rw [hb]; exact (xb_d D_Format_rounded 125 rfl))) (ok_Format_isAway l hfl D A σ y2 y1 y0 h _ hw) (hml.trans hl.1.symm) (by rw [hb]; exact (xb_d D_Format_rounded 125 rfl)) (Nat.le_of_ble_eq_true rfl) (Nat.le_of_ble_eq_true rfl) (Nat.le_of_ble_eq_true rfl) (show k ≤ MC by omega) (show n ≤ MS by omega) (xt_w1 hB.1 m_22ef44d1) (xt_cdOf hB.1 m_22ef44d1) (hts _ m_64857de5) hB hR hS hA (fun vv h1 H locs hq hEh1 hR hS => ?_)
  obtain ⟨r2, rfl, hw⟩ := hq
  have hw := hw hEh1
  have hE := hE.tr hEh1
  refine W.eq (g2 := F0 m 215 ls [.int r2]) rfl ?_
  refine lv_istore hx hb (xb_d D_Format_rounded 126 rfl) hl (by decide) rfl (fun ls hl => ?_)
  have hl : lv_has ls 17 [(16, .int r2), (0, .ref x0), (5, .int x5), (8, .int x8), (11, .long x11)] := hl
  refine lv_aload_n hx hb (xb_d D_Format_rounded 127 rfl) rfl (lv_at hl 1 rfl) ?_
  refine lv_iload hx hb (xb_d D_Format_rounded 128 rfl) (lv_at hl 2 rfl) ?_
  refine lv_iload hx hb (xb_d D_Format_rounded 129 rfl) (lv_at hl 0 rfl) ?_
  refine lv_if_eq (tgt := 235) hx hb (xb_d D_Format_rounded 130 rfl) rfl (fun hc3 => ?_) (fun hc3 => ?_)
  · have hw := hw.1 hc3
    refine lv_lload hx hb (xb_d D_Format_rounded 137 rfl) (lv_at hl 4 rfl) ?_
    exact am_Format_rounded_L237 l hfl D A σ MC MS h0 Qr x11 x5 x0 h1 hw p e s m args below meth c hC H locs ls k n hE (lv_sub hl [] rfl) hR hS (by omega) (by omega)
  · have hw := hw.2 hc3
    refine lv_lload hx hb (xb_d D_Format_rounded 131 rfl) (lv_at hl 4 rfl) ?_
    refine lv_lconst (v := 1) hx hb (xb_d D_Format_rounded 132 rfl) (by decide) ?_
    refine lv_iload hx hb (xb_d D_Format_rounded 133 rfl) (lv_at hl 3 rfl) ?_
    refine lv_lshl (v := (xb_lshl 1 x8)) hx hb (xb_d D_Format_rounded 134 rfl) rfl ?_
    refine lv_ladd hx hb (xb_d D_Format_rounded 135 rfl) ?_
    refine lv_goto (tgt := 237) hx hb (xb_d D_Format_rounded 136 rfl) rfl ?_
    exact am_Format_rounded_L237 l hfl D A σ MC MS h0 Qr (x11 + (xb_lshl 1 x8)) x5 x0 h1 hw p e s m args below meth c hC H locs ls k n hE (lv_sub hl [] rfl) hR hS (by omega) (by omega)

set_option maxHeartbeats 4000000 in
set_option maxRecDepth 100000 in
theorem am_Format_rounded_L211 (l : Launch) (hfl : l.flags = pinnedFlags ++ [noTraceFlag]) (D : va_G) (A : Nat → Prop) (σ MC MS : Nat) (h0 : xb_H) (Qr : Int64 → xb_H → Prop) (x0 : Nat) (x5 : Int32) (x8 : Int32) (x11 : Int64) (y0 : Int32) (y1 : Int32) (h : xb_H) (hw : w_Format_rounded_L211 Qr x0 x5 x8 x11 y0 y1 h) : xb_am l D A σ 3 MC MS h0 (fun v h _ _ => ∃ r, v = some (.long r) ∧ Qr r h) (fun _ _ _ _ => False) y_Format_rounded.cls y_Format_rounded.name b_Format_rounded 17 ([] : List ExceptionTableEntry) (some .long) 211 [(0, .ref x0), (5, .int x5), (8, .int x8), (11, .long x11)] [.int y0, .int y1] h 0 0 := by
  unfold w_Format_rounded_L211 at hw
  intro p e s m args below meth c hC H locs ls k n hE hl hR hS hk hn
  obtain ⟨hx, hb, hown, hlocks, htab, hml, hr, hB, hA, hnm⟩ := id hC
  have hts := hB.1.1.at args
  refine lv_iconst (v := 0) hx hb (xb_d D_Format_rounded 124 rfl) (by decide) ?_
  exact am_Format_rounded_L212 l hfl D A σ MC MS h0 Qr x0 x5 x8 x11 0 y0 y1 h hw p e s m args below meth c hC H locs ls k n hE (lv_sub hl [0, 1, 2, 3] rfl) hR hS (by omega) (by omega)

set_option maxHeartbeats 4000000 in
set_option maxRecDepth 100000 in
theorem am_Format_rounded_L207 (l : Launch) (hfl : l.flags = pinnedFlags ++ [noTraceFlag]) (D : va_G) (A : Nat → Prop) (σ MC MS : Nat) (h0 : xb_H) (Qr : Int64 → xb_H → Prop) (x0 : Nat) (x5 : Int32) (x8 : Int32) (x11 : Int64) (y0 : Int32) (y1 : Int32) (h : xb_H) (hw : w_Format_rounded_L207 Qr x0 x5 x8 x11 y0 y1 h) : xb_am l D A σ 3 MC MS h0 (fun v h _ _ => ∃ r, v = some (.long r) ∧ Qr r h) (fun _ _ _ _ => False) y_Format_rounded.cls y_Format_rounded.name b_Format_rounded 17 ([] : List ExceptionTableEntry) (some .long) 207 [(0, .ref x0), (5, .int x5), (8, .int x8), (11, .long x11)] [.int y0, .int y1] h 0 0 := by
  unfold w_Format_rounded_L207 at hw
  intro p e s m args below meth c hC H locs ls k n hE hl hR hS hk hn
  obtain ⟨hx, hb, hown, hlocks, htab, hml, hr, hB, hA, hnm⟩ := id hC
  have hts := hB.1.1.at args
  refine lv_iconst (v := 1) hx hb (xb_d D_Format_rounded 122 rfl) (by decide) ?_
  refine lv_goto (tgt := 212) hx hb (xb_d D_Format_rounded 123 rfl) rfl ?_
  exact am_Format_rounded_L212 l hfl D A σ MC MS h0 Qr x0 x5 x8 x11 1 y0 y1 h hw p e s m args below meth c hC H locs ls k n hE (lv_sub hl [0, 1, 2, 3] rfl) hR hS (by omega) (by omega)

set_option maxHeartbeats 4000000 in
set_option maxRecDepth 100000 in
theorem am_Format_rounded_L181 (l : Launch) (hfl : l.flags = pinnedFlags ++ [noTraceFlag]) (D : va_G) (A : Nat → Prop) (σ MC MS : Nat) (h0 : xb_H) (Qr : Int64 → xb_H → Prop) (x0 : Nat) (x1 : Int32) (x5 : Int32) (x8 : Int32) (x9 : Int64) (x11 : Int64) (x13 : Int64) (y0 : Int32) (h : xb_H) (hw : w_Format_rounded_L181 Qr x0 x1 x5 x8 x9 x11 x13 y0 h) : xb_am l D A σ 3 MC MS h0 (fun v h _ _ => ∃ r, v = some (.long r) ∧ Qr r h) (fun _ _ _ _ => False) y_Format_rounded.cls y_Format_rounded.name b_Format_rounded 17 ([] : List ExceptionTableEntry) (some .long) 181 [(0, .ref x0), (1, .int x1), (5, .int x5), (8, .int x8), (9, .long x9), (11, .long x11), (13, .long x13)] [.int y0] h 0 0 := by
  unfold w_Format_rounded_L181 at hw
  intro p e s m args below meth c hC H locs ls k n hE hl hR hS hk hn
  obtain ⟨hx, hb, hown, hlocks, htab, hml, hr, hB, hA, hnm⟩ := id hC
  have hts := hB.1.1.at args
  refine lv_istore hx hb (xb_d D_Format_rounded 109 rfl) hl (by decide) rfl (fun ls hl => ?_)
  have hl : lv_has ls 17 [(15, .int y0), (0, .ref x0), (1, .int x1), (5, .int x5), (8, .int x8), (9, .long x9), (11, .long x11), (13, .long x13)] := hl
  refine lv_iload_n hx hb (xb_d D_Format_rounded 110 rfl) rfl (lv_at hl 2 rfl) ?_
  refine lv_iload hx hb (xb_d D_Format_rounded 111 rfl) (lv_at hl 3 rfl) ?_
  refine lv_lload hx hb (xb_d D_Format_rounded 112 rfl) (lv_at hl 5 rfl) ?_
  refine lv_lload hx hb (xb_d D_Format_rounded 113 rfl) (lv_at hl 7 rfl) ?_
  refine xb_lc_gt (tgt := 207) hx hb (xb_d D_Format_rounded 114 rfl) (xb_d D_Format_rounded 115 rfl) rfl (fun hc1 => ?_) (fun hc1 => ?_)
  · have hw := hw.1 hc1
    exact am_Format_rounded_L207 l hfl D A σ MC MS h0 Qr x0 x5 x8 x11 x5 x1 h hw p e s m args below meth c hC H locs ls k n hE (lv_sub hl [1, 3, 4, 6] rfl) hR hS (by omega) (by omega)
  · have hw := hw.2 hc1
    refine lv_lload hx hb (xb_d D_Format_rounded 116 rfl) (lv_at hl 5 rfl) ?_
    refine lv_lload hx hb (xb_d D_Format_rounded 117 rfl) (lv_at hl 7 rfl) ?_
    refine xb_lc_ne (tgt := 211) hx hb (xb_d D_Format_rounded 118 rfl) (xb_d D_Format_rounded 119 rfl) rfl (fun hc2 => ?_) (fun hc2 => ?_)
    · have hw := hw.1 hc2
      exact am_Format_rounded_L211 l hfl D A σ MC MS h0 Qr x0 x5 x8 x11 x5 x1 h hw p e s m args below meth c hC H locs ls k n hE (lv_sub hl [1, 3, 4, 6] rfl) hR hS (by omega) (by omega)
    · have hw := hw.2 hc2
      refine lv_iload hx hb (xb_d D_Format_rounded 120 rfl) (lv_at hl 0 rfl) ?_
      refine lv_if_eq (tgt := 211) hx hb (xb_d D_Format_rounded 121 rfl) rfl (fun hc3 => ?_) (fun hc3 => ?_)
      · have hw := hw.1 hc3
        exact am_Format_rounded_L211 l hfl D A σ MC MS h0 Qr x0 x5 x8 x11 x5 x1 h hw p e s m args below meth c hC H locs ls k n hE (lv_sub hl [1, 3, 4, 6] rfl) hR hS (by omega) (by omega)
      · have hw := hw.2 hc3
        exact am_Format_rounded_L207 l hfl D A σ MC MS h0 Qr x0 x5 x8 x11 x5 x1 h hw p e s m args below meth c hC H locs ls k n hE (lv_sub hl [1, 3, 4, 6] rfl) hR hS (by omega) (by omega)

set_option maxHeartbeats 4000000 in
set_option maxRecDepth 100000 in
theorem am_Format_rounded_L114 (l : Launch) (hfl : l.flags = pinnedFlags ++ [noTraceFlag]) (D : va_G) (A : Nat → Prop) (σ MC MS : Nat) (h0 : xb_H) (Qr : Int64 → xb_H → Prop) (y0 : Int64) (y1 : Int32) (y2 : Nat) (h : xb_H) (hw : w_Format_rounded_L114 Qr y0 y1 y2 h) : xb_am l D A σ 3 MC MS h0 (fun v h _ _ => ∃ r, v = some (.long r) ∧ Qr r h) (fun _ _ _ _ => False) y_Format_rounded.cls y_Format_rounded.name b_Format_rounded 17 ([] : List ExceptionTableEntry) (some .long) 114 [] [.long y0, .int y1, .ref y2] h 0 0 := by
  unfold w_Format_rounded_L114 at hw
  intro p e s m args below meth c hC H locs ls k n hE hl hR hS hk hn
  obtain ⟨hx, hb, hown, hlocks, htab, hml, hr, hB, hA, hnm⟩ := id hC
  have hts := hB.1.1.at args
  obtain ⟨hk1, hw⟩ := hw
  refine xb_call0 (D := D) (A := A) (σ := σ) (h := h) (d := 2) (maxL := 4) (rest := []) (av := [.ref y2, .int y1, .long y0]) (fun T hT X => by obtain ⟨cb9, ra9, rb9, rc9⟩ := xb_recv (ci := 5) hR rfl hk1 (by decide); exact xt_invV X hx hown (hts _ m_3189b10e) (hts _ m_ac70dee4) (hts _ m_6afae6d0) (xt_sigOf (hts _ m_a473a09c)) nm_Format_signed (by rw [hT]; exact ra9) rb9 rc9 (g := F0 m 114 ls [.long y0, .int y1, .ref y2]) rfl (argsL := [.int y1, .long y0]) (rest := []) rfl rfl (by rw [hb]; exact (xb_d D_Format_rounded 65 rfl))) (ok_Format_signed l hfl D A σ y2 y1 y0 h _ hw) (hml.trans hl.1.symm) (by rw [hb]; exact (xb_d D_Format_rounded 65 rfl)) (Nat.le_of_ble_eq_true rfl) (Nat.le_of_ble_eq_true rfl) (Nat.le_of_ble_eq_true rfl) (show k ≤ MC by omega) (show n ≤ MS by omega) (xt_w1 hB.1 m_a473a09c) (xt_cdOf hB.1 m_a473a09c) (hts _ m_64857de5) hB hR hS hA (fun vv h2 H locs hq hEh2 hR hS => ?_)
  obtain ⟨r3, rfl, hw⟩ := hq
  have hw := hw hEh2
  have hE := hE.tr hEh2
  refine W.eq (g2 := F0 m 117 ls [.long r3]) rfl ?_
  exact xb_lret 0 0 hx hb hr hlocks (show k + 0 ≤ MC by omega) (show n + 0 ≤ MS by omega) hE hR hS (xb_d D_Format_rounded 66 rfl) hw

set_option maxHeartbeats 4000000 in
set_option maxRecDepth 100000 in
theorem am_Format_rounded_L78 (l : Launch) (hfl : l.flags = pinnedFlags ++ [noTraceFlag]) (D : va_G) (A : Nat → Prop) (σ MC MS : Nat) (h0 : xb_H) (Qr : Int64 → xb_H → Prop) (x0 : Nat) (x1 : Int32) (x5 : Int32) (y0 : Int32) (h : xb_H) (hw : w_Format_rounded_L78 Qr x0 x1 x5 y0 h) : xb_am l D A σ 3 MC MS h0 (fun v h _ _ => ∃ r, v = some (.long r) ∧ Qr r h) (fun _ _ _ _ => False) y_Format_rounded.cls y_Format_rounded.name b_Format_rounded 17 ([] : List ExceptionTableEntry) (some .long) 78 [(0, .ref x0), (1, .int x1), (5, .int x5)] [.int y0] h 0 0 := by
  unfold w_Format_rounded_L78 at hw
  intro p e s m args below meth c hC H locs ls k n hE hl hR hS hk hn
  obtain ⟨hx, hb, hown, hlocks, htab, hml, hr, hB, hA, hnm⟩ := id hC
  have hts := hB.1.1.at args
  refine lv_istore hx hb (xb_d D_Format_rounded 45 rfl) hl (by decide) rfl (fun ls hl => ?_)
  have hl : lv_has ls 17 [(8, .int y0), (0, .ref x0), (1, .int x1), (5, .int x5)] := hl
  refine lv_iload_n hx hb (xb_d D_Format_rounded 46 rfl) rfl (lv_at hl 2 rfl) ?_
  refine lv_iload hx hb (xb_d D_Format_rounded 47 rfl) (lv_at hl 3 rfl) ?_
  refine lv_iload hx hb (xb_d D_Format_rounded 48 rfl) (lv_at hl 0 rfl) ?_
  refine xb_call0 (D := D) (A := A) (σ := σ) (h := h) (d := 2) (maxL := 3) (rest := []) (av := [.int x1, .int x5, .int y0]) (fun T hT X => xt_invS X hx hown (hts _ m_05bc524f) (hts _ m_2dee8f35) (hts _ m_64857de5) (xt_sgS (hts _ m_22ef44d1)).1 (xt_sgS (hts _ m_22ef44d1)).2 nm_Format_isAway (g := F0 m 85 ls [.int y0, .int x5, .int x1]) rfl (argsL := [.int x1, .int x5, .int y0]) (rest := []) rfl rfl (by rw [hb]; exact (xb_d D_Format_rounded 49 rfl))) (ok_Format_isAway l hfl D A σ x1 x5 y0 h _ hw) (hml.trans hl.1.symm) (by rw [hb]; exact (xb_d D_Format_rounded 49 rfl)) (Nat.le_of_ble_eq_true rfl) (Nat.le_of_ble_eq_true rfl) (Nat.le_of_ble_eq_true rfl) (show k ≤ MC by omega) (show n ≤ MS by omega) (xt_w1 hB.1 m_22ef44d1) (xt_cdOf hB.1 m_22ef44d1) (hts _ m_64857de5) hB hR hS hA (fun vv h1 H locs hq hEh1 hR hS => ?_)
  obtain ⟨r2, rfl, hw⟩ := hq
  have hw := hw hEh1
  have hE := hE.tr hEh1
  refine W.eq (g2 := F0 m 88 ls [.int r2]) rfl ?_
  refine lv_istore hx hb (xb_d D_Format_rounded 50 rfl) hl (by decide) rfl (fun ls hl => ?_)
  have hl : lv_has ls 17 [(9, .int r2), (8, .int y0), (0, .ref x0), (1, .int x1), (5, .int x5)] := hl
  refine lv_aload_n hx hb (xb_d D_Format_rounded 51 rfl) rfl (lv_at hl 2 rfl) ?_
  refine lv_iload hx hb (xb_d D_Format_rounded 52 rfl) (lv_at hl 4 rfl) ?_
  refine lv_iload hx hb (xb_d D_Format_rounded 53 rfl) (lv_at hl 0 rfl) ?_
  refine lv_if_eq (tgt := 113) hx hb (xb_d D_Format_rounded 54 rfl) rfl (fun hc3 => ?_) (fun hc3 => ?_)
  · have hw := hw.1 hc3
    refine lv_lconst (v := 0) hx hb (xb_d D_Format_rounded 64 rfl) (by decide) ?_
    exact am_Format_rounded_L114 l hfl D A σ MC MS h0 Qr 0 x5 x0 h1 hw p e s m args below meth c hC H locs ls k n hE (lv_sub hl [] rfl) hR hS (by omega) (by omega)
  · have hw := hw.2 hc3
    refine lv_aload_n hx hb (xb_d D_Format_rounded 55 rfl) rfl (lv_at hl 2 rfl) ?_
    obtain ⟨hk4, hw⟩ := hw
    refine xb_getI (C := R_Format) (T := F_Format) (N := 5) hx hb 5 1 hts fin_Format hown hR hk4 (by decide) rfl (by decide) rfl (hts _ m_a74735c5) (fun _ h9 => h9) (xb_d D_Format_rounded 56 rfl) ?_
    refine lv_i2l hx hb (xb_d D_Format_rounded 57 rfl) rfl ?_
    refine lv_aload_n hx hb (xb_d D_Format_rounded 58 rfl) rfl (lv_at hl 2 rfl) ?_
    refine xb_getI (C := R_Format) (T := F_Format) (N := 5) hx hb 5 0 hts fin_Format hown hR hk4 (by decide) rfl (by decide) rfl (hts _ m_019aecde) (fun _ h9 => h9) (xb_d D_Format_rounded 59 rfl) ?_
    refine lv_iconst (v := 1) hx hb (xb_d D_Format_rounded 60 rfl) (by decide) ?_
    refine lv_isub hx hb (xb_d D_Format_rounded 61 rfl) ?_
    refine lv_lshl (v := (xb_lshl (Int32.toInt64 (xb_i h1 x0 1)) ((xb_i h1 x0 0) - 1))) hx hb (xb_d D_Format_rounded 62 rfl) rfl ?_
    refine lv_goto (tgt := 114) hx hb (xb_d D_Format_rounded 63 rfl) rfl ?_
    exact am_Format_rounded_L114 l hfl D A σ MC MS h0 Qr (xb_lshl (Int32.toInt64 (xb_i h1 x0 1)) ((xb_i h1 x0 0) - 1)) x5 x0 h1 hw p e s m args below meth c hC H locs ls k n hE (lv_sub hl [] rfl) hR hS (by omega) (by omega)

set_option maxHeartbeats 4000000 in
set_option maxRecDepth 100000 in
theorem am_Format_rounded_L77 (l : Launch) (hfl : l.flags = pinnedFlags ++ [noTraceFlag]) (D : va_G) (A : Nat → Prop) (σ MC MS : Nat) (h0 : xb_H) (Qr : Int64 → xb_H → Prop) (x0 : Nat) (x1 : Int32) (x5 : Int32) (h : xb_H) (hw : w_Format_rounded_L77 Qr x0 x1 x5 h) : xb_am l D A σ 3 MC MS h0 (fun v h _ _ => ∃ r, v = some (.long r) ∧ Qr r h) (fun _ _ _ _ => False) y_Format_rounded.cls y_Format_rounded.name b_Format_rounded 17 ([] : List ExceptionTableEntry) (some .long) 77 [(0, .ref x0), (1, .int x1), (5, .int x5)] [] h 0 0 := by
  unfold w_Format_rounded_L77 at hw
  intro p e s m args below meth c hC H locs ls k n hE hl hR hS hk hn
  obtain ⟨hx, hb, hown, hlocks, htab, hml, hr, hB, hA, hnm⟩ := id hC
  have hts := hB.1.1.at args
  refine lv_iconst (v := 0) hx hb (xb_d D_Format_rounded 44 rfl) (by decide) ?_
  exact am_Format_rounded_L78 l hfl D A σ MC MS h0 Qr x0 x1 x5 0 h hw p e s m args below meth c hC H locs ls k n hE (lv_sub hl [0, 1, 2] rfl) hR hS (by omega) (by omega)

set_option maxHeartbeats 4000000 in
set_option maxRecDepth 100000 in
theorem am_Format_rounded_L26 (l : Launch) (hfl : l.flags = pinnedFlags ++ [noTraceFlag]) (D : va_G) (A : Nat → Prop) (σ MC MS : Nat) (h0 : xb_H) (Qr : Int64 → xb_H → Prop) (x2 : Int64) (h : xb_H) (hw : w_Format_rounded_L26 Qr x2 h) : xb_am l D A σ 3 MC MS h0 (fun v h _ _ => ∃ r, v = some (.long r) ∧ Qr r h) (fun _ _ _ _ => False) y_Format_rounded.cls y_Format_rounded.name b_Format_rounded 17 ([] : List ExceptionTableEntry) (some .long) 26 [(2, .long x2)] [] h 0 0 := by
  unfold w_Format_rounded_L26 at hw
  intro p e s m args below meth c hC H locs ls k n hE hl hR hS hk hn
  obtain ⟨hx, hb, hown, hlocks, htab, hml, hr, hB, hA, hnm⟩ := id hC
  have hts := hB.1.1.at args
  refine lv_lload_n hx hb (xb_d D_Format_rounded 14 rfl) rfl (lv_at hl 0 rfl) ?_
  exact xb_lret 0 0 hx hb hr hlocks (show k + 0 ≤ MC by omega) (show n + 0 ≤ MS by omega) hE hR hS (xb_d D_Format_rounded 15 rfl) hw

set_option maxHeartbeats 4000000 in
set_option maxRecDepth 100000 in
theorem ok_Format_rounded (l : Launch) (hfl : l.flags = pinnedFlags ++ [noTraceFlag]) (D : va_G) (A : Nat → Prop) (σ : Nat) (x0 : Nat) (x1 : Int32) (x2 : Int64) (h : xb_H) (Qr : Int64 → xb_H → Prop) (hw : w_Format_rounded x0 x1 x2 h Qr) : xb_Met l y_Format_rounded [.code y_Format_rounded b_Format_rounded 17 (some .long)] (xb_rm 3 0 0) (xb_Pc D A σ h [.ref x0, .int x1, .long x2]) (xb_Qc D A h 0 0 (fun v h _ _ => ∃ r, v = some (.long r) ∧ Qr r h) (fun _ _ _ _ => False)) A := by
  refine xb_ofAm (cc := b_Format_rounded) (by decide) (Nat.le_of_ble_eq_true rfl) ?_
  unfold w_Format_rounded at hw
  show xb_am l D A σ 3 0 0 h (fun v h _ _ => ∃ r, v = some (.long r) ∧ Qr r h) (fun _ _ _ _ => False) y_Format_rounded.cls y_Format_rounded.name b_Format_rounded 17 ([] : List ExceptionTableEntry) (some .long) 0 [(0, .ref x0), (1, .int x1), (2, .long x2)] [] h 0 0
  obtain ⟨MC, hMC⟩ : ∃ x, x = 0 := ⟨_, rfl⟩
  obtain ⟨MS, hMS⟩ : ∃ x, x = 0 := ⟨_, rfl⟩
  rw [show xb_am l D A σ 3 0 0 = xb_am l D A σ 3 MC MS by rw [hMC, hMS]]
  obtain ⟨h0, hh0⟩ : ∃ x, x = h := ⟨_, rfl⟩
  rw [show xb_am l D A σ 3 MC MS h = xb_am l D A σ 3 MC MS h0 by rw [hh0]]
  intro p e s m args below meth c hC H locs ls k n hE hl hR hS hk hn
  obtain ⟨hx, hb, hown, hlocks, htab, hml, hr, hB, hA, hnm⟩ := id hC
  have hts := hB.1.1.at args
  refine lv_aload_n hx hb (xb_d D_Format_rounded 0 rfl) rfl (lv_at hl 0 rfl) ?_
  refine lv_lload_n hx hb (xb_d D_Format_rounded 1 rfl) rfl (lv_at hl 2 rfl) ?_
  obtain ⟨hk1, hw⟩ := hw
  refine xb_call0 (D := D) (A := A) (σ := σ) (h := h) (d := 2) (maxL := 3) (rest := []) (av := [.ref x0, .long x2]) (fun T hT X => by obtain ⟨cb9, ra9, rb9, rc9⟩ := xb_recv (ci := 5) hR rfl hk1 (by decide); exact xt_invV X hx hown (hts _ m_790c0ce9) (hts _ m_493d47bb) (hts _ m_ec26896d) (xt_sigOf (hts _ m_93bb879e)) nm_Format_power (by rw [hT]; exact ra9) rb9 rc9 (g := F0 m 2 ls [.long x2, .ref x0]) rfl (argsL := [.long x2]) (rest := []) rfl rfl (by rw [hb]; exact (xb_d D_Format_rounded 2 rfl))) (ok_Format_power l hfl D A σ x0 x2 h _ hw) (hml.trans hl.1.symm) (by rw [hb]; exact (xb_d D_Format_rounded 2 rfl)) (Nat.le_of_ble_eq_true rfl) (Nat.le_of_ble_eq_true rfl) (Nat.le_of_ble_eq_true rfl) (show k ≤ MC by omega) (show n ≤ MS by omega) (xt_w1 hB.1 m_93bb879e) (xt_cdOf hB.1 m_93bb879e) (hts _ m_64857de5) hB hR hS hA (fun vv h2 H locs hq hEh2 hR hS => ?_)
  obtain ⟨r3, rfl, hw⟩ := hq
  have hw := hw hEh2
  have hE := hE.tr hEh2
  refine W.eq (g2 := F0 m 5 ls [.int r3]) rfl ?_
  refine lv_istore hx hb (xb_d D_Format_rounded 3 rfl) hl (by decide) rfl (fun ls hl => ?_)
  have hl : lv_has ls 17 [(4, .int r3), (0, .ref x0), (1, .int x1), (2, .long x2)] := hl
  refine lv_iload hx hb (xb_d D_Format_rounded 4 rfl) (lv_at hl 0 rfl) ?_
  refine lv_aload_n hx hb (xb_d D_Format_rounded 5 rfl) rfl (lv_at hl 1 rfl) ?_
  have hk1 : xb_k h2 x0 = 6 := hEh2.k hk1
  refine xb_getI (C := R_Format) (T := F_Format) (N := 5) hx hb 5 0 hts fin_Format hown hR hk1 (by decide) rfl (by decide) rfl (hts _ m_019aecde) (fun _ h9 => h9) (xb_d D_Format_rounded 6 rfl) ?_
  refine lv_iconst (v := 1) hx hb (xb_d D_Format_rounded 7 rfl) (by decide) ?_
  refine lv_isub hx hb (xb_d D_Format_rounded 8 rfl) ?_
  refine lv_icmp_ge (tgt := 26) hx hb (xb_d D_Format_rounded 9 rfl) rfl (fun hc4 => ?_) (fun hc4 => ?_)
  · have hw := hw.1 hc4
    exact am_Format_rounded_L26 l hfl D A σ MC MS h0 Qr x2 h2 hw p e s m args below meth c hC H locs ls k n hE (lv_sub hl [3] rfl) hR hS (by omega) (by omega)
  · have hw := hw.2 hc4
    refine lv_aload_n hx hb (xb_d D_Format_rounded 10 rfl) rfl (lv_at hl 1 rfl) ?_
    refine lv_lload_n hx hb (xb_d D_Format_rounded 11 rfl) rfl (lv_at hl 3 rfl) ?_
    refine xb_call0 (D := D) (A := A) (σ := σ) (h := h2) (d := 2) (maxL := 3) (rest := []) (av := [.ref x0, .long x2]) (fun T hT X => by obtain ⟨cb9, ra9, rb9, rc9⟩ := xb_recv (ci := 5) hR rfl hk1 (by decide); exact xt_invV X hx hown (hts _ m_113bafb3) (hts _ m_ac384f2f) (hts _ m_7587e6d0) (xt_sigOf (hts _ m_8c0ed8f1)) nm_Format_isZero (by rw [hT]; exact ra9) rb9 rc9 (g := F0 m 20 ls [.long x2, .ref x0]) rfl (argsL := [.long x2]) (rest := []) rfl rfl (by rw [hb]; exact (xb_d D_Format_rounded 12 rfl))) (ok_Format_isZero l hfl D A σ x0 x2 h2 _ hw) (hml.trans hl.1.symm) (by rw [hb]; exact (xb_d D_Format_rounded 12 rfl)) (Nat.le_of_ble_eq_true rfl) (Nat.le_of_ble_eq_true rfl) (Nat.le_of_ble_eq_true rfl) (show k ≤ MC by omega) (show n ≤ MS by omega) (xt_w1 hB.1 m_8c0ed8f1) (xt_cdOf hB.1 m_8c0ed8f1) (hts _ m_64857de5) hB hR hS hA (fun vv h5 H locs hq hEh5 hR hS => ?_)
    obtain ⟨r6, rfl, hw⟩ := hq
    have hw := hw hEh5
    have hE := hE.tr hEh5
    refine W.eq (g2 := F0 m 23 ls [.int r6]) rfl ?_
    refine lv_if_eq (tgt := 28) hx hb (xb_d D_Format_rounded 13 rfl) rfl (fun hc7 => ?_) (fun hc7 => ?_)
    · have hw := hw.1 hc7
      refine lv_aload_n hx hb (xb_d D_Format_rounded 16 rfl) rfl (lv_at hl 1 rfl) ?_
      refine lv_lload_n hx hb (xb_d D_Format_rounded 17 rfl) rfl (lv_at hl 3 rfl) ?_
      have hk1 : xb_k h5 x0 = 6 := hEh5.k hk1
      refine xb_call0 (D := D) (A := A) (σ := σ) (h := h5) (d := 2) (maxL := 3) (rest := []) (av := [.ref x0, .long x2]) (fun T hT X => by obtain ⟨cb9, ra9, rb9, rc9⟩ := xb_recv (ci := 5) hR rfl hk1 (by decide); exact xt_invV X hx hown (hts _ m_e7046197) (hts _ m_9e016368) (hts _ m_42f2e51b) (xt_sigOf (hts _ m_6ee44111)) nm_Format_isNegative (by rw [hT]; exact ra9) rb9 rc9 (g := F0 m 30 ls [.long x2, .ref x0]) rfl (argsL := [.long x2]) (rest := []) rfl rfl (by rw [hb]; exact (xb_d D_Format_rounded 18 rfl))) (ok_Format_isNegative l hfl D A σ x0 x2 h5 _ hw) (hml.trans hl.1.symm) (by rw [hb]; exact (xb_d D_Format_rounded 18 rfl)) (Nat.le_of_ble_eq_true rfl) (Nat.le_of_ble_eq_true rfl) (Nat.le_of_ble_eq_true rfl) (show k ≤ MC by omega) (show n ≤ MS by omega) (xt_w1 hB.1 m_6ee44111) (xt_cdOf hB.1 m_6ee44111) (hts _ m_64857de5) hB hR hS hA (fun vv h8 H locs hq hEh8 hR hS => ?_)
      obtain ⟨r9, rfl, hw⟩ := hq
      have hw := hw hEh8
      have hE := hE.tr hEh8
      refine W.eq (g2 := F0 m 33 ls [.int r9]) rfl ?_
      refine lv_istore hx hb (xb_d D_Format_rounded 19 rfl) hl (by decide) rfl (fun ls hl => ?_)
      have hl : lv_has ls 17 [(5, .int r9), (4, .int r3), (0, .ref x0), (1, .int x1), (2, .long x2)] := hl
      refine lv_aload_n hx hb (xb_d D_Format_rounded 20 rfl) rfl (lv_at hl 2 rfl) ?_
      refine lv_lload_n hx hb (xb_d D_Format_rounded 21 rfl) rfl (lv_at hl 4 rfl) ?_
      have hk1 : xb_k h8 x0 = 6 := hEh8.k hk1
      refine xb_call0 (D := D) (A := A) (σ := σ) (h := h8) (d := 2) (maxL := 3) (rest := []) (av := [.ref x0, .long x2]) (fun T hT X => by obtain ⟨cb9, ra9, rb9, rc9⟩ := xb_recv (ci := 5) hR rfl hk1 (by decide); exact xt_invV X hx hown (hts _ m_d2fcf5e9) (hts _ m_9ed8050f) (hts _ m_945e3e7d) (xt_sigOf (hts _ m_08158875)) nm_Format_magnitude (by rw [hT]; exact ra9) rb9 rc9 (g := F0 m 37 ls [.long x2, .ref x0]) rfl (argsL := [.long x2]) (rest := []) rfl rfl (by rw [hb]; exact (xb_d D_Format_rounded 22 rfl))) (ok_Format_magnitude l hfl D A σ x0 x2 h8 _ hw) (hml.trans hl.1.symm) (by rw [hb]; exact (xb_d D_Format_rounded 22 rfl)) (Nat.le_of_ble_eq_true rfl) (Nat.le_of_ble_eq_true rfl) (Nat.le_of_ble_eq_true rfl) (show k ≤ MC by omega) (show n ≤ MS by omega) (xt_w1 hB.1 m_08158875) (xt_cdOf hB.1 m_08158875) (hts _ m_64857de5) hB hR hS hA (fun vv h10 H locs hq hEh10 hR hS => ?_)
      obtain ⟨r11, rfl, hw⟩ := hq
      have hw := hw hEh10
      have hE := hE.tr hEh10
      refine W.eq (g2 := F0 m 40 ls [.long r11]) rfl ?_
      refine lv_lstore hx hb (xb_d D_Format_rounded 23 rfl) hl (by decide) rfl (fun ls hl => ?_)
      have hl : lv_has ls 17 [(6, .long r11), (5, .int r9), (4, .int r3), (0, .ref x0), (1, .int x1), (2, .long x2)] := hl
      refine lv_iload hx hb (xb_d D_Format_rounded 24 rfl) (lv_at hl 2 rfl) ?_
      refine lv_if_ge (tgt := 118) hx hb (xb_d D_Format_rounded 25 rfl) rfl (fun hc12 => ?_) (fun hc12 => ?_)
      · have hw := hw.1 hc12
        refine lv_aload_n hx hb (xb_d D_Format_rounded 67 rfl) rfl (lv_at hl 3 rfl) ?_
        have hk1 : xb_k h10 x0 = 6 := hEh10.k hk1
        refine xb_getI (C := R_Format) (T := F_Format) (N := 5) hx hb 5 0 hts fin_Format hown hR hk1 (by decide) rfl (by decide) rfl (hts _ m_019aecde) (fun _ h9 => h9) (xb_d D_Format_rounded 68 rfl) ?_
        refine lv_iconst (v := 1) hx hb (xb_d D_Format_rounded 69 rfl) (by decide) ?_
        refine lv_isub hx hb (xb_d D_Format_rounded 70 rfl) ?_
        refine lv_iload hx hb (xb_d D_Format_rounded 71 rfl) (lv_at hl 2 rfl) ?_
        refine lv_isub hx hb (xb_d D_Format_rounded 72 rfl) ?_
        obtain ⟨v13, ev13⟩ : ∃ x : Int32, x = (((xb_i h10 x0 0) - 1) - r3) := ⟨_, rfl⟩
        have hw := hw v13 ev13
        refine xt_numi (y := v13) ev13.symm ?_
        refine lv_istore hx hb (xb_d D_Format_rounded 73 rfl) hl (by decide) rfl (fun ls hl => ?_)
        have hl : lv_has ls 17 [(8, .int v13), (6, .long r11), (5, .int r9), (4, .int r3), (0, .ref x0), (1, .int x1), (2, .long x2)] := hl
        refine lv_lload hx hb (xb_d D_Format_rounded 74 rfl) (lv_at hl 1 rfl) ?_
        refine lv_lconst (v := 1) hx hb (xb_d D_Format_rounded 75 rfl) (by decide) ?_
        refine lv_iload hx hb (xb_d D_Format_rounded 76 rfl) (lv_at hl 0 rfl) ?_
        refine lv_lshl (v := (xb_lshl 1 v13)) hx hb (xb_d D_Format_rounded 77 rfl) rfl ?_
        refine lv_lconst (v := 1) hx hb (xb_d D_Format_rounded 78 rfl) (by decide) ?_
        refine lv_lsub hx hb (xb_d D_Format_rounded 79 rfl) ?_
        refine lv_land hx hb (xb_d D_Format_rounded 80 rfl) ?_
        obtain ⟨v14, ev14⟩ : ∃ x : Int64, x = (r11 &&& ((xb_lshl 1 v13) - 1)) := ⟨_, rfl⟩
        have hw := hw v14 ev14
        refine xt_numl (y := v14) ev14.symm ?_
        refine lv_lstore hx hb (xb_d D_Format_rounded 81 rfl) hl (by decide) rfl (fun ls hl => ?_)
        have hl : lv_has ls 17 [(9, .long v14), (8, .int v13), (6, .long r11), (5, .int r9), (4, .int r3), (0, .ref x0), (1, .int x1), (2, .long x2)] := hl
        refine lv_lload hx hb (xb_d D_Format_rounded 82 rfl) (lv_at hl 2 rfl) ?_
        refine lv_lload hx hb (xb_d D_Format_rounded 83 rfl) (lv_at hl 0 rfl) ?_
        refine lv_lsub hx hb (xb_d D_Format_rounded 84 rfl) ?_
        obtain ⟨v15, ev15⟩ : ∃ x : Int64, x = (r11 - v14) := ⟨_, rfl⟩
        have hw := hw v15 ev15
        refine xt_numl (y := v15) ev15.symm ?_
        refine lv_lstore hx hb (xb_d D_Format_rounded 85 rfl) hl (by decide) rfl (fun ls hl => ?_)
        have hl : lv_has ls 17 [(11, .long v15), (9, .long v14), (8, .int v13), (6, .long r11), (5, .int r9), (4, .int r3), (0, .ref x0), (1, .int x1), (2, .long x2)] := hl
        refine lv_lload hx hb (xb_d D_Format_rounded 86 rfl) (lv_at hl 1 rfl) ?_
        refine lv_lconst (v := 0) hx hb (xb_d D_Format_rounded 87 rfl) (by decide) ?_
        refine xb_lc_ne (tgt := 156) hx hb (xb_d D_Format_rounded 88 rfl) (xb_d D_Format_rounded 89 rfl) rfl (fun hc16 => ?_) (fun hc16 => ?_)
        · have hw := hw.1 hc16
          refine lv_lconst (v := 1) hx hb (xb_d D_Format_rounded 92 rfl) (by decide) ?_
          refine lv_iload hx hb (xb_d D_Format_rounded 93 rfl) (lv_at hl 2 rfl) ?_
          refine lv_iconst (v := 1) hx hb (xb_d D_Format_rounded 94 rfl) (by decide) ?_
          refine lv_isub hx hb (xb_d D_Format_rounded 95 rfl) ?_
          refine lv_lshl (v := (xb_lshl 1 (v13 - 1))) hx hb (xb_d D_Format_rounded 96 rfl) rfl ?_
          obtain ⟨v17, ev17⟩ : ∃ x : Int64, x = (xb_lshl 1 (v13 - 1)) := ⟨_, rfl⟩
          have hw := hw v17 ev17
          refine xt_numl (y := v17) ev17.symm ?_
          refine lv_lstore hx hb (xb_d D_Format_rounded 97 rfl) hl (by decide) rfl (fun ls hl => ?_)
          have hl : lv_has ls 17 [(13, .long v17), (11, .long v15), (9, .long v14), (8, .int v13), (6, .long r11), (5, .int r9), (4, .int r3), (0, .ref x0), (1, .int x1), (2, .long x2)] := hl
          refine lv_lload hx hb (xb_d D_Format_rounded 98 rfl) (lv_at hl 1 rfl) ?_
          refine lv_iload hx hb (xb_d D_Format_rounded 99 rfl) (lv_at hl 3 rfl) ?_
          refine lv_lushr (v := (xb_lushr v15 v13)) hx hb (xb_d D_Format_rounded 100 rfl) rfl ?_
          refine lv_lconst (v := 1) hx hb (xb_d D_Format_rounded 101 rfl) (by decide) ?_
          refine lv_land hx hb (xb_d D_Format_rounded 102 rfl) ?_
          refine lv_lconst (v := 1) hx hb (xb_d D_Format_rounded 103 rfl) (by decide) ?_
          refine xb_lc_ne (tgt := 180) hx hb (xb_d D_Format_rounded 104 rfl) (xb_d D_Format_rounded 105 rfl) rfl (fun hc18 => ?_) (fun hc18 => ?_)
          · have hw := hw.1 hc18
            refine lv_iconst (v := 0) hx hb (xb_d D_Format_rounded 108 rfl) (by decide) ?_
            exact am_Format_rounded_L181 l hfl D A σ MC MS h0 Qr x0 x1 r9 v13 v14 v15 v17 0 h10 hw p e s m args below meth c hC H locs ls k n hE (lv_sub hl [7, 8, 5, 3, 2, 1, 0] rfl) hR hS (by omega) (by omega)
          · have hw := hw.2 hc18
            refine lv_iconst (v := 1) hx hb (xb_d D_Format_rounded 106 rfl) (by decide) ?_
            refine lv_goto (tgt := 181) hx hb (xb_d D_Format_rounded 107 rfl) rfl ?_
            exact am_Format_rounded_L181 l hfl D A σ MC MS h0 Qr x0 x1 r9 v13 v14 v15 v17 1 h10 hw p e s m args below meth c hC H locs ls k n hE (lv_sub hl [7, 8, 5, 3, 2, 1, 0] rfl) hR hS (by omega) (by omega)
        · have hw := hw.2 hc16
          refine lv_lload_n hx hb (xb_d D_Format_rounded 90 rfl) rfl (lv_at hl 8 rfl) ?_
          exact xb_lret 0 0 hx hb hr hlocks (show k + 0 ≤ MC by omega) (show n + 0 ≤ MS by omega) hE hR hS (xb_d D_Format_rounded 91 rfl) hw
      · have hw := hw.2 hc12
        refine lv_iload hx hb (xb_d D_Format_rounded 26 rfl) (lv_at hl 2 rfl) ?_
        refine lv_iconst (v := (-1)) hx hb (xb_d D_Format_rounded 27 rfl) (by decide) ?_
        refine lv_icmp_ne (tgt := 77) hx hb (xb_d D_Format_rounded 28 rfl) rfl (fun hc19 => ?_) (fun hc19 => ?_)
        · have hw := hw.1 hc19
          exact am_Format_rounded_L77 l hfl D A σ MC MS h0 Qr x0 x1 r9 h10 hw p e s m args below meth c hC H locs ls k n hE (lv_sub hl [3, 4, 1] rfl) hR hS (by omega) (by omega)
        · have hw := hw.2 hc19
          refine lv_lload hx hb (xb_d D_Format_rounded 29 rfl) (lv_at hl 0 rfl) ?_
          refine lv_aload_n hx hb (xb_d D_Format_rounded 30 rfl) rfl (lv_at hl 3 rfl) ?_
          have hk1 : xb_k h10 x0 = 6 := hEh10.k hk1
          refine xb_getI (C := R_Format) (T := F_Format) (N := 5) hx hb 5 1 hts fin_Format hown hR hk1 (by decide) rfl (by decide) rfl (hts _ m_a74735c5) (fun _ h9 => h9) (xb_d D_Format_rounded 31 rfl) ?_
          refine lv_iconst (v := 1) hx hb (xb_d D_Format_rounded 32 rfl) (by decide) ?_
          refine lv_isub hx hb (xb_d D_Format_rounded 33 rfl) ?_
          refine lv_i2l hx hb (xb_d D_Format_rounded 34 rfl) rfl ?_
          refine lv_aload_n hx hb (xb_d D_Format_rounded 35 rfl) rfl (lv_at hl 3 rfl) ?_
          refine xb_getI (C := R_Format) (T := F_Format) (N := 5) hx hb 5 0 hts fin_Format hown hR hk1 (by decide) rfl (by decide) rfl (hts _ m_019aecde) (fun _ h9 => h9) (xb_d D_Format_rounded 36 rfl) ?_
          refine lv_iconst (v := 1) hx hb (xb_d D_Format_rounded 37 rfl) (by decide) ?_
          refine lv_isub hx hb (xb_d D_Format_rounded 38 rfl) ?_
          refine lv_lshl (v := (xb_lshl (Int32.toInt64 ((xb_i h10 x0 1) - 1)) ((xb_i h10 x0 0) - 1))) hx hb (xb_d D_Format_rounded 39 rfl) rfl ?_
          refine xb_lc_le (tgt := 77) hx hb (xb_d D_Format_rounded 40 rfl) (xb_d D_Format_rounded 41 rfl) rfl (fun hc20 => ?_) (fun hc20 => ?_)
          · have hw := hw.1 hc20
            exact am_Format_rounded_L77 l hfl D A σ MC MS h0 Qr x0 x1 r9 h10 hw p e s m args below meth c hC H locs ls k n hE (lv_sub hl [3, 4, 1] rfl) hR hS (by omega) (by omega)
          · have hw := hw.2 hc20
            refine lv_iconst (v := 1) hx hb (xb_d D_Format_rounded 42 rfl) (by decide) ?_
            refine lv_goto (tgt := 78) hx hb (xb_d D_Format_rounded 43 rfl) rfl ?_
            exact am_Format_rounded_L78 l hfl D A σ MC MS h0 Qr x0 x1 r9 1 h10 hw p e s m args below meth c hC H locs ls k n hE (lv_sub hl [3, 4, 1] rfl) hR hS (by omega) (by omega)
    · have hw := hw.2 hc7
      exact am_Format_rounded_L26 l hfl D A σ MC MS h0 Qr x2 h5 hw p e s m args below meth c hC H locs ls k n hE (lv_sub hl [3] rfl) hR hS (by omega) (by omega)

