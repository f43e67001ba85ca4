theorem m_bf57feb6 : (.methodLink "StackHost$Checker" 147 y_StackModule_exportNamedBelow : Cond) ∈ xt_tbl := xt_in (xt_t4 (List.mem_of_getElem? (i := 143) (by decide +kernel))) (by decide +kernel)
theorem m_fc9f46d2 : (.instanceMethod y_StackModule_exportNamedBelow : Cond) ∈ xt_tbl := xt_in (xt_t4 (List.mem_of_getElem? (i := 144) (by decide +kernel))) (by decide +kernel)
theorem m_c4e66bf2 : (.selects "StackHost$StackModule" y_StackModule_exportNamedBelow y_StackModule_exportNamedBelow : Cond) ∈ xt_tbl := xt_in (xt_t4 (List.mem_of_getElem? (i := 145) (by decide +kernel))) (by decide +kernel)
theorem m_e88eaefc : (.code y_StackModule_exportNamedBelow b_StackModule_exportNamedBelow 6 (some .int) : Cond) ∈ xt_tbl := xt_in (xt_t4 (List.mem_of_getElem? (i := 146) (by decide +kernel))) (by decide +kernel)
theorem m_da1f7fec : (.methodLink "StackHost$Checker" 143 y_Checker_countOf : Cond) ∈ xt_tbl := xt_in (xt_t4 (List.mem_of_getElem? (i := 139) (by decide +kernel))) (by decide +kernel)
theorem m_ced2ddfa : (.instanceMethod y_Checker_countOf : Cond) ∈ xt_tbl := xt_in (xt_t4 (List.mem_of_getElem? (i := 141) (by decide +kernel))) (by decide +kernel)
theorem m_47ca7480 : (.selects "StackHost$Checker" y_Checker_countOf y_Checker_countOf : Cond) ∈ xt_tbl := xt_in (xt_v3 (q := (⟨"StackHost$Checker", "countOf", "(I)I"⟩, 17)) (List.mem_of_getElem? (i := 7) (by decide +kernel))) (by decide +kernel)
theorem m_971b0474 : (.code y_Checker_countOf b_Checker_countOf 2 (some .int) : Cond) ∈ xt_tbl := xt_in (xt_t4 (List.mem_of_getElem? (i := 142) (by decide +kernel))) (by decide +kernel)
theorem m_a4e74538 : (.fieldLink "StackHost$Checker" 140 "StackHost$StackModule" "exports" "LStackHost$Row;" : Cond) ∈ xt_tbl := xt_in (xt_t3 (List.mem_of_getElem? (i := 88) (by decide +kernel))) (by decide +kernel)
theorem nm_StackModule_exportNamedBelow : xt_nm y_StackModule_exportNamedBelow 4 := ⟨by decide +kernel, by decide +kernel⟩
theorem nm_Checker_countOf : xt_nm y_Checker_countOf 1 := ⟨by decide +kernel, by decide +kernel⟩
set_option maxRecDepth 100000 in
def T_Checker_checkExports : List (Nat × Instr × Nat) := [(0, .aload_n 0, 1), (1, .getfield 38, 3), (4, .getfield 140, 3), (7, .astore_n 1, 1), (8, .iconst 0, 1), (9, .istore_n 2, 1), (10, .iload_n 2, 1), (11, .aload_n 1, 1), (12, .invokevirtual 77, 3), (15, .if_icmp .ge 94, 3), (18, .aload_n 1, 1), (19, .iload_n 2, 1), (20, .iconst 0, 1), (21, .invokevirtual 90, 3), (24, .istore_n 3, 1), (25, .aload_n 1, 1), (26, .iload_n 2, 1), (27, .iconst 2, 1), (28, .invokevirtual 121, 3), (31, .aload_n 0, 1), (32, .aload_n 1, 1), (33, .iload_n 2, 1), (34, .iconst 1, 1), (35, .invokevirtual 90, 3), (38, .invokevirtual 143, 3), (41, .invokestatic 125, 3), (44, .ifCond .ne 13, 3), (47, .aload_n 0, 1), (48, .getfield 38, 3), (51, .bipush 20, 2), (53, .iload_n 3, 1), (54, .invokevirtual 94, 3), (57, .aload_n 1, 1), (58, .iload_n 2, 1), (59, .iconst 3, 1), (60, .invokevirtual 90, 3), (63, .istore 4, 2), (65, .aload_n 1, 1), (66, .iload_n 2, 1), (67, .iconst 4, 1), (68, .invokevirtual 90, 3), (71, .istore 5, 2), (73, .aload_n 0, 1), (74, .getfield 38, 3), (77, .iload_n 2, 1), (78, .aload_n 0, 1), (79, .getfield 47, 3), (82, .iload 4, 2), (84, .iload 5, 2), (86, .invokevirtual 147, 3), (89, .iconst (-1), 1), (90, .if_icmp .eq 13, 3), (93, .aload_n 0, 1), (94, .getfield 38, 3), (97, .bipush 24, 2), (99, .iload_n 3, 1), (100, .invokevirtual 94, 3), (103, .iinc 2 1, 3), (106, .goto (-96), 3), (109, .return_, 1)]
theorem D_Checker_checkExports : ∀ q ∈ T_Checker_checkExports, decode b_Checker_checkExports q.1 = .ok (q.2.1, q.2.2) := by decide +kernel

set_option maxHeartbeats 4000000 in
set_option maxRecDepth 100000 in
theorem am_Checker_checkExports_L103 (l : Launch) (hfl : l.flags = pinnedFlags ++ [noTraceFlag]) (D : va_G) (A : Nat → Prop) (σ MC MS : Nat) (h0 : xb_H) (Qr : xb_H → Nat → Nat → Prop) (Qt : String → xb_H → Nat → Nat → Prop) (K10 : Nat → Nat → Int32 → xb_H → Nat → Nat → Prop) (hK10 : ∀ (x0 : Nat) (x1 : Nat) (x2 : Int32) (h : xb_H) (bc : Nat) (bs : Nat), K10 x0 x1 x2 h bc bs → xb_am l D A σ 4 MC MS h0 (fun v h bc bs => v = none ∧ Qr h bc bs) Qt y_Checker_checkExports.cls y_Checker_checkExports.name b_Checker_checkExports 6 ([] : List ExceptionTableEntry) none 10 [(0, .ref x0), (1, .ref x1), (2, .int x2)] [] h bc bs) (x0 : Nat) (x1 : Nat) (x2 : Int32) (h : xb_H) (bc : Nat) (bs : Nat) (hw : w_Checker_checkExports_L103 K10 Qr Qt x0 x1 x2 h bc bs) : xb_am l D A σ 4 MC MS h0 (fun v h bc bs => v = none ∧ Qr h bc bs) Qt y_Checker_checkExports.cls y_Checker_checkExports.name b_Checker_checkExports 6 ([] : List ExceptionTableEntry) none 103 [(0, .ref x0), (1, .ref x1), (2, .int x2)] [] h bc bs := by
  unfold w_Checker_checkExports_L103 at hw
  intro p e s m args below meth c hC H locs ls k n hE hl hR hS hk hn
  obtain ⟨hx, hb, hown, hlocks, htab, hml, hr, hB, hA, hnm⟩ := id hC
  have hts := hB.1.1.at args
  refine lv_iinc (v := (x2 + 1)) (k := 2) hx hb (xb_d D_Checker_checkExports 57 rfl) hl rfl (by first | rfl | decide) (by decide) rfl (fun ls hl => ?_)
  have hl : lv_has ls 6 [(2, .int (x2 + 1)), (0, .ref x0), (1, .ref x1)] := hl
  refine lv_goto (tgt := 10) hx hb (xb_d D_Checker_checkExports 58 rfl) rfl ?_
  exact hK10 x0 x1 (x2 + 1) h bc bs hw p e s m args below meth c hC H locs ls k n hE (lv_sub hl [1, 2, 0] rfl) hR hS (by omega) (by omega)

set_option maxHeartbeats 4000000 in
set_option maxRecDepth 100000 in
theorem am_Checker_checkExports_L57 (l : Launch) (hfl : l.flags = pinnedFlags ++ [noTraceFlag]) (D : va_G) (A : Nat → Prop) (σ MC MS : Nat) (h0 : xb_H) (Qr : xb_H → Nat → Nat → Prop) (Qt : String → xb_H → Nat → Nat → Prop) (K10 : Nat → Nat → Int32 → xb_H → Nat → Nat → Prop) (hK10 : ∀ (x0 : Nat) (x1 : Nat) (x2 : Int32) (h : xb_H) (bc : Nat) (bs : Nat), K10 x0 x1 x2 h bc bs → xb_am l D A σ 4 MC MS h0 (fun v h bc bs => v = none ∧ Qr h bc bs) Qt y_Checker_checkExports.cls y_Checker_checkExports.name b_Checker_checkExports 6 ([] : List ExceptionTableEntry) none 10 [(0, .ref x0), (1, .ref x1), (2, .int x2)] [] h bc bs) (x0 : Nat) (x1 : Nat) (x2 : Int32) (x3 : Int32) (h : xb_H) (bc : Nat) (bs : Nat) (hw : w_Checker_checkExports_L57 K10 Qr Qt x0 x1 x2 x3 h bc bs) : xb_am l D A σ 4 MC MS h0 (fun v h bc bs => v = none ∧ Qr h bc bs) Qt y_Checker_checkExports.cls y_Checker_checkExports.name b_Checker_checkExports 6 ([] : List ExceptionTableEntry) none 57 [(0, .ref x0), (1, .ref x1), (2, .int x2), (3, .int x3)] [] h bc bs := by
  unfold w_Checker_checkExports_L57 at hw
  intro p e s m args below meth c hC H locs ls k n hE hl hR hS hk hn
  obtain ⟨hx, hb, hown, hlocks, htab, hml, hr, hB, hA, hnm⟩ := id hC
  have hts := hB.1.1.at args
  refine lv_aload_n hx hb (xb_d D_Checker_checkExports 32 rfl) rfl (lv_at hl 1 rfl) ?_
  refine lv_iload_n hx hb (xb_d D_Checker_checkExports 33 rfl) rfl (lv_at hl 2 rfl) ?_
  refine lv_iconst (v := 3) hx hb (xb_d D_Checker_checkExports 34 rfl) (by decide) ?_
  obtain ⟨hk1, hw⟩ := hw
  refine xb_call0 (D := D) (A := A) (σ := σ) (h := h) (d := 2) (maxL := 3) (rest := []) (av := [.ref x1, .int x2, .int 3]) (fun T hT X => by obtain ⟨cb9, ra9, rb9, rc9⟩ := xb_recv (ci := 1) hR rfl hk1 (by decide); exact xt_invV X hx hown (hts _ m_068feb96) (hts _ m_8e233096) (hts _ m_27eed10c) (xt_sigOf (hts _ m_ff1c70ae)) nm_Row_at (by rw [hT]; exact ra9) rb9 rc9 (g := F0 m 60 ls [.int 3, .int x2, .ref x1]) rfl (argsL := [.int x2, .int 3]) (rest := []) rfl rfl (by rw [hb]; exact (xb_d D_Checker_checkExports 35 rfl))) (ok_Row_at l hfl D A σ x1 x2 3 h _ hw) (hml.trans hl.1.symm) (by rw [hb]; exact (xb_d D_Checker_checkExports 35 rfl)) (Nat.le_of_ble_eq_true rfl) (Nat.le_of_ble_eq_true rfl) (Nat.le_of_ble_eq_true rfl) (show k ≤ MC by omega) (show n ≤ MS by omega) (xt_w1 hB.1 m_ff1c70ae) (xt_cdOf hB.1 m_ff1c70ae) (hts _ m_c1bef504) hB hR hS hA (fun vv h2 H locs hq hEh2 hR hS => ?_)
  obtain ⟨r3, rfl, hw⟩ := hq
  have hw := hw hEh2
  have hE := hE.tr hEh2
  refine W.eq (g2 := F0 m 63 ls [.int r3]) rfl ?_
  refine lv_istore hx hb (xb_d D_Checker_checkExports 36 rfl) hl (by decide) rfl (fun ls hl => ?_)
  have hl : lv_has ls 6 [(4, .int r3), (0, .ref x0), (1, .ref x1), (2, .int x2), (3, .int x3)] := hl
  refine lv_aload_n hx hb (xb_d D_Checker_checkExports 37 rfl) rfl (lv_at hl 2 rfl) ?_
  refine lv_iload_n hx hb (xb_d D_Checker_checkExports 38 rfl) rfl (lv_at hl 3 rfl) ?_
  refine lv_iconst (v := 4) hx hb (xb_d D_Checker_checkExports 39 rfl) (by decide) ?_
  have hk1 : xb_k h2 x1 = 2 := hEh2.k hk1
  refine xb_call0 (D := D) (A := A) (σ := σ) (h := h2) (d := 2) (maxL := 3) (rest := []) (av := [.ref x1, .int x2, .int 4]) (fun T hT X => by obtain ⟨cb9, ra9, rb9, rc9⟩ := xb_recv (ci := 1) hR rfl hk1 (by decide); exact xt_invV X hx hown (hts _ m_068feb96) (hts _ m_8e233096) (hts _ m_27eed10c) (xt_sigOf (hts _ m_ff1c70ae)) nm_Row_at (by rw [hT]; exact ra9) rb9 rc9 (g := F0 m 68 ls [.int 4, .int x2, .ref x1]) rfl (argsL := [.int x2, .int 4]) (rest := []) rfl rfl (by rw [hb]; exact (xb_d D_Checker_checkExports 40 rfl))) (ok_Row_at l hfl D A σ x1 x2 4 h2 _ hw) (hml.trans hl.1.symm) (by rw [hb]; exact (xb_d D_Checker_checkExports 40 rfl)) (Nat.le_of_ble_eq_true rfl) (Nat.le_of_ble_eq_true rfl) (Nat.le_of_ble_eq_true rfl) (show k ≤ MC by omega) (show n ≤ MS by omega) (xt_w1 hB.1 m_ff1c70ae) (xt_cdOf hB.1 m_ff1c70ae) (hts _ m_c1bef504) hB hR hS hA (fun vv h4 H locs hq hEh4 hR hS => ?_)
  obtain ⟨r5, rfl, hw⟩ := hq
  have hw := hw hEh4
  have hE := hE.tr hEh4
  refine W.eq (g2 := F0 m 71 ls [.int r5]) rfl ?_
  refine lv_istore hx hb (xb_d D_Checker_checkExports 41 rfl) hl (by decide) rfl (fun ls hl => ?_)
  have hl : lv_has ls 6 [(5, .int r5), (4, .int r3), (0, .ref x0), (1, .ref x1), (2, .int x2), (3, .int x3)] := hl
  refine lv_aload_n hx hb (xb_d D_Checker_checkExports 42 rfl) rfl (lv_at hl 2 rfl) ?_
  obtain ⟨hk6, hw⟩ := hw
  refine xb_getP (C := R_Checker) (T := F_Checker) (N := 17) hx hb 4 0 hts fin_Checker hown hR hk6 (by decide) rfl (by decide) rfl (hts _ m_070795bc) (fun _ h9 => h9) (xb_d D_Checker_checkExports 43 rfl) ?_
  obtain ⟨b7, eb7, hw⟩ := hw
  refine xb_some eb7 ?_
  refine lv_iload_n hx hb (xb_d D_Checker_checkExports 44 rfl) rfl (lv_at hl 4 rfl) ?_
  refine lv_aload_n hx hb (xb_d D_Checker_checkExports 45 rfl) rfl (lv_at hl 2 rfl) ?_
  refine xb_getP (C := R_Checker) (T := F_Checker) (N := 17) hx hb 4 1 hts fin_Checker hown hR hk6 (by decide) rfl (by decide) rfl (hts _ m_8db7c2eb) (fun _ h9 => h9) (xb_d D_Checker_checkExports 46 rfl) ?_
  obtain ⟨b8, eb8, hw⟩ := hw
  refine xb_some eb8 ?_
  refine lv_iload hx hb (xb_d D_Checker_checkExports 47 rfl) (lv_at hl 1 rfl) ?_
  refine lv_iload hx hb (xb_d D_Checker_checkExports 48 rfl) (lv_at hl 0 rfl) ?_
  obtain ⟨hk9, hw⟩ := hw
  refine xb_call0 (D := D) (A := A) (σ := σ) (h := h4) (d := 3) (maxL := 6) (rest := []) (av := [.ref b7, .int x2, .ref b8, .int r3, .int r5]) (fun T hT X => by obtain ⟨cb9, ra9, rb9, rc9⟩ := xb_recv (ci := 2) hR rfl hk9 (by decide); exact xt_invV X hx hown (hts _ m_bf57feb6) (hts _ m_fc9f46d2) (hts _ m_c4e66bf2) (xt_sigOf (hts _ m_e88eaefc)) nm_StackModule_exportNamedBelow (by rw [hT]; exact ra9) rb9 rc9 (g := F0 m 86 ls [.int r5, .int r3, .ref b8, .int x2, .ref b7]) rfl (argsL := [.int x2, .ref b8, .int r3, .int r5]) (rest := []) rfl rfl (by rw [hb]; exact (xb_d D_Checker_checkExports 49 rfl))) (ok_StackModule_exportNamedBelow l hfl D A σ b7 x2 b8 r3 r5 h4 _ hw) (hml.trans hl.1.symm) (by rw [hb]; exact (xb_d D_Checker_checkExports 49 rfl)) (Nat.le_of_ble_eq_true rfl) (Nat.le_of_ble_eq_true rfl) (Nat.le_of_ble_eq_true rfl) (show k ≤ MC by omega) (show n ≤ MS by omega) (xt_w1 hB.1 m_e88eaefc) (xt_cdOf hB.1 m_e88eaefc) (hts _ m_9c375545) hB hR hS hA (fun vv h10 H locs hq hEh10 hR hS => ?_)
  obtain ⟨r11, rfl, hw⟩ := hq
  have hw := hw hEh10
  have hE := hE.tr hEh10
  refine W.eq (g2 := F0 m 89 ls [.int r11]) rfl ?_
  refine lv_iconst (v := (-1)) hx hb (xb_d D_Checker_checkExports 50 rfl) (by decide) ?_
  refine lv_icmp_eq (tgt := 103) hx hb (xb_d D_Checker_checkExports 51 rfl) rfl (fun hc12 => ?_) (fun hc12 => ?_)
  · have hw := hw.1 hc12
    exact am_Checker_checkExports_L103 l hfl D A σ MC MS h0 Qr Qt K10 hK10 x0 x1 x2 h10 bc bs hw p e s m args below meth c hC H locs ls k n hE (lv_sub hl [2, 3, 4] rfl) hR hS (by omega) (by omega)
  · have hw := hw.2 hc12
    refine lv_aload_n hx hb (xb_d D_Checker_checkExports 52 rfl) rfl (lv_at hl 2 rfl) ?_
    have hk6 : xb_k h10 x0 = 5 := hEh10.k hk6
    refine xb_getP (C := R_Checker) (T := F_Checker) (N := 17) hx hb 4 0 hts fin_Checker hown hR hk6 (by decide) rfl (by decide) rfl (hts _ m_070795bc) (fun _ h9 => h9) (xb_d D_Checker_checkExports 53 rfl) ?_
    obtain ⟨b13, eb13, hw⟩ := hw
    refine xb_some eb13 ?_
    refine lv_bipush (v := 24) hx hb (xb_d D_Checker_checkExports 54 rfl) (by decide) ?_
    refine lv_iload_n hx hb (xb_d D_Checker_checkExports 55 rfl) rfl (lv_at hl 5 rfl) ?_
    obtain ⟨hk14, hw⟩ := hw
    refine xb_call (D := D) (A := A) (σ := σ) (h := h10) (d := 2) (mc := bc) (ms := bs) (maxL := 3) (rest := []) (av := [.ref b13, .int 24, .int x3]) (fun T hT X => by obtain ⟨cb9, ra9, rb9, rc9⟩ := xb_recv (ci := 2) hR rfl hk14 (by decide); exact xt_invV X hx hown (hts _ m_1d37521a) (hts _ m_865d5b07) (hts _ m_113f8f75) (xt_sigOf (hts _ m_73e65e5f)) nm_StackModule_fail (by rw [hT]; exact ra9) rb9 rc9 (g := F0 m 100 ls [.int x3, .int 24, .ref b13]) rfl (argsL := [.int 24, .int x3]) (rest := []) rfl rfl (by rw [hb]; exact (xb_d D_Checker_checkExports 56 rfl))) (ok_StackModule_fail l hfl D A σ b13 24 x3 h10 bc bs _ _ hw) (hml.trans hl.1.symm) (by rw [hb]; exact (xb_d D_Checker_checkExports 56 rfl)) (Nat.le_of_ble_eq_true rfl) (Nat.le_of_ble_eq_true rfl) (Nat.le_of_ble_eq_true rfl) (show k + bc ≤ MC by omega) (show n + bs ≤ MS by omega) (xt_w1 hB.1 m_73e65e5f) (xt_cdOf hB.1 m_73e65e5f) (hts _ m_9c375545) hB hR hS hA (fun vv h15 bc16 bs16 kk16 nn16 H locs hk16 hn16 hq hEh15 hR hS => ?_) (fun XX ax h15 bc16 bs16 kk16 nn16 H locs hk16 hn16 hq hEh15 hex hR hS => ?_)
    · obtain ⟨rfl, hw⟩ := hq
      have hw := hw hEh15
      have hE := hE.tr hEh15
      refine W.eq (g2 := F0 m 103 ls []) rfl ?_
      exact am_Checker_checkExports_L103 l hfl D A σ MC MS h0 Qr Qt K10 hK10 x0 x1 x2 h15 bc16 bs16 hw p e s m args below meth c hC H locs ls (k + kk16) (n + nn16) hE (lv_sub hl [2, 3, 4] rfl) hR hS (by omega) (by omega)
    · exact xb_pass hlocks (fun x hx9 => by rw [htab] at hx9; first | (cases hx9; done) | (simp [tableOf] at hx9; subst hx9; decide) | (simp [tableOf] at hx9; rcases hx9 with rfl | rfl <;> decide) | (simp [tableOf] at hx9; rcases hx9 with rfl | rfl | rfl <;> decide)) (show (k + kk16) + bc16 ≤ MC by omega) (show (n + nn16) + bs16 ≤ MS by omega) (hE.tr hEh15) hR hS hex hq

set_option maxHeartbeats 4000000 in
set_option maxRecDepth 100000 in
theorem am_Checker_checkExports_L10 (l : Launch) (hfl : l.flags = pinnedFlags ++ [noTraceFlag]) (D : va_G) (A : Nat → Prop) (σ MC MS : Nat) (h0 : xb_H) (Qr : xb_H → Nat → Nat → Prop) (Qt : String → xb_H → Nat → Nat → Prop) (n9 : Nat) : ∀ (x0 : Nat) (x1 : Nat) (x2 : Int32) (h : xb_H) (bc : Nat) (bs : Nat), w_Checker_checkExports_L10 Qr Qt n9 x0 x1 x2 h bc bs → xb_am l D A σ 4 MC MS h0 (fun v h bc bs => v = none ∧ Qr h bc bs) Qt y_Checker_checkExports.cls y_Checker_checkExports.name b_Checker_checkExports 6 ([] : List ExceptionTableEntry) none 10 [(0, .ref x0), (1, .ref x1), (2, .int x2)] [] h bc bs := by
  induction n9 with
  | zero => intro x0 x1 x2 h bc bs hw; exact False.elim hw
  | succ n9 ih =>
    intro x0 x1 x2 h bc bs hw
    unfold w_Checker_checkExports_L10 at hw
    intro p e s m args below meth c hC H locs ls k n hE hl hR hS hk hn
    obtain ⟨hx, hb, hown, hlocks, htab, hml, hr, hB, hA, hnm⟩ := id hC
    have hts := hB.1.1.at args
    refine lv_iload_n hx hb (xb_d D_Checker_checkExports 6 rfl) rfl (lv_at hl 2 rfl) ?_
    refine lv_aload_n hx hb (xb_d D_Checker_checkExports 7 rfl) rfl (lv_at hl 1 rfl) ?_
    obtain ⟨hk1, hw⟩ := hw
    refine xb_call0 (D := D) (A := A) (σ := σ) (h := h) (d := 2) (maxL := 1) (rest := [.int x2]) (av := [.ref x1]) (fun T hT X => by obtain ⟨cb9, ra9, rb9, rc9⟩ := xb_recv (ci := 1) hR rfl hk1 (by decide); exact xt_invV X hx hown (hts _ m_c8b950b4) (hts _ m_ded65609) (hts _ m_a4161156) (xt_sigOf (hts _ m_83ba3721)) nm_Row_lines (by rw [hT]; exact ra9) rb9 rc9 (g := F0 m 12 ls [.ref x1, .int x2]) rfl (argsL := []) (rest := [.int x2]) rfl rfl (by rw [hb]; exact (xb_d D_Checker_checkExports 8 rfl))) (ok_Row_lines l hfl D A σ x1 h _ hw) (hml.trans hl.1.symm) (by rw [hb]; exact (xb_d D_Checker_checkExports 8 rfl)) (Nat.le_of_ble_eq_true rfl) (Nat.le_of_ble_eq_true rfl) (Nat.le_of_ble_eq_true rfl) (show k ≤ MC by omega) (show n ≤ MS by omega) (xt_w1 hB.1 m_83ba3721) (xt_cdOf hB.1 m_83ba3721) (hts _ m_c1bef504) hB hR hS hA (fun vv h2 H locs hq hEh2 hR hS => ?_)
    obtain ⟨r3, rfl, hw⟩ := hq
    have hw := hw hEh2
    have hE := hE.tr hEh2
    refine W.eq (g2 := F0 m 15 ls [.int r3, .int x2]) rfl ?_
    refine lv_icmp_ge (tgt := 109) hx hb (xb_d D_Checker_checkExports 9 rfl) rfl (fun hc4 => ?_) (fun hc4 => ?_)
    · have hw := hw.1 hc4
      exact xb_vret bc bs hx hb hr hlocks (show k + bc ≤ MC by omega) (show n + bs ≤ MS by omega) hE hR hS (xb_d D_Checker_checkExports 59 rfl) hw
    · have hw := hw.2 hc4
      refine lv_aload_n hx hb (xb_d D_Checker_checkExports 10 rfl) rfl (lv_at hl 1 rfl) ?_
      refine lv_iload_n hx hb (xb_d D_Checker_checkExports 11 rfl) rfl (lv_at hl 2 rfl) ?_
      refine lv_iconst (v := 0) hx hb (xb_d D_Checker_checkExports 12 rfl) (by decide) ?_
      have hk1 : xb_k h2 x1 = 2 := hEh2.k hk1
      refine xb_call0 (D := D) (A := A) (σ := σ) (h := h2) (d := 2) (maxL := 3) (rest := []) (av := [.ref x1, .int x2, .int 0]) (fun T hT X => by obtain ⟨cb9, ra9, rb9, rc9⟩ := xb_recv (ci := 1) hR rfl hk1 (by decide); exact xt_invV X hx hown (hts _ m_068feb96) (hts _ m_8e233096) (hts _ m_27eed10c) (xt_sigOf (hts _ m_ff1c70ae)) nm_Row_at (by rw [hT]; exact ra9) rb9 rc9 (g := F0 m 21 ls [.int 0, .int x2, .ref x1]) rfl (argsL := [.int x2, .int 0]) (rest := []) rfl rfl (by rw [hb]; exact (xb_d D_Checker_checkExports 13 rfl))) (ok_Row_at l hfl D A σ x1 x2 0 h2 _ hw) (hml.trans hl.1.symm) (by rw [hb]; exact (xb_d D_Checker_checkExports 13 rfl)) (Nat.le_of_ble_eq_true rfl) (Nat.le_of_ble_eq_true rfl) (Nat.le_of_ble_eq_true rfl) (show k ≤ MC by omega) (show n ≤ MS by omega) (xt_w1 hB.1 m_ff1c70ae) (xt_cdOf hB.1 m_ff1c70ae) (hts _ m_c1bef504) hB hR hS hA (fun vv h5 H locs hq hEh5 hR hS => ?_)
      obtain ⟨r6, rfl, hw⟩ := hq
      have hw := hw hEh5
      have hE := hE.tr hEh5
      refine W.eq (g2 := F0 m 24 ls [.int r6]) rfl ?_
      refine lv_istore_n hx hb (xb_d D_Checker_checkExports 14 rfl) rfl hl (by decide) rfl (fun ls hl => ?_)
      have hl : lv_has ls 6 [(3, .int r6), (0, .ref x0), (1, .ref x1), (2, .int x2)] := hl
      refine lv_aload_n hx hb (xb_d D_Checker_checkExports 15 rfl) rfl (lv_at hl 2 rfl) ?_
      refine lv_iload_n hx hb (xb_d D_Checker_checkExports 16 rfl) rfl (lv_at hl 3 rfl) ?_
      refine lv_iconst (v := 2) hx hb (xb_d D_Checker_checkExports 17 rfl) (by decide) ?_
      have hk1 : xb_k h5 x1 = 2 := hEh5.k hk1
      refine xb_call0 (D := D) (A := A) (σ := σ) (h := h5) (d := 2) (maxL := 3) (rest := []) (av := [.ref x1, .int x2, .int 2]) (fun T hT X => by obtain ⟨cb9, ra9, rb9, rc9⟩ := xb_recv (ci := 1) hR rfl hk1 (by decide); exact xt_invV X hx hown (hts _ m_e00feb7e) (hts _ m_8db3b24f) (hts _ m_78dc30a4) (xt_sigOf (hts _ m_a4177401)) nm_Row_longAt (by rw [hT]; exact ra9) rb9 rc9 (g := F0 m 28 ls [.int 2, .int x2, .ref x1]) rfl (argsL := [.int x2, .int 2]) (rest := []) rfl rfl (by rw [hb]; exact (xb_d D_Checker_checkExports 18 rfl))) (ok_Row_longAt l hfl D A σ x1 x2 2 h5 _ hw) (hml.trans hl.1.symm) (by rw [hb]; exact (xb_d D_Checker_checkExports 18 rfl)) (Nat.le_of_ble_eq_true rfl) (Nat.le_of_ble_eq_true rfl) (Nat.le_of_ble_eq_true rfl) (show k ≤ MC by omega) (show n ≤ MS by omega) (xt_w1 hB.1 m_a4177401) (xt_cdOf hB.1 m_a4177401) (hts _ m_c1bef504) hB hR hS hA (fun vv h7 H locs hq hEh7 hR hS => ?_)
      obtain ⟨r8, rfl, hw⟩ := hq
      have hw := hw hEh7
      have hE := hE.tr hEh7
      refine W.eq (g2 := F0 m 31 ls [.long r8]) rfl ?_
      refine lv_aload_n hx hb (xb_d D_Checker_checkExports 19 rfl) rfl (lv_at hl 1 rfl) ?_
      refine lv_aload_n hx hb (xb_d D_Checker_checkExports 20 rfl) rfl (lv_at hl 2 rfl) ?_
      refine lv_iload_n hx hb (xb_d D_Checker_checkExports 21 rfl) rfl (lv_at hl 3 rfl) ?_
      refine lv_iconst (v := 1) hx hb (xb_d D_Checker_checkExports 22 rfl) (by decide) ?_
      have hk1 : xb_k h7 x1 = 2 := hEh7.k hk1
      refine xb_call0 (D := D) (A := A) (σ := σ) (h := h7) (d := 2) (maxL := 3) (rest := [.ref x0, .long r8]) (av := [.ref x1, .int x2, .int 1]) (fun T hT X => by obtain ⟨cb9, ra9, rb9, rc9⟩ := xb_recv (ci := 1) hR rfl hk1 (by decide); exact xt_invV X hx hown (hts _ m_068feb96) (hts _ m_8e233096) (hts _ m_27eed10c) (xt_sigOf (hts _ m_ff1c70ae)) nm_Row_at (by rw [hT]; exact ra9) rb9 rc9 (g := F0 m 35 ls [.int 1, .int x2, .ref x1, .ref x0, .long r8]) rfl (argsL := [.int x2, .int 1]) (rest := [.ref x0, .long r8]) rfl rfl (by rw [hb]; exact (xb_d D_Checker_checkExports 23 rfl))) (ok_Row_at l hfl D A σ x1 x2 1 h7 _ hw) (hml.trans hl.1.symm) (by rw [hb]; exact (xb_d D_Checker_checkExports 23 rfl)) (Nat.le_of_ble_eq_true rfl) (Nat.le_of_ble_eq_true rfl) (Nat.le_of_ble_eq_true rfl) (show k ≤ MC by omega) (show n ≤ MS by omega) (xt_w1 hB.1 m_ff1c70ae) (xt_cdOf hB.1 m_ff1c70ae) (hts _ m_c1bef504) hB hR hS hA (fun vv h9 H locs hq hEh9 hR hS => ?_)
      obtain ⟨r10, rfl, hw⟩ := hq
      have hw := hw hEh9
      have hE := hE.tr hEh9
      refine W.eq (g2 := F0 m 38 ls [.int r10, .ref x0, .long r8]) rfl ?_
      obtain ⟨hk11, hw⟩ := hw
      refine xb_call0 (D := D) (A := A) (σ := σ) (h := h9) (d := 3) (maxL := 2) (rest := [.long r8]) (av := [.ref x0, .int r10]) (fun T hT X => by obtain ⟨cb9, ra9, rb9, rc9⟩ := xb_recv (ci := 4) hR rfl hk11 (by decide); exact xt_invV X hx hown (hts _ m_da1f7fec) (hts _ m_ced2ddfa) (hts _ m_47ca7480) (xt_sigOf (hts _ m_971b0474)) nm_Checker_countOf (by rw [hT]; exact ra9) rb9 rc9 (g := F0 m 38 ls [.int r10, .ref x0, .long r8]) rfl (argsL := [.int r10]) (rest := [.long r8]) rfl rfl (by rw [hb]; exact (xb_d D_Checker_checkExports 24 rfl))) (ok_Checker_countOf l hfl D A σ x0 r10 h9 _ hw) (hml.trans hl.1.symm) (by rw [hb]; exact (xb_d D_Checker_checkExports 24 rfl)) (Nat.le_of_ble_eq_true rfl) (Nat.le_of_ble_eq_true rfl) (Nat.le_of_ble_eq_true rfl) (show k ≤ MC by omega) (show n ≤ MS by omega) (xt_w1 hB.1 m_971b0474) (xt_cdOf hB.1 m_971b0474) (hts _ m_44748ce5) hB hR hS hA (fun vv h12 H locs hq hEh12 hR hS => ?_)
      obtain ⟨r13, rfl, hw⟩ := hq
      have hw := hw hEh12
      have hE := hE.tr hEh12
      refine W.eq (g2 := F0 m 41 ls [.int r13, .long r8]) rfl ?_
      refine xb_call0 (D := D) (A := A) (σ := σ) (h := h12) (d := 2) (maxL := 3) (rest := []) (av := [.long r8, .int r13]) (fun T hT X => xt_invS X hx hown (hts _ m_fe08b245) (hts _ m_9ad1e0af) (hts _ m_44748ce5) (xt_sgS (hts _ m_2237aee6)).1 (xt_sgS (hts _ m_2237aee6)).2 nm_Checker_isThere (g := F0 m 41 ls [.int r13, .long r8]) rfl (argsL := [.long r8, .int r13]) (rest := []) rfl rfl (by rw [hb]; exact (xb_d D_Checker_checkExports 25 rfl))) (ok_Checker_isThere l hfl D A σ r8 r13 h12 _ hw) (hml.trans hl.1.symm) (by rw [hb]; exact (xb_d D_Checker_checkExports 25 rfl)) (Nat.le_of_ble_eq_true rfl) (Nat.le_of_ble_eq_true rfl) (Nat.le_of_ble_eq_true rfl) (show k ≤ MC by omega) (show n ≤ MS by omega) (xt_w1 hB.1 m_2237aee6) (xt_cdOf hB.1 m_2237aee6) (hts _ m_44748ce5) hB hR hS hA (fun vv h14 H locs hq hEh14 hR hS => ?_)
      obtain ⟨r15, rfl, hw⟩ := hq
      have hw := hw hEh14
      have hE := hE.tr hEh14
      refine W.eq (g2 := F0 m 44 ls [.int r15]) rfl ?_
      refine lv_if_ne (tgt := 57) hx hb (xb_d D_Checker_checkExports 26 rfl) rfl (fun hc16 => ?_) (fun hc16 => ?_)
      · have hw := hw.1 hc16
        exact am_Checker_checkExports_L57 l hfl D A σ MC MS h0 Qr Qt (w_Checker_checkExports_L10 Qr Qt n9) ih x0 x1 x2 r6 h14 bc bs hw p e s m args below meth c hC H locs ls k n hE (lv_sub hl [1, 2, 3, 0] rfl) hR hS (by omega) (by omega)
      · have hw := hw.2 hc16
        refine lv_aload_n hx hb (xb_d D_Checker_checkExports 27 rfl) rfl (lv_at hl 1 rfl) ?_
        have hk11 : xb_k h12 x0 = 5 := hEh12.k hk11
        have hk11 : xb_k h14 x0 = 5 := hEh14.k hk11
        refine xb_getP (C := R_Checker) (T := F_Checker) (N := 17) hx hb 4 0 hts fin_Checker hown hR hk11 (by decide) rfl (by decide) rfl (hts _ m_070795bc) (fun _ h9 => h9) (xb_d D_Checker_checkExports 28 rfl) ?_
        obtain ⟨b17, eb17, hw⟩ := hw
        refine xb_some eb17 ?_
        refine lv_bipush (v := 20) hx hb (xb_d D_Checker_checkExports 29 rfl) (by decide) ?_
        refine lv_iload_n hx hb (xb_d D_Checker_checkExports 30 rfl) rfl (lv_at hl 0 rfl) ?_
        obtain ⟨hk18, hw⟩ := hw
        refine xb_call (D := D) (A := A) (σ := σ) (h := h14) (d := 2) (mc := bc) (ms := bs) (maxL := 3) (rest := []) (av := [.ref b17, .int 20, .int r6]) (fun T hT X => by obtain ⟨cb9, ra9, rb9, rc9⟩ := xb_recv (ci := 2) hR rfl hk18 (by decide); exact xt_invV X hx hown (hts _ m_1d37521a) (hts _ m_865d5b07) (hts _ m_113f8f75) (xt_sigOf (hts _ m_73e65e5f)) nm_StackModule_fail (by rw [hT]; exact ra9) rb9 rc9 (g := F0 m 54 ls [.int r6, .int 20, .ref b17]) rfl (argsL := [.int 20, .int r6]) (rest := []) rfl rfl (by rw [hb]; exact (xb_d D_Checker_checkExports 31 rfl))) (ok_StackModule_fail l hfl D A σ b17 20 r6 h14 bc bs _ _ hw) (hml.trans hl.1.symm) (by rw [hb]; exact (xb_d D_Checker_checkExports 31 rfl)) (Nat.le_of_ble_eq_true rfl) (Nat.le_of_ble_eq_true rfl) (Nat.le_of_ble_eq_true rfl) (show k + bc ≤ MC by omega) (show n + bs ≤ MS by omega) (xt_w1 hB.1 m_73e65e5f) (xt_cdOf hB.1 m_73e65e5f) (hts _ m_9c375545) hB hR hS hA (fun vv h19 bc20 bs20 kk20 nn20 H locs hk20 hn20 hq hEh19 hR hS => ?_) (fun XX ax h19 bc20 bs20 kk20 nn20 H locs hk20 hn20 hq hEh19 hex hR hS => ?_)
        · obtain ⟨rfl, hw⟩ := hq
          have hw := hw hEh19
          have hE := hE.tr hEh19
          refine W.eq (g2 := F0 m 57 ls []) rfl ?_
          exact am_Checker_checkExports_L57 l hfl D A σ MC MS h0 Qr Qt (w_Checker_checkExports_L10 Qr Qt n9) ih x0 x1 x2 r6 h19 bc20 bs20 hw p e s m args below meth c hC H locs ls (k + kk20) (n + nn20) hE (lv_sub hl [1, 2, 3, 0] rfl) hR hS (by omega) (by omega)
        · exact xb_pass hlocks (fun x hx9 => by rw [htab] at hx9; first | (cases hx9; done) | (simp [tableOf] at hx9; subst hx9; decide) | (simp [tableOf] at hx9; rcases hx9 with rfl | rfl <;> decide) | (simp [tableOf] at hx9; rcases hx9 with rfl | rfl | rfl <;> decide)) (show (k + kk20) + bc20 ≤ MC by omega) (show (n + nn20) + bs20 ≤ MS by omega) (hE.tr hEh19) hR hS hex hq

set_option maxHeartbeats 4000000 in
set_option maxRecDepth 100000 in
theorem ok_Checker_checkExports (l : Launch) (hfl : l.flags = pinnedFlags ++ [noTraceFlag]) (D : va_G) (A : Nat → Prop) (σ : Nat) (x0 : Nat) (h : xb_H) (bc : Nat) (bs : Nat) (Qr : xb_H → Nat → Nat → Prop) (Qt : String → xb_H → Nat → Nat → Prop) (hw : w_Checker_checkExports x0 h bc bs Qr Qt) : xb_Met l y_Checker_checkExports [.code y_Checker_checkExports b_Checker_checkExports 6 none] (xb_rm 4 bc bs) (xb_Pc D A σ h [.ref x0]) (xb_Qc D A h bc bs (fun v h bc bs => v = none ∧ Qr h bc bs) Qt) A := by
  refine xb_ofAm (cc := b_Checker_checkExports) (by decide) (Nat.le_of_ble_eq_true rfl) ?_
  unfold w_Checker_checkExports at hw
  show xb_am l D A σ 4 bc bs h (fun v h bc bs => v = none ∧ Qr h bc bs) Qt y_Checker_checkExports.cls y_Checker_checkExports.name b_Checker_checkExports 6 ([] : List ExceptionTableEntry) none 0 [(0, .ref x0)] [] h bc bs
  obtain ⟨MC, hMC⟩ : ∃ x, x = bc := ⟨_, rfl⟩
  obtain ⟨MS, hMS⟩ : ∃ x, x = bs := ⟨_, rfl⟩
  rw [show xb_am l D A σ 4 bc bs = xb_am l D A σ 4 MC MS by rw [hMC, hMS]]
  obtain ⟨h0, hh0⟩ : ∃ x, x = h := ⟨_, rfl⟩
  rw [show xb_am l D A σ 4 MC MS h = xb_am l D A σ 4 MC MS h0 by rw [hh0]]
  intro p e s m args below meth c hC H locs ls k n hE hl hR hS hk hn
  obtain ⟨hx, hb, hown, hlocks, htab, hml, hr, hB, hA, hnm⟩ := id hC
  have hts := hB.1.1.at args
  refine lv_aload_n hx hb (xb_d D_Checker_checkExports 0 rfl) rfl (lv_at hl 0 rfl) ?_
  obtain ⟨hk1, hw⟩ := hw
  refine xb_getP (C := R_Checker) (T := F_Checker) (N := 17) hx hb 4 0 hts fin_Checker hown hR hk1 (by decide) rfl (by decide) rfl (hts _ m_070795bc) (fun _ h9 => h9) (xb_d D_Checker_checkExports 1 rfl) ?_
  obtain ⟨b2, eb2, hw⟩ := hw
  refine xb_some eb2 ?_
  obtain ⟨hk3, hw⟩ := hw
  refine xb_getP (C := R_StackModule) (T := F_StackModule) (N := 19) hx hb 2 8 hts fin_StackModule hown hR hk3 (by decide) rfl (by decide) rfl (hts _ m_a4e74538) (fun _ h9 => h9) (xb_d D_Checker_checkExports 2 rfl) ?_
  obtain ⟨b4, eb4, hw⟩ := hw
  refine xb_some eb4 ?_
  refine lv_astore_n hx hb (xb_d D_Checker_checkExports 3 rfl) rfl hl (by decide) rfl (fun ls hl => ?_)
  have hl : lv_has ls 6 [(1, .ref b4), (0, .ref x0)] := hl
  refine lv_iconst (v := 0) hx hb (xb_d D_Checker_checkExports 4 rfl) (by decide) ?_
  refine lv_istore_n hx hb (xb_d D_Checker_checkExports 5 rfl) rfl hl (by decide) rfl (fun ls hl => ?_)
  have hl : lv_has ls 6 [(2, .int 0), (1, .ref b4), (0, .ref x0)] := hl
  obtain ⟨n8, hw⟩ := hw
  exact am_Checker_checkExports_L10 l hfl D A σ MC MS h0 Qr Qt n8 x0 b4 0 h bc bs hw p e s m args below meth c hC H locs ls k n hE (lv_sub hl [2, 1, 0] rfl) hR hS (by omega) (by omega)

theorem m_aabcadab : (.fieldLink "StackHost$Checker" 98 "StackHost$StackModule" "imports" "LStackHost$Row;" : Cond) ∈ xt_tbl := xt_in (xt_t3 (List.mem_of_getElem? (i := 61) (by decide +kernel))) (by decide +kernel)
theorem m_635e771e : (.methodLink "StackHost$Checker" 101 y_Checker_checkFunction : Cond) ∈ xt_tbl := xt_in (xt_t4 (List.mem_of_getElem? (i := 109) (by decide +kernel))) (by decide +kernel)
theorem m_b0a695c0 : (.instanceMethod y_Checker_checkFunction : Cond) ∈ xt_tbl := xt_in (xt_t4 (List.mem_of_getElem? (i := 111) (by decide +kernel))) (by decide +kernel)
theorem m_1190460b : (.selects "StackHost$Checker" y_Checker_checkFunction y_Checker_checkFunction : Cond) ∈ xt_tbl := xt_in (xt_v3 (q := (⟨"StackHost$Checker", "checkFunction", "(I)V"⟩, 17)) (List.mem_of_getElem? (i := 2) (by decide +kernel))) (by decide +kernel)
theorem m_dd5eb9b4 : (.code y_Checker_checkFunction b_Checker_checkFunction 2 none : Cond) ∈ xt_tbl := xt_in (xt_t4 (List.mem_of_getElem? (i := 112) (by decide +kernel))) (by decide +kernel)
theorem m_8009c90c : (.constantLong "StackHost$Checker" 107 4294967295 : Cond) ∈ xt_tbl := xt_in (xt_t4 (List.mem_of_getElem? (i := 120) (by decide +kernel))) (by decide +kernel)
theorem m_160564f4 : (.methodLink "StackHost$Checker" 109 y_Checker_checkLimits : Cond) ∈ xt_tbl := xt_in (xt_t4 (List.mem_of_getElem? (i := 121) (by decide +kernel))) (by decide +kernel)
theorem m_e4938329 : (.instanceMethod y_Checker_checkLimits : Cond) ∈ xt_tbl := xt_in (xt_t4 (List.mem_of_getElem? (i := 123) (by decide +kernel))) (by decide +kernel)
theorem m_811dfb37 : (.selects "StackHost$Checker" y_Checker_checkLimits y_Checker_checkLimits : Cond) ∈ xt_tbl := xt_in (xt_v3 (q := (⟨"StackHost$Checker", "checkLimits", "(LStackHost$Row;IJ)V"⟩, 17)) (List.mem_of_getElem? (i := 3) (by decide +kernel))) (by decide +kernel)
theorem m_9c84dd5e : (.code y_Checker_checkLimits b_Checker_checkLimits 10 none : Cond) ∈ xt_tbl := xt_in (xt_t4 (List.mem_of_getElem? (i := 124) (by decide +kernel))) (by decide +kernel)
theorem m_6ee0f551 : (.constantLong "StackHost$Checker" 116 65536 : Cond) ∈ xt_tbl := xt_in (xt_t4 (List.mem_of_getElem? (i := 126) (by decide +kernel))) (by decide +kernel)
theorem nm_Checker_checkFunction : xt_nm y_Checker_checkFunction 1 := ⟨by decide +kernel, by decide +kernel⟩
theorem nm_Checker_checkLimits : xt_nm y_Checker_checkLimits 3 := ⟨by decide +kernel, by decide +kernel⟩
set_option maxRecDepth 100000 in
def T_Checker_checkImports : List (Nat × Instr × Nat) := [(0, .iconst 0, 1), (1, .istore_n 1, 1), (2, .iload_n 1, 1), (3, .aload_n 0, 1), (4, .getfield 38, 3), (7, .getfield 98, 3), (10, .invokevirtual 77, 3), (13, .if_icmp .ge 105, 3), (16, .aload_n 0, 1), (17, .getfield 38, 3), (20, .getfield 98, 3), (23, .iload_n 1, 1), (24, .iconst 2, 1), (25, .invokevirtual 90, 3), (28, .istore_n 2, 1), (29, .aload_n 0, 1), (30, .getfield 38, 3), (33, .getfield 98, 3), (36, .iload_n 1, 1), (37, .iconst 1, 1), (38, .invokevirtual 90, 3), (41, .tableswitch 71 0 2 #[27, 35, 53], 27), (68, .aload_n 0, 1), (69, .iload_n 2, 1), (70, .invokevirtual 101, 3), (73, .goto 39, 3), (76, .aload_n 0, 1), (77, .aload_n 0, 1), (78, .getfield 38, 3), (81, .getfield 104, 3), (84, .iload_n 2, 1), (85, .ldc2_w 107, 3), (88, .invokevirtual 109, 3), (91, .goto 21, 3), (94, .aload_n 0, 1), (95, .aload_n 0, 1), (96, .getfield 38, 3), (99, .getfield 113, 3), (102, .iload_n 2, 1), (103, .ldc2_w 116, 3), (106, .invokevirtual 109, 3), (109, .goto 3, 3), (112, .iinc 1 1, 3), (115, .goto (-113), 3), (118, .return_, 1)]
theorem D_Checker_checkImports : ∀ q ∈ T_Checker_checkImports, decode b_Checker_checkImports q.1 = .ok (q.2.1, q.2.2) := by decide +kernel

set_option maxHeartbeats 4000000 in
set_option maxRecDepth 100000 in
theorem am_Checker_checkImports_L112 (l : Launch) (hfl : l.flags = pinnedFlags ++ [noTraceFlag]) (D : va_G) (A : Nat → Prop) (σ MC MS : Nat) (h0 : xb_H) (Qr : xb_H → Nat → Nat → Prop) (Qt : String → xb_H → Nat → Nat → Prop) (K2 : Nat → Int32 → xb_H → Nat → Nat → Prop) (hK2 : ∀ (x0 : Nat) (x1 : Int32) (h : xb_H) (bc : Nat) (bs : Nat), K2 x0 x1 h bc bs → xb_am l D A σ 4 MC MS h0 (fun v h bc bs => v = none ∧ Qr h bc bs) Qt y_Checker_checkImports.cls y_Checker_checkImports.name b_Checker_checkImports 3 ([] : List ExceptionTableEntry) none 2 [(0, .ref x0), (1, .int x1)] [] h bc bs) (x0 : Nat) (x1 : Int32) (h : xb_H) (bc : Nat) (bs : Nat) (hw : w_Checker_checkImports_L112 K2 Qr Qt x0 x1 h bc bs) : xb_am l D A σ 4 MC MS h0 (fun v h bc bs => v = none ∧ Qr h bc bs) Qt y_Checker_checkImports.cls y_Checker_checkImports.name b_Checker_checkImports 3 ([] : List ExceptionTableEntry) none 112 [(0, .ref x0), (1, .int x1)] [] h bc bs := by
  unfold w_Checker_checkImports_L112 at hw
  intro p e s m args below meth c hC H locs ls k n hE hl hR hS hk hn
  obtain ⟨hx, hb, hown, hlocks, htab, hml, hr, hB, hA, hnm⟩ := id hC
  have hts := hB.1.1.at args
  refine lv_iinc (v := (x1 + 1)) (k := 1) hx hb (xb_d D_Checker_checkImports 42 rfl) hl rfl (by first | rfl | decide) (by decide) rfl (fun ls hl => ?_)
  have hl : lv_has ls 3 [(1, .int (x1 + 1)), (0, .ref x0)] := hl
  refine lv_goto (tgt := 2) hx hb (xb_d D_Checker_checkImports 43 rfl) rfl ?_
  exact hK2 x0 (x1 + 1) h bc bs hw p e s m args below meth c hC H locs ls k n hE (lv_sub hl [1, 0] rfl) hR hS (by omega) (by omega)

set_option maxHeartbeats 4000000 in
set_option maxRecDepth 100000 in
theorem am_Checker_checkImports_L2 (l : Launch) (hfl : l.flags = pinnedFlags ++ [noTraceFlag]) (D : va_G) (A : Nat → Prop) (σ MC MS : Nat) (h0 : xb_H) (Qr : xb_H → Nat → Nat → Prop) (Qt : String → xb_H → Nat → Nat → Prop) (n9 : Nat) : ∀ (x0 : Nat) (x1 : Int32) (h : xb_H) (bc : Nat) (bs : Nat), w_Checker_checkImports_L2 Qr Qt n9 x0 x1 h bc bs → xb_am l D A σ 4 MC MS h0 (fun v h bc bs => v = none ∧ Qr h bc bs) Qt y_Checker_checkImports.cls y_Checker_checkImports.name b_Checker_checkImports 3 ([] : List ExceptionTableEntry) none 2 [(0, .ref x0), (1, .int x1)] [] h bc bs := by
  induction n9 with
  | zero => intro x0 x1 h bc bs hw; exact False.elim hw
  | succ n9 ih =>
    intro x0 x1 h bc bs hw
    unfold w_Checker_checkImports_L2 at hw
    intro p e s m args below meth c hC H locs ls k n hE hl hR hS hk hn
    obtain ⟨hx, hb, hown, hlocks, htab, hml, hr, hB, hA, hnm⟩ := id hC
    have hts := hB.1.1.at args
    refine lv_iload_n hx hb (xb_d D_Checker_checkImports 2 rfl) rfl (lv_at hl 1 rfl) ?_
    refine lv_aload_n hx hb (xb_d D_Checker_checkImports 3 rfl) rfl (lv_at hl 0 rfl) ?_
    obtain ⟨hk1, hw⟩ := hw
    refine xb_getP (C := R_Checker) (T := F_Checker) (N := 17) hx hb 4 0 hts fin_Checker hown hR hk1 (by decide) rfl (by decide) rfl (hts _ m_070795bc) (fun _ h9 => h9) (xb_d D_Checker_checkImports 4 rfl) ?_
    obtain ⟨b2, eb2, hw⟩ := hw
    refine xb_some eb2 ?_
    obtain ⟨hk3, hw⟩ := hw
    refine xb_getP (C := R_StackModule) (T := F_StackModule) (N := 19) hx hb 2 3 hts fin_StackModule hown hR hk3 (by decide) rfl (by decide) rfl (hts _ m_aabcadab) (fun _ h9 => h9) (xb_d D_Checker_checkImports 5 rfl) ?_
    obtain ⟨b4, eb4, hw⟩ := hw
    refine xb_some eb4 ?_
    obtain ⟨hk5, hw⟩ := hw
    refine xb_call0 (D := D) (A := A) (σ := σ) (h := h) (d := 2) (maxL := 1) (rest := [.int x1]) (av := [.ref b4]) (fun T hT X => by obtain ⟨cb9, ra9, rb9, rc9⟩ := xb_recv (ci := 1) hR rfl hk5 (by decide); exact xt_invV X hx hown (hts _ m_c8b950b4) (hts _ m_ded65609) (hts _ m_a4161156) (xt_sigOf (hts _ m_83ba3721)) nm_Row_lines (by rw [hT]; exact ra9) rb9 rc9 (g := F0 m 10 ls [.ref b4, .int x1]) rfl (argsL := []) (rest := [.int x1]) rfl rfl (by rw [hb]; exact (xb_d D_Checker_checkImports 6 rfl))) (ok_Row_lines l hfl D A σ b4 h _ hw) (hml.trans hl.1.symm) (by rw [hb]; exact (xb_d D_Checker_checkImports 6 rfl)) (Nat.le_of_ble_eq_true rfl) (Nat.le_of_ble_eq_true rfl) (Nat.le_of_ble_eq_true rfl) (show k ≤ MC by omega) (show n ≤ MS by omega) (xt_w1 hB.1 m_83ba3721) (xt_cdOf hB.1 m_83ba3721) (hts _ m_c1bef504) hB hR hS hA (fun vv h6 H locs hq hEh6 hR hS => ?_)
    obtain ⟨r7, rfl, hw⟩ := hq
    have hw := hw hEh6
    have hE := hE.tr hEh6
    refine W.eq (g2 := F0 m 13 ls [.int r7, .int x1]) rfl ?_
    refine lv_icmp_ge (tgt := 118) hx hb (xb_d D_Checker_checkImports 7 rfl) rfl (fun hc8 => ?_) (fun hc8 => ?_)
    · have hw := hw.1 hc8
      exact xb_vret bc bs hx hb hr hlocks (show k + bc ≤ MC by omega) (show n + bs ≤ MS by omega) hE hR hS (xb_d D_Checker_checkImports 44 rfl) hw
    · have hw := hw.2 hc8
      refine lv_aload_n hx hb (xb_d D_Checker_checkImports 8 rfl) rfl (lv_at hl 0 rfl) ?_
      have hk1 : xb_k h6 x0 = 5 := hEh6.k hk1
      refine xb_getP (C := R_Checker) (T := F_Checker) (N := 17) hx hb 4 0 hts fin_Checker hown hR hk1 (by decide) rfl (by decide) rfl (hts _ m_070795bc) (fun _ h9 => h9) (xb_d D_Checker_checkImports 9 rfl) ?_
      obtain ⟨b9, eb9, hw⟩ := hw
      refine xb_some eb9 ?_
      obtain ⟨hk10, hw⟩ := hw
      refine xb_getP (C := R_StackModule) (T := F_StackModule) (N := 19) hx hb 2 3 hts fin_StackModule hown hR hk10 (by decide) rfl (by decide) rfl (hts _ m_aabcadab) (fun _ h9 => h9) (xb_d D_Checker_checkImports 10 rfl) ?_
      obtain ⟨b11, eb11, hw⟩ := hw
      refine xb_some eb11 ?_
      refine lv_iload_n hx hb (xb_d D_Checker_checkImports 11 rfl) rfl (lv_at hl 1 rfl) ?_
      refine lv_iconst (v := 2) hx hb (xb_d D_Checker_checkImports 12 rfl) (by decide) ?_
      obtain ⟨hk12, hw⟩ := hw
      refine xb_call0 (D := D) (A := A) (σ := σ) (h := h6) (d := 2) (maxL := 3) (rest := []) (av := [.ref b11, .int x1, .int 2]) (fun T hT X => by obtain ⟨cb9, ra9, rb9, rc9⟩ := xb_recv (ci := 1) hR rfl hk12 (by decide); exact xt_invV X hx hown (hts _ m_068feb96) (hts _ m_8e233096) (hts _ m_27eed10c) (xt_sigOf (hts _ m_ff1c70ae)) nm_Row_at (by rw [hT]; exact ra9) rb9 rc9 (g := F0 m 25 ls [.int 2, .int x1, .ref b11]) rfl (argsL := [.int x1, .int 2]) (rest := []) rfl rfl (by rw [hb]; exact (xb_d D_Checker_checkImports 13 rfl))) (ok_Row_at l hfl D A σ b11 x1 2 h6 _ hw) (hml.trans hl.1.symm) (by rw [hb]; exact (xb_d D_Checker_checkImports 13 rfl)) (Nat.le_of_ble_eq_true rfl) (Nat.le_of_ble_eq_true rfl) (Nat.le_of_ble_eq_true rfl) (show k ≤ MC by omega) (show n ≤ MS by omega) (xt_w1 hB.1 m_ff1c70ae) (xt_cdOf hB.1 m_ff1c70ae) (hts _ m_c1bef504) hB hR hS hA (fun vv h13 H locs hq hEh13 hR hS => ?_)
      obtain ⟨r14, rfl, hw⟩ := hq
      have hw := hw hEh13
      have hE := hE.tr hEh13
      refine W.eq (g2 := F0 m 28 ls [.int r14]) rfl ?_
      refine lv_istore_n hx hb (xb_d D_Checker_checkImports 14 rfl) rfl hl (by decide) rfl (fun ls hl => ?_)
      have hl : lv_has ls 3 [(2, .int r14), (0, .ref x0), (1, .int x1)] := hl
      refine lv_aload_n hx hb (xb_d D_Checker_checkImports 15 rfl) rfl (lv_at hl 1 rfl) ?_
      have hk1 : xb_k h13 x0 = 5 := hEh13.k hk1
      refine xb_getP (C := R_Checker) (T := F_Checker) (N := 17) hx hb 4 0 hts fin_Checker hown hR hk1 (by decide) rfl (by decide) rfl (hts _ m_070795bc) (fun _ h9 => h9) (xb_d D_Checker_checkImports 16 rfl) ?_
      obtain ⟨b15, eb15, hw⟩ := hw
      refine xb_some eb15 ?_
      obtain ⟨hk16, hw⟩ := hw
      refine xb_getP (C := R_StackModule) (T := F_StackModule) (N := 19) hx hb 2 3 hts fin_StackModule hown hR hk16 (by decide) rfl (by decide) rfl (hts _ m_aabcadab) (fun _ h9 => h9) (xb_d D_Checker_checkImports 17 rfl) ?_
      obtain ⟨b17, eb17, hw⟩ := hw
      refine xb_some eb17 ?_
      refine lv_iload_n hx hb (xb_d D_Checker_checkImports 18 rfl) rfl (lv_at hl 2 rfl) ?_
      refine lv_iconst (v := 1) hx hb (xb_d D_Checker_checkImports 19 rfl) (by decide) ?_
      obtain ⟨hk18, hw⟩ := hw
      refine xb_call0 (D := D) (A := A) (σ := σ) (h := h13) (d := 2) (maxL := 3) (rest := []) (av := [.ref b17, .int x1, .int 1]) (fun T hT X => by obtain ⟨cb9, ra9, rb9, rc9⟩ := xb_recv (ci := 1) hR rfl hk18 (by decide); exact xt_invV X hx hown (hts _ m_068feb96) (hts _ m_8e233096) (hts _ m_27eed10c) (xt_sigOf (hts _ m_ff1c70ae)) nm_Row_at (by rw [hT]; exact ra9) rb9 rc9 (g := F0 m 38 ls [.int 1, .int x1, .ref b17]) rfl (argsL := [.int x1, .int 1]) (rest := []) rfl rfl (by rw [hb]; exact (xb_d D_Checker_checkImports 20 rfl))) (ok_Row_at l hfl D A σ b17 x1 1 h13 _ hw) (hml.trans hl.1.symm) (by rw [hb]; exact (xb_d D_Checker_checkImports 20 rfl)) (Nat.le_of_ble_eq_true rfl) (Nat.le_of_ble_eq_true rfl) (Nat.le_of_ble_eq_true rfl) (show k ≤ MC by omega) (show n ≤ MS by omega) (xt_w1 hB.1 m_ff1c70ae) (xt_cdOf hB.1 m_ff1c70ae) (hts _ m_c1bef504) hB hR hS hA (fun vv h19 H locs hq hEh19 hR hS => ?_)
      obtain ⟨r20, rfl, hw⟩ := hq
      have hw := hw hEh19
      have hE := hE.tr hEh19
      refine W.eq (g2 := F0 m 41 ls [.int r20]) rfl ?_
      by_cases hc21 : r20 = 0
      · have hw := hw.1 hc21
        refine xt_numi hc21 ?_
        refine lv_tableIn (off := 27) (tgt := 68) hx hb (xb_d D_Checker_checkImports 21 rfl) (by decide +kernel) (by decide +kernel) (by decide +kernel) (by decide) ?_
        refine lv_aload_n hx hb (xb_d D_Checker_checkImports 22 rfl) rfl (lv_at hl 1 rfl) ?_
        refine lv_iload_n hx hb (xb_d D_Checker_checkImports 23 rfl) rfl (lv_at hl 0 rfl) ?_
        have hk1 : xb_k h19 x0 = 5 := hEh19.k hk1
        refine xb_call (D := D) (A := A) (σ := σ) (h := h19) (d := 3) (mc := bc) (ms := bs) (maxL := 2) (rest := []) (av := [.ref x0, .int r14]) (fun T hT X => by obtain ⟨cb9, ra9, rb9, rc9⟩ := xb_recv (ci := 4) hR rfl hk1 (by decide); exact xt_invV X hx hown (hts _ m_635e771e) (hts _ m_b0a695c0) (hts _ m_1190460b) (xt_sigOf (hts _ m_dd5eb9b4)) nm_Checker_checkFunction (by rw [hT]; exact ra9) rb9 rc9 (g := F0 m 70 ls [.int r14, .ref x0]) rfl (argsL := [.int r14]) (rest := []) rfl rfl (by rw [hb]; exact (xb_d D_Checker_checkImports 24 rfl))) (ok_Checker_checkFunction l hfl D A σ x0 r14 h19 bc bs _ _ hw) (hml.trans hl.1.symm) (by rw [hb]; exact (xb_d D_Checker_checkImports 24 rfl)) (Nat.le_of_ble_eq_true rfl) (Nat.le_of_ble_eq_true rfl) (Nat.le_of_ble_eq_true rfl) (show k + bc ≤ MC by omega) (show n + bs ≤ MS by omega) (xt_w1 hB.1 m_dd5eb9b4) (xt_cdOf hB.1 m_dd5eb9b4) (hts _ m_44748ce5) hB hR hS hA (fun vv h22 bc23 bs23 kk23 nn23 H locs hk23 hn23 hq hEh22 hR hS => ?_) (fun XX ax h22 bc23 bs23 kk23 nn23 H locs hk23 hn23 hq hEh22 hex hR hS => ?_)
        · obtain ⟨rfl, hw⟩ := hq
          have hw := hw hEh22
          have hE := hE.tr hEh22
          refine W.eq (g2 := F0 m 73 ls []) rfl ?_
          refine lv_goto (tgt := 112) hx hb (xb_d D_Checker_checkImports 25 rfl) rfl ?_
          exact am_Checker_checkImports_L112 l hfl D A σ MC MS h0 Qr Qt (w_Checker_checkImports_L2 Qr Qt n9) ih x0 x1 h22 bc23 bs23 hw p e s m args below meth c hC H locs ls (k + kk23) (n + nn23) hE (lv_sub hl [1, 2] rfl) hR hS (by omega) (by omega)
        · exact xb_pass hlocks (fun x hx9 => by rw [htab] at hx9; first | (cases hx9; done) | (simp [tableOf] at hx9; subst hx9; decide) | (simp [tableOf] at hx9; rcases hx9 with rfl | rfl <;> decide) | (simp [tableOf] at hx9; rcases hx9 with rfl | rfl | rfl <;> decide)) (show (k + kk23) + bc23 ≤ MC by omega) (show (n + nn23) + bs23 ≤ MS by omega) (hE.tr hEh22) hR hS hex hq
      have hw := hw.2
      by_cases hc24 : r20 = 1
      · have hw := hw.1 hc24
        refine xt_numi hc24 ?_
        refine lv_tableIn (off := 35) (tgt := 76) hx hb (xb_d D_Checker_checkImports 21 rfl) (by decide +kernel) (by decide +kernel) (by decide +kernel) (by decide) ?_
        refine lv_aload_n hx hb (xb_d D_Checker_checkImports 26 rfl) rfl (lv_at hl 1 rfl) ?_
        refine lv_aload_n hx hb (xb_d D_Checker_checkImports 27 rfl) rfl (lv_at hl 1 rfl) ?_
        have hk1 : xb_k h19 x0 = 5 := hEh19.k hk1
        refine xb_getP (C := R_Checker) (T := F_Checker) (N := 17) hx hb 4 0 hts fin_Checker hown hR hk1 (by decide) rfl (by decide) rfl (hts _ m_070795bc) (fun _ h9 => h9) (xb_d D_Checker_checkImports 28 rfl) ?_
        obtain ⟨b25, eb25, hw⟩ := hw
        refine xb_some eb25 ?_
        obtain ⟨hk26, hw⟩ := hw
        refine xb_getP (C := R_StackModule) (T := F_StackModule) (N := 19) hx hb 2 5 hts fin_StackModule hown hR hk26 (by decide) rfl (by decide) rfl (hts _ m_81589b2f) (fun _ h9 => h9) (xb_d D_Checker_checkImports 29 rfl) ?_
        obtain ⟨b27, eb27, hw⟩ := hw
        refine xb_some eb27 ?_
        refine lv_iload_n hx hb (xb_d D_Checker_checkImports 30 rfl) rfl (lv_at hl 0 rfl) ?_
        refine lv_ldc2 (v := 4294967295) hx hb hown (hts _ m_8009c90c) (xb_d D_Checker_checkImports 31 rfl) ?_
        refine xb_call (D := D) (A := A) (σ := σ) (h := h19) (d := 3) (mc := bc) (ms := bs) (maxL := 10) (rest := []) (av := [.ref x0, .ref b27, .int r14, .long 4294967295]) (fun T hT X => by obtain ⟨cb9, ra9, rb9, rc9⟩ := xb_recv (ci := 4) hR rfl hk1 (by decide); exact xt_invV X hx hown (hts _ m_160564f4) (hts _ m_e4938329) (hts _ m_811dfb37) (xt_sigOf (hts _ m_9c84dd5e)) nm_Checker_checkLimits (by rw [hT]; exact ra9) rb9 rc9 (g := F0 m 88 ls [.long 4294967295, .int r14, .ref b27, .ref x0]) rfl (argsL := [.ref b27, .int r14, .long 4294967295]) (rest := []) rfl rfl (by rw [hb]; exact (xb_d D_Checker_checkImports 32 rfl))) (ok_Checker_checkLimits l hfl D A σ x0 b27 r14 4294967295 h19 bc bs _ _ hw) (hml.trans hl.1.symm) (by rw [hb]; exact (xb_d D_Checker_checkImports 32 rfl)) (Nat.le_of_ble_eq_true rfl) (Nat.le_of_ble_eq_true rfl) (Nat.le_of_ble_eq_true rfl) (show k + bc ≤ MC by omega) (show n + bs ≤ MS by omega) (xt_w1 hB.1 m_9c84dd5e) (xt_cdOf hB.1 m_9c84dd5e) (hts _ m_44748ce5) hB hR hS hA (fun vv h28 bc29 bs29 kk29 nn29 H locs hk29 hn29 hq hEh28 hR hS => ?_) (fun XX ax h28 bc29 bs29 kk29 nn29 H locs hk29 hn29 hq hEh28 hex hR hS => ?_)
        · obtain ⟨rfl, hw⟩ := hq
          have hw := hw hEh28
          have hE := hE.tr hEh28
          refine W.eq (g2 := F0 m 91 ls []) rfl ?_
          refine lv_goto (tgt := 112) hx hb (xb_d D_Checker_checkImports 33 rfl) rfl ?_
          exact am_Checker_checkImports_L112 l hfl D A σ MC MS h0 Qr Qt (w_Checker_checkImports_L2 Qr Qt n9) ih x0 x1 h28 bc29 bs29 hw p e s m args below meth c hC H locs ls (k + kk29) (n + nn29) hE (lv_sub hl [1, 2] rfl) hR hS (by omega) (by omega)
        · exact xb_pass hlocks (fun x hx9 => by rw [htab] at hx9; first | (cases hx9; done) | (simp [tableOf] at hx9; subst hx9; decide) | (simp [tableOf] at hx9; rcases hx9 with rfl | rfl <;> decide) | (simp [tableOf] at hx9; rcases hx9 with rfl | rfl | rfl <;> decide)) (show (k + kk29) + bc29 ≤ MC by omega) (show (n + nn29) + bs29 ≤ MS by omega) (hE.tr hEh28) hR hS hex hq
      have hw := hw.2
      by_cases hc30 : r20 = 2
      · have hw := hw.1 hc30
        refine xt_numi hc30 ?_
        refine lv_tableIn (off := 53) (tgt := 94) hx hb (xb_d D_Checker_checkImports 21 rfl) (by decide +kernel) (by decide +kernel) (by decide +kernel) (by decide) ?_
        refine lv_aload_n hx hb (xb_d D_Checker_checkImports 34 rfl) rfl (lv_at hl 1 rfl) ?_
        refine lv_aload_n hx hb (xb_d D_Checker_checkImports 35 rfl) rfl (lv_at hl 1 rfl) ?_
        have hk1 : xb_k h19 x0 = 5 := hEh19.k hk1
        refine xb_getP (C := R_Checker) (T := F_Checker) (N := 17) hx hb 4 0 hts fin_Checker hown hR hk1 (by decide) rfl (by decide) rfl (hts _ m_070795bc) (fun _ h9 => h9) (xb_d D_Checker_checkImports 36 rfl) ?_
        obtain ⟨b31, eb31, hw⟩ := hw
        refine xb_some eb31 ?_
        obtain ⟨hk32, hw⟩ := hw
        refine xb_getP (C := R_StackModule) (T := F_StackModule) (N := 19) hx hb 2 6 hts fin_StackModule hown hR hk32 (by decide) rfl (by decide) rfl (hts _ m_f104cb1a) (fun _ h9 => h9) (xb_d D_Checker_checkImports 37 rfl) ?_
        obtain ⟨b33, eb33, hw⟩ := hw
        refine xb_some eb33 ?_
        refine lv_iload_n hx hb (xb_d D_Checker_checkImports 38 rfl) rfl (lv_at hl 0 rfl) ?_
        refine lv_ldc2 (v := 65536) hx hb hown (hts _ m_6ee0f551) (xb_d D_Checker_checkImports 39 rfl) ?_
        refine xb_call (D := D) (A := A) (σ := σ) (h := h19) (d := 3) (mc := bc) (ms := bs) (maxL := 10) (rest := []) (av := [.ref x0, .ref b33, .int r14, .long 65536]) (fun T hT X => by obtain ⟨cb9, ra9, rb9, rc9⟩ := xb_recv (ci := 4) hR rfl hk1 (by decide); exact xt_invV X hx hown (hts _ m_160564f4) (hts _ m_e4938329) (hts _ m_811dfb37) (xt_sigOf (hts _ m_9c84dd5e)) nm_Checker_checkLimits (by rw [hT]; exact ra9) rb9 rc9 (g := F0 m 106 ls [.long 65536, .int r14, .ref b33, .ref x0]) rfl (argsL := [.ref b33, .int r14, .long 65536]) (rest := []) rfl rfl (by rw [hb]; exact (xb_d D_Checker_checkImports 40 rfl))) (ok_Checker_checkLimits l hfl D A σ x0 b33 r14 65536 h19 bc bs _ _ hw) (hml.trans hl.1.symm) (by rw [hb]; exact (xb_d D_Checker_checkImports 40 rfl)) (Nat.le_of_ble_eq_true rfl) (Nat.le_of_ble_eq_true rfl) (Nat.le_of_ble_eq_true rfl) (show k + bc ≤ MC by omega) (show n + bs ≤ MS by omega) (xt_w1 hB.1 m_9c84dd5e) (xt_cdOf hB.1 m_9c84dd5e) (hts _ m_44748ce5) hB hR hS hA (fun vv h34 bc35 bs35 kk35 nn35 H locs hk35 hn35 hq hEh34 hR hS => ?_) (fun XX ax h34 bc35 bs35 kk35 nn35 H locs hk35 hn35 hq hEh34 hex hR hS => ?_)
        · obtain ⟨rfl, hw⟩ := hq
          have hw := hw hEh34
          have hE := hE.tr hEh34
          refine W.eq (g2 := F0 m 109 ls []) rfl ?_
          refine lv_goto (tgt := 112) hx hb (xb_d D_Checker_checkImports 41 rfl) rfl ?_
          exact am_Checker_checkImports_L112 l hfl D A σ MC MS h0 Qr Qt (w_Checker_checkImports_L2 Qr Qt n9) ih x0 x1 h34 bc35 bs35 hw p e s m args below meth c hC H locs ls (k + kk35) (n + nn35) hE (lv_sub hl [1, 2] rfl) hR hS (by omega) (by omega)
        · exact xb_pass hlocks (fun x hx9 => by rw [htab] at hx9; first | (cases hx9; done) | (simp [tableOf] at hx9; subst hx9; decide) | (simp [tableOf] at hx9; rcases hx9 with rfl | rfl <;> decide) | (simp [tableOf] at hx9; rcases hx9 with rfl | rfl | rfl <;> decide)) (show (k + kk35) + bc35 ≤ MC by omega) (show (n + nn35) + bs35 ≤ MS by omega) (hE.tr hEh34) hR hS hex hq
      have hw := hw.2
      have hw := hw hc21 hc24 hc30
      refine lv_tableOut (tgt := 112) hx hb (xb_d D_Checker_checkImports 21 rfl) (by have a0 := xb_nl (0) 0 (by decide) hc21; have a1 := xb_nl (1) 1 (by decide) hc24; have a2 := xb_nl (2) 2 (by decide) hc30; omega) (by decide) ?_
      exact am_Checker_checkImports_L112 l hfl D A σ MC MS h0 Qr Qt (w_Checker_checkImports_L2 Qr Qt n9) ih x0 x1 h19 bc bs hw p e s m args below meth c hC H locs ls k n hE (lv_sub hl [1, 2] rfl) hR hS (by omega) (by omega)

set_option maxHeartbeats 4000000 in
set_option maxRecDepth 100000 in
theorem ok_Checker_checkImports (l : Launch) (hfl : l.flags = pinnedFlags ++ [noTraceFlag]) (D : va_G) (A : Nat → Prop) (σ : Nat) (x0 : Nat) (h : xb_H) (bc : Nat) (bs : Nat) (Qr : xb_H → Nat → Nat → Prop) (Qt : String → xb_H → Nat → Nat → Prop) (hw : w_Checker_checkImports x0 h bc bs Qr Qt) : xb_Met l y_Checker_checkImports [.code y_Checker_checkImports b_Checker_checkImports 3 none] (xb_rm 4 bc bs) (xb_Pc D A σ h [.ref x0]) (xb_Qc D A h bc bs (fun v h bc bs => v = none ∧ Qr h bc bs) Qt) A := by
  refine xb_ofAm (cc := b_Checker_checkImports) (by decide) (Nat.le_of_ble_eq_true rfl) ?_
  unfold w_Checker_checkImports at hw
  show xb_am l D A σ 4 bc bs h (fun v h bc bs => v = none ∧ Qr h bc bs) Qt y_Checker_checkImports.cls y_Checker_checkImports.name b_Checker_checkImports 3 ([] : List ExceptionTableEntry) none 0 [(0, .ref x0)] [] h bc bs
  obtain ⟨MC, hMC⟩ : ∃ x, x = bc := ⟨_, rfl⟩
  obtain ⟨MS, hMS⟩ : ∃ x, x = bs := ⟨_, rfl⟩
  rw [show xb_am l D A σ 4 bc bs = xb_am l D A σ 4 MC MS by rw [hMC, hMS]]
  obtain ⟨h0, hh0⟩ : ∃ x, x = h := ⟨_, rfl⟩
  rw [show xb_am l D A σ 4 MC MS h = xb_am l D A σ 4 MC MS h0 by rw [hh0]]
  intro p e s m args below meth c hC H locs ls k n hE hl hR hS hk hn
  obtain ⟨hx, hb, hown, hlocks, htab, hml, hr, hB, hA, hnm⟩ := id hC
  have hts := hB.1.1.at args
  refine lv_iconst (v := 0) hx hb (xb_d D_Checker_checkImports 0 rfl) (by decide) ?_
  refine lv_istore_n hx hb (xb_d D_Checker_checkImports 1 rfl) rfl hl (by decide) rfl (fun ls hl => ?_)
  have hl : lv_has ls 3 [(1, .int 0), (0, .ref x0)] := hl
  obtain ⟨n8, hw⟩ := hw
  exact am_Checker_checkImports_L2 l hfl D A σ MC MS h0 Qr Qt n8 x0 0 h bc bs hw p e s m args below meth c hC H locs ls k n hE (lv_sub hl [1, 0] rfl) hR hS (by omega) (by omega)

theorem m_3c20c1e8 : (.methodLink "StackHost$Checker" 267 y_Checker_die : Cond) ∈ xt_tbl := xt_in (xt_t6 (List.mem_of_getElem? (i := 11) (by decide +kernel))) (by decide +kernel)
theorem m_95b7140b : (.instanceMethod y_Checker_die : Cond) ∈ xt_tbl := xt_in (xt_t6 (List.mem_of_getElem? (i := 13) (by decide +kernel))) (by decide +kernel)
theorem m_ecec8718 : (.selects "StackHost$Checker" y_Checker_die y_Checker_die : Cond) ∈ xt_tbl := xt_in (xt_v4 (q := (⟨"StackHost$Checker", "die", "()V"⟩, 17)) (List.mem_of_getElem? (i := 7) (by decide +kernel))) (by decide +kernel)
theorem m_2825a1fb : (.code y_Checker_die b_Checker_die 1 none : Cond) ∈ xt_tbl := xt_in (xt_t6 (List.mem_of_getElem? (i := 14) (by decide +kernel))) (by decide +kernel)
theorem nm_Checker_die : xt_nm y_Checker_die 0 := ⟨by decide +kernel, by decide +kernel⟩
set_option maxRecDepth 100000 in
def T_Checker_checkLabels : List (Nat × Instr × Nat) := [(0, .aload_n 0, 1), (1, .getfield 196, 3), (4, .iconst 2, 1), (5, .iadd, 1), (6, .aload_n 0, 1), (7, .getfield 51, 3), (10, .aload_n 0, 1), (11, .getfield 196, 3), (14, .iconst 1, 1), (15, .iadd, 1), (16, .iaload, 1), (17, .iadd, 1), (18, .istore_n 1, 1), (19, .aload_n 0, 1), (20, .getfield 196, 3), (23, .iconst 2, 1), (24, .iadd, 1), (25, .istore_n 2, 1), (26, .iload_n 2, 1), (27, .iload_n 1, 1), (28, .if_icmp .gt 29, 3), (31, .aload_n 0, 1), (32, .aload_n 0, 1), (33, .getfield 51, 3), (36, .iload_n 2, 1), (37, .iaload, 1), (38, .i2l, 1), (39, .aload_n 0, 1), (40, .getfield 193, 3), (43, .invokestatic 125, 3), (46, .bipush 20, 2), (48, .invokevirtual 254, 3), (51, .iinc 2 1, 3), (54, .goto (-28), 3), (57, .aload_n 0, 1), (58, .getfield 25, 3), (61, .aload_n 0, 1), (62, .getfield 193, 3), (65, .iconst 1, 1), (66, .isub, 1), (67, .aload_n 0, 1), (68, .getfield 51, 3), (71, .iload_n 1, 1), (72, .iaload, 1), (73, .isub, 1), (74, .iaload, 1), (75, .istore_n 2, 1), (76, .aload_n 0, 1), (77, .getfield 196, 3), (80, .iconst 2, 1), (81, .iadd, 1), (82, .istore_n 3, 1), (83, .iload_n 3, 1), (84, .iload_n 1, 1), (85, .if_icmp .gt 34, 3), (88, .aload_n 0, 1), (89, .aload_n 0, 1), (90, .getfield 25, 3), (93, .aload_n 0, 1), (94, .iload_n 3, 1), (95, .invokevirtual 279, 3), (98, .iaload, 1), (99, .iload_n 2, 1), (100, .if_icmp .ne 7, 3), (103, .iconst 1, 1), (104, .goto 4, 3), (107, .iconst 0, 1), (108, .bipush 21, 2), (110, .invokevirtual 254, 3), (113, .iinc 3 1, 3), (116, .goto (-33), 3), (119, .aload_n 0, 1), (120, .bipush 127, 2), (122, .invokevirtual 251, 3), (125, .pop, 1), (126, .aload_n 0, 1), (127, .iload_n 2, 1), (128, .invokevirtual 251, 3), (131, .pop, 1), (132, .aload_n 0, 1), (133, .invokevirtual 267, 3), (136, .return_, 1)]
theorem D_Checker_checkLabels : ∀ q ∈ T_Checker_checkLabels, decode b_Checker_checkLabels q.1 = .ok (q.2.1, q.2.2) := by decide +kernel

set_option maxHeartbeats 4000000 in
set_option maxRecDepth 100000 in
theorem am_Checker_checkLabels_L108 (l : Launch) (hfl : l.flags = pinnedFlags ++ [noTraceFlag]) (D : va_G) (A : Nat → Prop) (σ MC MS : Nat) (h0 : xb_H) (Qr : xb_H → Nat → Nat → Prop) (Qt : String → xb_H → Nat → Nat → Prop) (K83 : Nat → Int32 → Int32 → Int32 → xb_H → Nat → Nat → Prop) (hK83 : ∀ (x0 : Nat) (x1 : Int32) (x2 : Int32) (x3 : Int32) (h : xb_H) (bc : Nat) (bs : Nat), K83 x0 x1 x2 x3 h bc bs → xb_am l D A σ 4 MC MS h0 (fun v h bc bs => v = none ∧ Qr h bc bs) Qt y_Checker_checkLabels.cls y_Checker_checkLabels.name b_Checker_checkLabels 4 ([] : List ExceptionTableEntry) none 83 [(0, .ref x0), (1, .int x1), (2, .int x2), (3, .int x3)] [] h bc bs) (x0 : Nat) (x1 : Int32) (x2 : Int32) (x3 : Int32) (y0 : Int32) (y1 : Nat) (h : xb_H) (bc : Nat) (bs : Nat) (hw : w_Checker_checkLabels_L108 K83 Qr Qt x0 x1 x2 x3 y0 y1 h bc bs) : xb_am l D A σ 4 MC MS h0 (fun v h bc bs => v = none ∧ Qr h bc bs) Qt y_Checker_checkLabels.cls y_Checker_checkLabels.name b_Checker_checkLabels 4 ([] : List ExceptionTableEntry) none 108 [(0, .ref x0), (1, .int x1), (2, .int x2), (3, .int x3)] [.int y0, .ref y1] h bc bs := by
  unfold w_Checker_checkLabels_L108 at hw
  intro p e s m args below meth c hC H locs ls k n hE hl hR hS hk hn
  obtain ⟨hx, hb, hown, hlocks, htab, hml, hr, hB, hA, hnm⟩ := id hC
  have hts := hB.1.1.at args
  refine lv_bipush (v := 21) hx hb (xb_d D_Checker_checkLabels 67 rfl) (by decide) ?_
  obtain ⟨hk1, hw⟩ := hw
  refine xb_call (D := D) (A := A) (σ := σ) (h := h) (d := 3) (mc := bc) (ms := bs) (maxL := 3) (rest := []) (av := [.ref y1, .int y0, .int 21]) (fun T hT X => by obtain ⟨cb9, ra9, rb9, rc9⟩ := xb_recv (ci := 4) hR rfl hk1 (by decide); exact xt_invV X hx hown (hts _ m_0a242445) (hts _ m_a99c45f7) (hts _ m_978d7491) (xt_sigOf (hts _ m_01f2fc97)) nm_Checker_require (by rw [hT]; exact ra9) rb9 rc9 (g := F0 m 110 ls [.int 21, .int y0, .ref y1]) rfl (argsL := [.int y0, .int 21]) (rest := []) rfl rfl (by rw [hb]; exact (xb_d D_Checker_checkLabels 68 rfl))) (ok_Checker_require l hfl D A σ y1 y0 21 h bc bs _ _ hw) (hml.trans hl.1.symm) (by rw [hb]; exact (xb_d D_Checker_checkLabels 68 rfl)) (Nat.le_of_ble_eq_true rfl) (Nat.le_of_ble_eq_true rfl) (Nat.le_of_ble_eq_true rfl) (show k + bc ≤ MC by omega) (show n + bs ≤ MS by omega) (xt_w1 hB.1 m_01f2fc97) (xt_cdOf hB.1 m_01f2fc97) (hts _ m_44748ce5) hB hR hS hA (fun vv h2 bc3 bs3 kk3 nn3 H locs hk3 hn3 hq hEh2 hR hS => ?_) (fun XX ax h2 bc3 bs3 kk3 nn3 H locs hk3 hn3 hq hEh2 hex hR hS => ?_)
  · obtain ⟨rfl, hw⟩ := hq
    have hw := hw hEh2
    have hE := hE.tr hEh2
    refine W.eq (g2 := F0 m 113 ls []) rfl ?_
    refine lv_iinc (v := (x3 + 1)) (k := 3) hx hb (xb_d D_Checker_checkLabels 69 rfl) hl rfl (by first | rfl | decide) (by decide) rfl (fun ls hl => ?_)
    have hl : lv_has ls 4 [(3, .int (x3 + 1)), (0, .ref x0), (1, .int x1), (2, .int x2)] := hl
    refine lv_goto (tgt := 83) hx hb (xb_d D_Checker_checkLabels 70 rfl) rfl ?_
    exact hK83 x0 x1 x2 (x3 + 1) h2 bc3 bs3 hw p e s m args below meth c hC H locs ls (k + kk3) (n + nn3) hE (lv_sub hl [1, 2, 3, 0] rfl) hR hS (by omega) (by omega)
  · exact xb_pass hlocks (fun x hx9 => by rw [htab] at hx9; first | (cases hx9; done) | (simp [tableOf] at hx9; subst hx9; decide) | (simp [tableOf] at hx9; rcases hx9 with rfl | rfl <;> decide) | (simp [tableOf] at hx9; rcases hx9 with rfl | rfl | rfl <;> decide)) (show (k + kk3) + bc3 ≤ MC by omega) (show (n + nn3) + bs3 ≤ MS by omega) (hE.tr hEh2) hR hS hex hq

set_option maxHeartbeats 4000000 in
set_option maxRecDepth 100000 in
theorem am_Checker_checkLabels_L83 (l : Launch) (hfl : l.flags = pinnedFlags ++ [noTraceFlag]) (D : va_G) (A : Nat → Prop) (σ MC MS : Nat) (h0 : xb_H) (Qr : xb_H → Nat → Nat → Prop) (Qt : String → xb_H → Nat → Nat → Prop) (n9 : Nat) : ∀ (x0 : Nat) (x1 : Int32) (x2 : Int32) (x3 : Int32) (h : xb_H) (bc : Nat) (bs : Nat), w_Checker_checkLabels_L83 Qr Qt n9 x0 x1 x2 x3 h bc bs → xb_am l D A σ 4 MC MS h0 (fun v h bc bs => v = none ∧ Qr h bc bs) Qt y_Checker_checkLabels.cls y_Checker_checkLabels.name b_Checker_checkLabels 4 ([] : List ExceptionTableEntry) none 83 [(0, .ref x0), (1, .int x1), (2, .int x2), (3, .int x3)] [] h bc bs := by
  induction n9 with
  | zero => intro x0 x1 x2 x3 h bc bs hw; exact False.elim hw
  | succ n9 ih =>
    intro x0 x1 x2 x3 h bc bs hw
    unfold w_Checker_checkLabels_L83 at hw
    intro p e s m args below meth c hC H locs ls k n hE hl hR hS hk hn
    obtain ⟨hx, hb, hown, hlocks, htab, hml, hr, hB, hA, hnm⟩ := id hC
    have hts := hB.1.1.at args
    refine lv_iload_n hx hb (xb_d D_Checker_checkLabels 52 rfl) rfl (lv_at hl 3 rfl) ?_
    refine lv_iload_n hx hb (xb_d D_Checker_checkLabels 53 rfl) rfl (lv_at hl 1 rfl) ?_
    refine lv_icmp_gt (tgt := 119) hx hb (xb_d D_Checker_checkLabels 54 rfl) rfl (fun hc1 => ?_) (fun hc1 => ?_)
    · have hw := hw.1 hc1
      refine lv_aload_n hx hb (xb_d D_Checker_checkLabels 71 rfl) rfl (lv_at hl 0 rfl) ?_
      refine lv_bipush (v := 127) hx hb (xb_d D_Checker_checkLabels 72 rfl) (by decide) ?_
      obtain ⟨hk2, hw⟩ := hw
      refine xb_call (D := D) (A := A) (σ := σ) (h := h) (d := 3) (mc := bc) (ms := bs) (maxL := 3) (rest := []) (av := [.ref x0, .int 127]) (fun T hT X => by obtain ⟨cb9, ra9, rb9, rc9⟩ := xb_recv (ci := 4) hR rfl hk2 (by decide); exact xt_invV X hx hown (hts _ m_0b33e20f) (hts _ m_338dda25) (hts _ m_d7dc08f9) (xt_sigOf (hts _ m_b71cce2b)) nm_Checker_take (by rw [hT]; exact ra9) rb9 rc9 (g := F0 m 122 ls [.int 127, .ref x0]) rfl (argsL := [.int 127]) (rest := []) rfl rfl (by rw [hb]; exact (xb_d D_Checker_checkLabels 73 rfl))) (ok_Checker_take l hfl D A σ x0 127 h bc bs _ _ hw) (hml.trans hl.1.symm) (by rw [hb]; exact (xb_d D_Checker_checkLabels 73 rfl)) (Nat.le_of_ble_eq_true rfl) (Nat.le_of_ble_eq_true rfl) (Nat.le_of_ble_eq_true rfl) (show k + bc ≤ MC by omega) (show n + bs ≤ MS by omega) (xt_w1 hB.1 m_b71cce2b) (xt_cdOf hB.1 m_b71cce2b) (hts _ m_44748ce5) hB hR hS hA (fun vv h3 bc4 bs4 kk4 nn4 H locs hk4 hn4 hq hEh3 hR hS => ?_) (fun XX ax h3 bc4 bs4 kk4 nn4 H locs hk4 hn4 hq hEh3 hex hR hS => ?_)
      · obtain ⟨r4, rfl, hw⟩ := hq
        have hw := hw hEh3
        have hE := hE.tr hEh3
        refine W.eq (g2 := F0 m 125 ls [.int r4]) rfl ?_
        refine lv_pop hx hb (xb_d D_Checker_checkLabels 74 rfl) rfl ?_
        refine lv_aload_n hx hb (xb_d D_Checker_checkLabels 75 rfl) rfl (lv_at hl 0 rfl) ?_
        refine lv_iload_n hx hb (xb_d D_Checker_checkLabels 76 rfl) rfl (lv_at hl 2 rfl) ?_
        have hk2 : xb_k h3 x0 = 5 := hEh3.k hk2
        refine xb_call (D := D) (A := A) (σ := σ) (h := h3) (d := 3) (mc := bc4) (ms := bs4) (maxL := 3) (rest := []) (av := [.ref x0, .int x2]) (fun T hT X => by obtain ⟨cb9, ra9, rb9, rc9⟩ := xb_recv (ci := 4) hR rfl hk2 (by decide); exact xt_invV X hx hown (hts _ m_0b33e20f) (hts _ m_338dda25) (hts _ m_d7dc08f9) (xt_sigOf (hts _ m_b71cce2b)) nm_Checker_take (by rw [hT]; exact ra9) rb9 rc9 (g := F0 m 128 ls [.int x2, .ref x0]) rfl (argsL := [.int x2]) (rest := []) rfl rfl (by rw [hb]; exact (xb_d D_Checker_checkLabels 77 rfl))) (ok_Checker_take l hfl D A σ x0 x2 h3 bc4 bs4 _ _ hw) (hml.trans hl.1.symm) (by rw [hb]; exact (xb_d D_Checker_checkLabels 77 rfl)) (Nat.le_of_ble_eq_true rfl) (Nat.le_of_ble_eq_true rfl) (Nat.le_of_ble_eq_true rfl) (show (k + kk4) + bc4 ≤ MC by omega) (show (n + nn4) + bs4 ≤ MS by omega) (xt_w1 hB.1 m_b71cce2b) (xt_cdOf hB.1 m_b71cce2b) (hts _ m_44748ce5) hB hR hS hA (fun vv h5 bc6 bs6 kk6 nn6 H locs hk6 hn6 hq hEh5 hR hS => ?_) (fun XX ax h5 bc6 bs6 kk6 nn6 H locs hk6 hn6 hq hEh5 hex hR hS => ?_)
        · obtain ⟨r6, rfl, hw⟩ := hq
          have hw := hw hEh5
          have hE := hE.tr hEh5
          refine W.eq (g2 := F0 m 131 ls [.int r6]) rfl ?_
          refine lv_pop hx hb (xb_d D_Checker_checkLabels 78 rfl) rfl ?_
          refine lv_aload_n hx hb (xb_d D_Checker_checkLabels 79 rfl) rfl (lv_at hl 0 rfl) ?_
          have hk2 : xb_k h5 x0 = 5 := hEh5.k hk2
          refine xb_call0 (D := D) (A := A) (σ := σ) (h := h5) (d := 2) (maxL := 1) (rest := []) (av := [.ref x0]) (fun T hT X => by obtain ⟨cb9, ra9, rb9, rc9⟩ := xb_recv (ci := 4) hR rfl hk2 (by decide); exact xt_invV X hx hown (hts _ m_3c20c1e8) (hts _ m_95b7140b) (hts _ m_ecec8718) (xt_sigOf (hts _ m_2825a1fb)) nm_Checker_die (by rw [hT]; exact ra9) rb9 rc9 (g := F0 m 133 ls [.ref x0]) rfl (argsL := []) (rest := []) rfl rfl (by rw [hb]; exact (xb_d D_Checker_checkLabels 80 rfl))) (ok_Checker_die l hfl D A σ x0 h5 _ hw) (hml.trans hl.1.symm) (by rw [hb]; exact (xb_d D_Checker_checkLabels 80 rfl)) (Nat.le_of_ble_eq_true rfl) (Nat.le_of_ble_eq_true rfl) (Nat.le_of_ble_eq_true rfl) (show ((k + kk4) + kk6) ≤ MC by omega) (show ((n + nn4) + nn6) ≤ MS by omega) (xt_w1 hB.1 m_2825a1fb) (xt_cdOf hB.1 m_2825a1fb) (hts _ m_44748ce5) hB hR hS hA (fun vv h7 H locs hq hEh7 hR hS => ?_)
          obtain ⟨rfl, hw⟩ := hq
          have hw := hw hEh7
          have hE := hE.tr hEh7
          refine W.eq (g2 := F0 m 136 ls []) rfl ?_
          exact xb_vret bc6 bs6 hx hb hr hlocks (show ((k + kk4) + kk6) + bc6 ≤ MC by omega) (show ((n + nn4) + nn6) + bs6 ≤ MS by omega) hE hR hS (xb_d D_Checker_checkLabels 81 rfl) hw
        · exact xb_pass hlocks (fun x hx9 => by rw [htab] at hx9; first | (cases hx9; done) | (simp [tableOf] at hx9; subst hx9; decide) | (simp [tableOf] at hx9; rcases hx9 with rfl | rfl <;> decide) | (simp [tableOf] at hx9; rcases hx9 with rfl | rfl | rfl <;> decide)) (show ((k + kk4) + kk6) + bc6 ≤ MC by omega) (show ((n + nn4) + nn6) + bs6 ≤ MS by omega) (hE.tr hEh5) hR hS hex hq
      · exact xb_pass hlocks (fun x hx9 => by rw [htab] at hx9; first | (cases hx9; done) | (simp [tableOf] at hx9; subst hx9; decide) | (simp [tableOf] at hx9; rcases hx9 with rfl | rfl <;> decide) | (simp [tableOf] at hx9; rcases hx9 with rfl | rfl | rfl <;> decide)) (show (k + kk4) + bc4 ≤ MC by omega) (show (n + nn4) + bs4 ≤ MS by omega) (hE.tr hEh3) hR hS hex hq
    · have hw := hw.2 hc1
      refine lv_aload_n hx hb (xb_d D_Checker_checkLabels 55 rfl) rfl (lv_at hl 0 rfl) ?_
      refine lv_aload_n hx hb (xb_d D_Checker_checkLabels 56 rfl) rfl (lv_at hl 0 rfl) ?_
      obtain ⟨hk9, hw⟩ := hw
      refine xb_getP (C := R_Checker) (T := F_Checker) (N := 17) hx hb 4 12 hts fin_Checker hown hR hk9 (by decide) rfl (by decide) rfl (hts _ m_8a464e71) (fun _ h9 => h9) (xb_d D_Checker_checkLabels 57 rfl) ?_
      obtain ⟨b10, eb10, hw⟩ := hw
      refine xb_some eb10 ?_
      refine lv_aload_n hx hb (xb_d D_Checker_checkLabels 58 rfl) rfl (lv_at hl 0 rfl) ?_
      refine lv_iload_n hx hb (xb_d D_Checker_checkLabels 59 rfl) rfl (lv_at hl 3 rfl) ?_
      refine xb_call (D := D) (A := A) (σ := σ) (h := h) (d := 3) (mc := bc) (ms := bs) (maxL := 3) (rest := [.ref b10, .ref x0]) (av := [.ref x0, .int x3]) (fun T hT X => by obtain ⟨cb9, ra9, rb9, rc9⟩ := xb_recv (ci := 4) hR rfl hk9 (by decide); exact xt_invV X hx hown (hts _ m_baf0cde0) (hts _ m_df7367f5) (hts _ m_b8e4b77a) (xt_sigOf (hts _ m_ae5b25e9)) nm_Checker_checkLabel (by rw [hT]; exact ra9) rb9 rc9 (g := F0 m 95 ls [.int x3, .ref x0, .ref b10, .ref x0]) rfl (argsL := [.int x3]) (rest := [.ref b10, .ref x0]) rfl rfl (by rw [hb]; exact (xb_d D_Checker_checkLabels 60 rfl))) (ok_Checker_checkLabel l hfl D A σ x0 x3 h bc bs _ _ hw) (hml.trans hl.1.symm) (by rw [hb]; exact (xb_d D_Checker_checkLabels 60 rfl)) (Nat.le_of_ble_eq_true rfl) (Nat.le_of_ble_eq_true rfl) (Nat.le_of_ble_eq_true rfl) (show k + bc ≤ MC by omega) (show n + bs ≤ MS by omega) (xt_w1 hB.1 m_ae5b25e9) (xt_cdOf hB.1 m_ae5b25e9) (hts _ m_44748ce5) hB hR hS hA (fun vv h11 bc12 bs12 kk12 nn12 H locs hk12 hn12 hq hEh11 hR hS => ?_) (fun XX ax h11 bc12 bs12 kk12 nn12 H locs hk12 hn12 hq hEh11 hex hR hS => ?_)
      · obtain ⟨r12, rfl, hw⟩ := hq
        have hw := hw hEh11
        have hE := hE.tr hEh11
        refine W.eq (g2 := F0 m 98 ls [.int r12, .ref b10, .ref x0]) rfl ?_
        obtain ⟨hk14, hw⟩ := hw
        obtain ⟨hi13, hw⟩ := hw
        refine xb_iald hx hb hR hk14 hi13 (xb_d D_Checker_checkLabels 61 rfl) ?_
        refine lv_iload_n hx hb (xb_d D_Checker_checkLabels 62 rfl) rfl (lv_at hl 2 rfl) ?_
        refine lv_icmp_ne (tgt := 107) hx hb (xb_d D_Checker_checkLabels 63 rfl) rfl (fun hc15 => ?_) (fun hc15 => ?_)
        · have hw := hw.1 hc15
          refine lv_iconst (v := 0) hx hb (xb_d D_Checker_checkLabels 66 rfl) (by decide) ?_
          exact am_Checker_checkLabels_L108 l hfl D A σ MC MS h0 Qr Qt (w_Checker_checkLabels_L83 Qr Qt n9) ih x0 x1 x2 x3 0 x0 h11 bc12 bs12 hw p e s m args below meth c hC H locs ls (k + kk12) (n + nn12) hE (lv_sub hl [0, 1, 2, 3] rfl) hR hS (by omega) (by omega)
        · have hw := hw.2 hc15
          refine lv_iconst (v := 1) hx hb (xb_d D_Checker_checkLabels 64 rfl) (by decide) ?_
          refine lv_goto (tgt := 108) hx hb (xb_d D_Checker_checkLabels 65 rfl) rfl ?_
          exact am_Checker_checkLabels_L108 l hfl D A σ MC MS h0 Qr Qt (w_Checker_checkLabels_L83 Qr Qt n9) ih x0 x1 x2 x3 1 x0 h11 bc12 bs12 hw p e s m args below meth c hC H locs ls (k + kk12) (n + nn12) hE (lv_sub hl [0, 1, 2, 3] rfl) hR hS (by omega) (by omega)
      · exact xb_pass hlocks (fun x hx9 => by rw [htab] at hx9; first | (cases hx9; done) | (simp [tableOf] at hx9; subst hx9; decide) | (simp [tableOf] at hx9; rcases hx9 with rfl | rfl <;> decide) | (simp [tableOf] at hx9; rcases hx9 with rfl | rfl | rfl <;> decide)) (show (k + kk12) + bc12 ≤ MC by omega) (show (n + nn12) + bs12 ≤ MS by omega) (hE.tr hEh11) hR hS hex hq

set_option maxHeartbeats 4000000 in
set_option maxRecDepth 100000 in
theorem am_Checker_checkLabels_L26 (l : Launch) (hfl : l.flags = pinnedFlags ++ [noTraceFlag]) (D : va_G) (A : Nat → Prop) (σ MC MS : Nat) (h0 : xb_H) (Qr : xb_H → Nat → Nat → Prop) (Qt : String → xb_H → Nat → Nat → Prop) (n9 : Nat) : ∀ (x0 : Nat) (x1 : Int32) (x2 : Int32) (h : xb_H) (bc : Nat) (bs : Nat), w_Checker_checkLabels_L26 Qr Qt n9 x0 x1 x2 h bc bs → xb_am l D A σ 4 MC MS h0 (fun v h bc bs => v = none ∧ Qr h bc bs) Qt y_Checker_checkLabels.cls y_Checker_checkLabels.name b_Checker_checkLabels 4 ([] : List ExceptionTableEntry) none 26 [(0, .ref x0), (1, .int x1), (2, .int x2)] [] h bc bs := by
  induction n9 with
  | zero => intro x0 x1 x2 h bc bs hw; exact False.elim hw
  | succ n9 ih =>
    intro x0 x1 x2 h bc bs hw
    unfold w_Checker_checkLabels_L26 at hw
    intro p e s m args below meth c hC H locs ls k n hE hl hR hS hk hn
    obtain ⟨hx, hb, hown, hlocks, htab, hml, hr, hB, hA, hnm⟩ := id hC
    have hts := hB.1.1.at args
    refine lv_iload_n hx hb (xb_d D_Checker_checkLabels 18 rfl) rfl (lv_at hl 2 rfl) ?_
    refine lv_iload_n hx hb (xb_d D_Checker_checkLabels 19 rfl) rfl (lv_at hl 1 rfl) ?_
    refine lv_icmp_gt (tgt := 57) hx hb (xb_d D_Checker_checkLabels 20 rfl) rfl (fun hc1 => ?_) (fun hc1 => ?_)
    · have hw := hw.1 hc1
      refine lv_aload_n hx hb (xb_d D_Checker_checkLabels 34 rfl) rfl (lv_at hl 0 rfl) ?_
      obtain ⟨hk2, hw⟩ := hw
      refine xb_getP (C := R_Checker) (T := F_Checker) (N := 17) hx hb 4 12 hts fin_Checker hown hR hk2 (by decide) rfl (by decide) rfl (hts _ m_8a464e71) (fun _ h9 => h9) (xb_d D_Checker_checkLabels 35 rfl) ?_
      obtain ⟨b3, eb3, hw⟩ := hw
      refine xb_some eb3 ?_
      refine lv_aload_n hx hb (xb_d D_Checker_checkLabels 36 rfl) rfl (lv_at hl 0 rfl) ?_
      refine xb_getI (C := R_Checker) (T := F_Checker) (N := 17) hx hb 4 16 hts fin_Checker hown hR hk2 (by decide) rfl (by decide) rfl (hts _ m_47f80c41) (fun _ h9 => h9) (xb_d D_Checker_checkLabels 37 rfl) ?_
      refine lv_iconst (v := 1) hx hb (xb_d D_Checker_checkLabels 38 rfl) (by decide) ?_
      refine lv_isub hx hb (xb_d D_Checker_checkLabels 39 rfl) ?_
      refine lv_aload_n hx hb (xb_d D_Checker_checkLabels 40 rfl) rfl (lv_at hl 0 rfl) ?_
      refine xb_getP (C := R_Checker) (T := F_Checker) (N := 17) hx hb 4 2 hts fin_Checker hown hR hk2 (by decide) rfl (by decide) rfl (hts _ m_b5ef1148) (fun _ h9 => h9) (xb_d D_Checker_checkLabels 41 rfl) ?_
      obtain ⟨b4, eb4, hw⟩ := hw
      refine xb_some eb4 ?_
      refine lv_iload_n hx hb (xb_d D_Checker_checkLabels 42 rfl) rfl (lv_at hl 1 rfl) ?_
      obtain ⟨hk6, hw⟩ := hw
      obtain ⟨hi5, hw⟩ := hw
      refine xb_iald hx hb hR hk6 hi5 (xb_d D_Checker_checkLabels 43 rfl) ?_
      refine lv_isub hx hb (xb_d D_Checker_checkLabels 44 rfl) ?_
      obtain ⟨hk8, hw⟩ := hw
      obtain ⟨hi7, hw⟩ := hw
      refine xb_iald hx hb hR hk8 hi7 (xb_d D_Checker_checkLabels 45 rfl) ?_
      obtain ⟨v9, ev9⟩ : ∃ x : Int32, x = (xb_i h b3 (Int32.toNatClampNeg (((xb_i h x0 16) - 1) - (xb_i h b4 (Int32.toNatClampNeg x1))))) := ⟨_, rfl⟩
      have hw := hw v9 ev9
      refine xt_numi (y := v9) ev9.symm ?_
      refine lv_istore_n hx hb (xb_d D_Checker_checkLabels 46 rfl) rfl hl (by decide) rfl (fun ls hl => ?_)
      have hl : lv_has ls 4 [(2, .int v9), (0, .ref x0), (1, .int x1)] := hl
      refine lv_aload_n hx hb (xb_d D_Checker_checkLabels 47 rfl) rfl (lv_at hl 1 rfl) ?_
      refine xb_getI (C := R_Checker) (T := F_Checker) (N := 17) hx hb 4 9 hts fin_Checker hown hR hk2 (by decide) rfl (by decide) rfl (hts _ m_28193d38) (fun _ h9 => h9) (xb_d D_Checker_checkLabels 48 rfl) ?_
      refine lv_iconst (v := 2) hx hb (xb_d D_Checker_checkLabels 49 rfl) (by decide) ?_
      refine lv_iadd hx hb (xb_d D_Checker_checkLabels 50 rfl) ?_
      obtain ⟨v10, ev10⟩ : ∃ x : Int32, x = ((xb_i h x0 9) + 2) := ⟨_, rfl⟩
      have hw := hw v10 ev10
      refine xt_numi (y := v10) ev10.symm ?_
      refine lv_istore_n hx hb (xb_d D_Checker_checkLabels 51 rfl) rfl hl (by decide) rfl (fun ls hl => ?_)
      have hl : lv_has ls 4 [(3, .int v10), (2, .int v9), (0, .ref x0), (1, .int x1)] := hl
      obtain ⟨n8, hw⟩ := hw
      exact am_Checker_checkLabels_L83 l hfl D A σ MC MS h0 Qr Qt n8 x0 x1 v9 v10 h bc bs hw p e s m args below meth c hC H locs ls k n hE (lv_sub hl [2, 3, 1, 0] rfl) hR hS (by omega) (by omega)
    · have hw := hw.2 hc1
      refine lv_aload_n hx hb (xb_d D_Checker_checkLabels 21 rfl) rfl (lv_at hl 0 rfl) ?_
      refine lv_aload_n hx hb (xb_d D_Checker_checkLabels 22 rfl) rfl (lv_at hl 0 rfl) ?_
      obtain ⟨hk11, hw⟩ := hw
      refine xb_getP (C := R_Checker) (T := F_Checker) (N := 17) hx hb 4 2 hts fin_Checker hown hR hk11 (by decide) rfl (by decide) rfl (hts _ m_b5ef1148) (fun _ h9 => h9) (xb_d D_Checker_checkLabels 23 rfl) ?_
      obtain ⟨b12, eb12, hw⟩ := hw
      refine xb_some eb12 ?_
      refine lv_iload_n hx hb (xb_d D_Checker_checkLabels 24 rfl) rfl (lv_at hl 2 rfl) ?_
      obtain ⟨hk14, hw⟩ := hw
      obtain ⟨hi13, hw⟩ := hw
      refine xb_iald hx hb hR hk14 hi13 (xb_d D_Checker_checkLabels 25 rfl) ?_
      refine lv_i2l hx hb (xb_d D_Checker_checkLabels 26 rfl) rfl ?_
      refine lv_aload_n hx hb (xb_d D_Checker_checkLabels 27 rfl) rfl (lv_at hl 0 rfl) ?_
      refine xb_getI (C := R_Checker) (T := F_Checker) (N := 17) hx hb 4 16 hts fin_Checker hown hR hk11 (by decide) rfl (by decide) rfl (hts _ m_47f80c41) (fun _ h9 => h9) (xb_d D_Checker_checkLabels 28 rfl) ?_
      refine xb_call0 (D := D) (A := A) (σ := σ) (h := h) (d := 2) (maxL := 3) (rest := [.ref x0]) (av := [.long (Int32.toInt64 (xb_i h b12 (Int32.toNatClampNeg x2))), .int (xb_i h x0 16)]) (fun T hT X => xt_invS X hx hown (hts _ m_fe08b245) (hts _ m_9ad1e0af) (hts _ m_44748ce5) (xt_sgS (hts _ m_2237aee6)).1 (xt_sgS (hts _ m_2237aee6)).2 nm_Checker_isThere (g := F0 m 43 ls [.int (xb_i h x0 16), .long (Int32.toInt64 (xb_i h b12 (Int32.toNatClampNeg x2))), .ref x0]) rfl (argsL := [.long (Int32.toInt64 (xb_i h b12 (Int32.toNatClampNeg x2))), .int (xb_i h x0 16)]) (rest := [.ref x0]) rfl rfl (by rw [hb]; exact (xb_d D_Checker_checkLabels 29 rfl))) (ok_Checker_isThere l hfl D A σ (Int32.toInt64 (xb_i h b12 (Int32.toNatClampNeg x2))) (xb_i h x0 16) h _ hw) (hml.trans hl.1.symm) (by rw [hb]; exact (xb_d D_Checker_checkLabels 29 rfl)) (Nat.le_of_ble_eq_true rfl) (Nat.le_of_ble_eq_true rfl) (Nat.le_of_ble_eq_true rfl) (show k ≤ MC by omega) (show n ≤ MS by omega) (xt_w1 hB.1 m_2237aee6) (xt_cdOf hB.1 m_2237aee6) (hts _ m_44748ce5) hB hR hS hA (fun vv h15 H locs hq hEh15 hR hS => ?_)
      obtain ⟨r16, rfl, hw⟩ := hq
      have hw := hw hEh15
      have hE := hE.tr hEh15
      refine W.eq (g2 := F0 m 46 ls [.int r16, .ref x0]) rfl ?_
      refine lv_bipush (v := 20) hx hb (xb_d D_Checker_checkLabels 30 rfl) (by decide) ?_
      have hk11 : xb_k h15 x0 = 5 := hEh15.k hk11
      refine xb_call (D := D) (A := A) (σ := σ) (h := h15) (d := 3) (mc := bc) (ms := bs) (maxL := 3) (rest := []) (av := [.ref x0, .int r16, .int 20]) (fun T hT X => by obtain ⟨cb9, ra9, rb9, rc9⟩ := xb_recv (ci := 4) hR rfl hk11 (by decide); exact xt_invV X hx hown (hts _ m_0a242445) (hts _ m_a99c45f7) (hts _ m_978d7491) (xt_sigOf (hts _ m_01f2fc97)) nm_Checker_require (by rw [hT]; exact ra9) rb9 rc9 (g := F0 m 48 ls [.int 20, .int r16, .ref x0]) rfl (argsL := [.int r16, .int 20]) (rest := []) rfl rfl (by rw [hb]; exact (xb_d D_Checker_checkLabels 31 rfl))) (ok_Checker_require l hfl D A σ x0 r16 20 h15 bc bs _ _ hw) (hml.trans hl.1.symm) (by rw [hb]; exact (xb_d D_Checker_checkLabels 31 rfl)) (Nat.le_of_ble_eq_true rfl) (Nat.le_of_ble_eq_true rfl) (Nat.le_of_ble_eq_true rfl) (show k + bc ≤ MC by omega) (show n + bs ≤ MS by omega) (xt_w1 hB.1 m_01f2fc97) (xt_cdOf hB.1 m_01f2fc97) (hts _ m_44748ce5) hB hR hS hA (fun vv h17 bc18 bs18 kk18 nn18 H locs hk18 hn18 hq hEh17 hR hS => ?_) (fun XX ax h17 bc18 bs18 kk18 nn18 H locs hk18 hn18 hq hEh17 hex hR hS => ?_)
      · obtain ⟨rfl, hw⟩ := hq
        have hw := hw hEh17
        have hE := hE.tr hEh17
        refine W.eq (g2 := F0 m 51 ls []) rfl ?_
        refine lv_iinc (v := (x2 + 1)) (k := 2) hx hb (xb_d D_Checker_checkLabels 32 rfl) hl rfl (by first | rfl | decide) (by decide) rfl (fun ls hl => ?_)
        have hl : lv_has ls 4 [(2, .int (x2 + 1)), (0, .ref x0), (1, .int x1)] := hl
        refine lv_goto (tgt := 26) hx hb (xb_d D_Checker_checkLabels 33 rfl) rfl ?_
        exact ih x0 x1 (x2 + 1) h17 bc18 bs18 hw p e s m args below meth c hC H locs ls (k + kk18) (n + nn18) hE (lv_sub hl [1, 2, 0] rfl) hR hS (by omega) (by omega)
      · exact xb_pass hlocks (fun x hx9 => by rw [htab] at hx9; first | (cases hx9; done) | (simp [tableOf] at hx9; subst hx9; decide) | (simp [tableOf] at hx9; rcases hx9 with rfl | rfl <;> decide) | (simp [tableOf] at hx9; rcases hx9 with rfl | rfl | rfl <;> decide)) (show (k + kk18) + bc18 ≤ MC by omega) (show (n + nn18) + bs18 ≤ MS by omega) (hE.tr hEh17) hR hS hex hq

set_option maxHeartbeats 4000000 in
set_option maxRecDepth 100000 in
theorem ok_Checker_checkLabels (l : Launch) (hfl : l.flags = pinnedFlags ++ [noTraceFlag]) (D : va_G) (A : Nat → Prop) (σ : Nat) (x0 : Nat) (h : xb_H) (bc : Nat) (bs : Nat) (Qr : xb_H → Nat → Nat → Prop) (Qt : String → xb_H → Nat → Nat → Prop) (hw : w_Checker_checkLabels x0 h bc bs Qr Qt) : xb_Met l y_Checker_checkLabels [.code y_Checker_checkLabels b_Checker_checkLabels 4 none] (xb_rm 4 bc bs) (xb_Pc D A σ h [.ref x0]) (xb_Qc D A h bc bs (fun v h bc bs => v = none ∧ Qr h bc bs) Qt) A := by
  refine xb_ofAm (cc := b_Checker_checkLabels) (by decide) (Nat.le_of_ble_eq_true rfl) ?_
  unfold w_Checker_checkLabels at hw
  show xb_am l D A σ 4 bc bs h (fun v h bc bs => v = none ∧ Qr h bc bs) Qt y_Checker_checkLabels.cls y_Checker_checkLabels.name b_Checker_checkLabels 4 ([] : List ExceptionTableEntry) none 0 [(0, .ref x0)] [] h bc bs
  obtain ⟨MC, hMC⟩ : ∃ x, x = bc := ⟨_, rfl⟩
  obtain ⟨MS, hMS⟩ : ∃ x, x = bs := ⟨_, rfl⟩
  rw [show xb_am l D A σ 4 bc bs = xb_am l D A σ 4 MC MS by rw [hMC, hMS]]
  obtain ⟨h0, hh0⟩ : ∃ x, x = h := ⟨_, rfl⟩
  rw [show xb_am l D A σ 4 MC MS h = xb_am l D A σ 4 MC MS h0 by rw [hh0]]
  intro p e s m args below meth c hC H locs ls k n hE hl hR hS hk hn
  obtain ⟨hx, hb, hown, hlocks, htab, hml, hr, hB, hA, hnm⟩ := id hC
  have hts := hB.1.1.at args
  refine lv_aload_n hx hb (xb_d D_Checker_checkLabels 0 rfl) rfl (lv_at hl 0 rfl) ?_
  obtain ⟨hk1, hw⟩ := hw
  refine xb_getI (C := R_Checker) (T := F_Checker) (N := 17) hx hb 4 9 hts fin_Checker hown hR hk1 (by decide) rfl (by decide) rfl (hts _ m_28193d38) (fun _ h9 => h9) (xb_d D_Checker_checkLabels 1 rfl) ?_
  refine lv_iconst (v := 2) hx hb (xb_d D_Checker_checkLabels 2 rfl) (by decide) ?_
  refine lv_iadd hx hb (xb_d D_Checker_checkLabels 3 rfl) ?_
  refine lv_aload_n hx hb (xb_d D_Checker_checkLabels 4 rfl) rfl (lv_at hl 0 rfl) ?_
  refine xb_getP (C := R_Checker) (T := F_Checker) (N := 17) hx hb 4 2 hts fin_Checker hown hR hk1 (by decide) rfl (by decide) rfl (hts _ m_b5ef1148) (fun _ h9 => h9) (xb_d D_Checker_checkLabels 5 rfl) ?_
  obtain ⟨b2, eb2, hw⟩ := hw
  refine xb_some eb2 ?_
  refine lv_aload_n hx hb (xb_d D_Checker_checkLabels 6 rfl) rfl (lv_at hl 0 rfl) ?_
  refine xb_getI (C := R_Checker) (T := F_Checker) (N := 17) hx hb 4 9 hts fin_Checker hown hR hk1 (by decide) rfl (by decide) rfl (hts _ m_28193d38) (fun _ h9 => h9) (xb_d D_Checker_checkLabels 7 rfl) ?_
  refine lv_iconst (v := 1) hx hb (xb_d D_Checker_checkLabels 8 rfl) (by decide) ?_
  refine lv_iadd hx hb (xb_d D_Checker_checkLabels 9 rfl) ?_
  obtain ⟨hk4, hw⟩ := hw
  obtain ⟨hi3, hw⟩ := hw
  refine xb_iald hx hb hR hk4 hi3 (xb_d D_Checker_checkLabels 10 rfl) ?_
  refine lv_iadd hx hb (xb_d D_Checker_checkLabels 11 rfl) ?_
  obtain ⟨v5, ev5⟩ : ∃ x : Int32, x = (((xb_i h x0 9) + 2) + (xb_i h b2 (Int32.toNatClampNeg ((xb_i h x0 9) + 1)))) := ⟨_, rfl⟩
  have hw := hw v5 ev5
  refine xt_numi (y := v5) ev5.symm ?_
  refine lv_istore_n hx hb (xb_d D_Checker_checkLabels 12 rfl) rfl hl (by decide) rfl (fun ls hl => ?_)
  have hl : lv_has ls 4 [(1, .int v5), (0, .ref x0)] := hl
  refine lv_aload_n hx hb (xb_d D_Checker_checkLabels 13 rfl) rfl (lv_at hl 1 rfl) ?_
  refine xb_getI (C := R_Checker) (T := F_Checker) (N := 17) hx hb 4 9 hts fin_Checker hown hR hk1 (by decide) rfl (by decide) rfl (hts _ m_28193d38) (fun _ h9 => h9) (xb_d D_Checker_checkLabels 14 rfl) ?_
  refine lv_iconst (v := 2) hx hb (xb_d D_Checker_checkLabels 15 rfl) (by decide) ?_
  refine lv_iadd hx hb (xb_d D_Checker_checkLabels 16 rfl) ?_
  obtain ⟨v6, ev6⟩ : ∃ x : Int32, x = ((xb_i h x0 9) + 2) := ⟨_, rfl⟩
  have hw := hw v6 ev6
  refine xt_numi (y := v6) ev6.symm ?_
  refine lv_istore_n hx hb (xb_d D_Checker_checkLabels 17 rfl) rfl hl (by decide) rfl (fun ls hl => ?_)
  have hl : lv_has ls 4 [(2, .int v6), (1, .int v5), (0, .ref x0)] := hl
  obtain ⟨n8, hw⟩ := hw
  exact am_Checker_checkLabels_L26 l hfl D A σ MC MS h0 Qr Qt n8 x0 v5 v6 h bc bs hw p e s m args below meth c hC H locs ls k n hE (lv_sub hl [2, 1, 0] rfl) hR hS (by omega) (by omega)

theorem m_d6f6646f : (.fieldLinkNest "StackHost$Checker" 261 "StackHost" "MEMORY_TYPES" "[I" "StackHost" : Cond) ∈ xt_tbl := xt_in (xt_t5 (List.mem_of_getElem? (i := 237) (by decide +kernel))) (by decide +kernel)
theorem m_478d3f58 : (.fieldLinkNest "StackHost$Checker" 258 "StackHost" "MEMORY_BYTES" "[I" "StackHost" : Cond) ∈ xt_tbl := xt_in (xt_t5 (List.mem_of_getElem? (i := 235) (by decide +kernel))) (by decide +kernel)
set_option maxRecDepth 100000 in
def T_Checker_checkMemory : List (Nat × Instr × Nat) := [(0, .aload_n 0, 1), (1, .aload_n 0, 1), (2, .getfield 38, 3), (5, .getfield 113, 3), (8, .invokevirtual 77, 3), (11, .ifCond .le 7, 3), (14, .iconst 1, 1), (15, .goto 4, 3), (18, .iconst 0, 1), (19, .bipush 20, 2), (21, .invokevirtual 254, 3), (24, .iload_n 1, 1), (25, .bipush 63, 2), (27, .if_icmp .lt 23, 3), (30, .iload_n 1, 1), (31, .bipush 63, 2), (33, .if_icmp .le 10, 3), (36, .aload_n 0, 1), (37, .bipush 127, 2), (39, .invokevirtual 251, 3), (42, .pop, 1), (43, .aload_n 0, 1), (44, .bipush 127, 2), (46, .invokevirtual 236, 3), (49, .return_, 1), (50, .iload_n 1, 1), (51, .bipush 40, 2), (53, .isub, 1), (54, .istore_n 2, 1), (55, .aload_n 0, 1), (56, .getfield 51, 3), (59, .aload_n 0, 1), (60, .getfield 196, 3), (63, .iconst 1, 1), (64, .iadd, 1), (65, .iaload, 1), (66, .istore_n 3, 1), (67, .aload_n 0, 1), (68, .iload_n 3, 1), (69, .ifCond .lt 23, 3), (72, .iload_n 3, 1), (73, .iconst 3, 1), (74, .if_icmp .gt 18, 3), (77, .iconst 1, 1), (78, .iload_n 3, 1), (79, .ishl, 1), (80, .getstatic 258, 3), (83, .iload_n 2, 1), (84, .iaload, 1), (85, .if_icmp .gt 7, 3), (88, .iconst 1, 1), (89, .goto 4, 3), (92, .iconst 0, 1), (93, .bipush 22, 2), (95, .invokevirtual 254, 3), (98, .iload_n 1, 1), (99, .bipush 54, 2), (101, .if_icmp .lt 23, 3), (104, .aload_n 0, 1), (105, .getstatic 261, 3), (108, .iload_n 2, 1), (109, .iaload, 1), (110, .invokevirtual 251, 3), (113, .pop, 1), (114, .aload_n 0, 1), (115, .bipush 127, 2), (117, .invokevirtual 251, 3), (120, .pop, 1), (121, .goto 19, 3), (124, .aload_n 0, 1), (125, .bipush 127, 2), (127, .invokevirtual 251, 3), (130, .pop, 1), (131, .aload_n 0, 1), (132, .getstatic 261, 3), (135, .iload_n 2, 1), (136, .iaload, 1), (137, .invokevirtual 236, 3), (140, .return_, 1)]
theorem D_Checker_checkMemory : ∀ q ∈ T_Checker_checkMemory, decode b_Checker_checkMemory q.1 = .ok (q.2.1, q.2.2) := by decide +kernel

set_option maxHeartbeats 4000000 in
set_option maxRecDepth 100000 in
theorem am_Checker_checkMemory_L140 (l : Launch) (hfl : l.flags = pinnedFlags ++ [noTraceFlag]) (D : va_G) (A : Nat → Prop) (σ MC MS : Nat) (h0 : xb_H) (Qr : xb_H → Nat → Nat → Prop) (Qt : String → xb_H → Nat → Nat → Prop) (h : xb_H) (bc : Nat) (bs : Nat) (hw : w_Checker_checkMemory_L140 Qr Qt h bc bs) : xb_am l D A σ 4 MC MS h0 (fun v h bc bs => v = none ∧ Qr h bc bs) Qt y_Checker_checkMemory.cls y_Checker_checkMemory.name b_Checker_checkMemory 4 ([] : List ExceptionTableEntry) none 140 [] [] h bc bs := by
  unfold w_Checker_checkMemory_L140 at hw
  intro p e s m args below meth c hC H locs ls k n hE hl hR hS hk hn
  obtain ⟨hx, hb, hown, hlocks, htab, hml, hr, hB, hA, hnm⟩ := id hC
  have hts := hB.1.1.at args
  exact xb_vret bc bs hx hb hr hlocks (show k + bc ≤ MC by omega) (show n + bs ≤ MS by omega) hE hR hS (xb_d D_Checker_checkMemory 78 rfl) hw

set_option maxHeartbeats 4000000 in
set_option maxRecDepth 100000 in
theorem am_Checker_checkMemory_L93 (l : Launch) (hfl : l.flags = pinnedFlags ++ [noTraceFlag]) (D : va_G) (A : Nat → Prop) (σ MC MS : Nat) (h0 : xb_H) (Qr : xb_H → Nat → Nat → Prop) (Qt : String → xb_H → Nat → Nat → Prop) (x0 : Nat) (x1 : Int32) (x2 : Int32) (y0 : Int32) (y1 : Nat) (h : xb_H) (bc : Nat) (bs : Nat) (hw : w_Checker_checkMemory_L93 Qr Qt x0 x1 x2 y0 y1 h bc bs) : xb_am l D A σ 4 MC MS h0 (fun v h bc bs => v = none ∧ Qr h bc bs) Qt y_Checker_checkMemory.cls y_Checker_checkMemory.name b_Checker_checkMemory 4 ([] : List ExceptionTableEntry) none 93 [(0, .ref x0), (1, .int x1), (2, .int x2)] [.int y0, .ref y1] h bc bs := by
  unfold w_Checker_checkMemory_L93 at hw
  intro p e s m args below meth c hC H locs ls k n hE hl hR hS hk hn
  obtain ⟨hx, hb, hown, hlocks, htab, hml, hr, hB, hA, hnm⟩ := id hC
  have hts := hB.1.1.at args
  refine lv_bipush (v := 22) hx hb (xb_d D_Checker_checkMemory 53 rfl) (by decide) ?_
  obtain ⟨hk1, hw⟩ := hw
  refine xb_call (D := D) (A := A) (σ := σ) (h := h) (d := 3) (mc := bc) (ms := bs) (maxL := 3) (rest := []) (av := [.ref y1, .int y0, .int 22]) (fun T hT X => by obtain ⟨cb9, ra9, rb9, rc9⟩ := xb_recv (ci := 4) hR rfl hk1 (by decide); exact xt_invV X hx hown (hts _ m_0a242445) (hts _ m_a99c45f7) (hts _ m_978d7491) (xt_sigOf (hts _ m_01f2fc97)) nm_Checker_require (by rw [hT]; exact ra9) rb9 rc9 (g := F0 m 95 ls [.int 22, .int y0, .ref y1]) rfl (argsL := [.int y0, .int 22]) (rest := []) rfl rfl (by rw [hb]; exact (xb_d D_Checker_checkMemory 54 rfl))) (ok_Checker_require l hfl D A σ y1 y0 22 h bc bs _ _ hw) (hml.trans hl.1.symm) (by rw [hb]; exact (xb_d D_Checker_checkMemory 54 rfl)) (Nat.le_of_ble_eq_true rfl) (Nat.le_of_ble_eq_true rfl) (Nat.le_of_ble_eq_true rfl) (show k + bc ≤ MC by omega) (show n + bs ≤ MS by omega) (xt_w1 hB.1 m_01f2fc97) (xt_cdOf hB.1 m_01f2fc97) (hts _ m_44748ce5) hB hR hS hA (fun vv h2 bc3 bs3 kk3 nn3 H locs hk3 hn3 hq hEh2 hR hS => ?_) (fun XX ax h2 bc3 bs3 kk3 nn3 H locs hk3 hn3 hq hEh2 hex hR hS => ?_)
  · obtain ⟨rfl, hw⟩ := hq
    have hw := hw hEh2
    have hE := hE.tr hEh2
    refine W.eq (g2 := F0 m 98 ls []) rfl ?_
    refine lv_iload_n hx hb (xb_d D_Checker_checkMemory 55 rfl) rfl (lv_at hl 1 rfl) ?_
    refine lv_bipush (v := 54) hx hb (xb_d D_Checker_checkMemory 56 rfl) (by decide) ?_
    refine lv_icmp_lt (tgt := 124) hx hb (xb_d D_Checker_checkMemory 57 rfl) rfl (fun hc4 => ?_) (fun hc4 => ?_)
    · have hw := hw.1 hc4
      refine lv_aload_n hx hb (xb_d D_Checker_checkMemory 69 rfl) rfl (lv_at hl 0 rfl) ?_
      refine lv_bipush (v := 127) hx hb (xb_d D_Checker_checkMemory 70 rfl) (by decide) ?_
      obtain ⟨hk5, hw⟩ := hw
      refine xb_call (D := D) (A := A) (σ := σ) (h := h2) (d := 3) (mc := bc3) (ms := bs3) (maxL := 3) (rest := []) (av := [.ref x0, .int 127]) (fun T hT X => by obtain ⟨cb9, ra9, rb9, rc9⟩ := xb_recv (ci := 4) hR rfl hk5 (by decide); exact xt_invV X hx hown (hts _ m_0b33e20f) (hts _ m_338dda25) (hts _ m_d7dc08f9) (xt_sigOf (hts _ m_b71cce2b)) nm_Checker_take (by rw [hT]; exact ra9) rb9 rc9 (g := F0 m 127 ls [.int 127, .ref x0]) rfl (argsL := [.int 127]) (rest := []) rfl rfl (by rw [hb]; exact (xb_d D_Checker_checkMemory 71 rfl))) (ok_Checker_take l hfl D A σ x0 127 h2 bc3 bs3 _ _ hw) (hml.trans hl.1.symm) (by rw [hb]; exact (xb_d D_Checker_checkMemory 71 rfl)) (Nat.le_of_ble_eq_true rfl) (Nat.le_of_ble_eq_true rfl) (Nat.le_of_ble_eq_true rfl) (show (k + kk3) + bc3 ≤ MC by omega) (show (n + nn3) + bs3 ≤ MS by omega) (xt_w1 hB.1 m_b71cce2b) (xt_cdOf hB.1 m_b71cce2b) (hts _ m_44748ce5) hB hR hS hA (fun vv h6 bc7 bs7 kk7 nn7 H locs hk7 hn7 hq hEh6 hR hS => ?_) (fun XX ax h6 bc7 bs7 kk7 nn7 H locs hk7 hn7 hq hEh6 hex hR hS => ?_)
      · obtain ⟨r7, rfl, hw⟩ := hq
        have hw := hw hEh6
        have hE := hE.tr hEh6
        refine W.eq (g2 := F0 m 130 ls [.int r7]) rfl ?_
        refine lv_pop hx hb (xb_d D_Checker_checkMemory 72 rfl) rfl ?_
        refine lv_aload_n hx hb (xb_d D_Checker_checkMemory 73 rfl) rfl (lv_at hl 0 rfl) ?_
        obtain ⟨tt8, hZtt8, hTtt8⟩ := hB.2.2.1
        refine va_getsN hx hb hZtt8 hS hown (hts _ m_d6f6646f) (fun _ h9 => h9) (xb_d D_Checker_checkMemory 74 rfl) ?_
        refine lv_iload_n hx hb (xb_d D_Checker_checkMemory 75 rfl) rfl (lv_at hl 2 rfl) ?_
        obtain ⟨hi9, hw⟩ := hw
        refine va_ti (v := .int (xb_cMT.getD (Int32.toNatClampNeg x2) 0)) hx hb hTtt8 hS hi9 rfl (xb_d D_Checker_checkMemory 76 rfl) ?_
        have hk5 : xb_k h6 x0 = 5 := hEh6.k hk5
        refine xb_call0 (D := D) (A := A) (σ := σ) (h := h6) (d := 2) (maxL := 2) (rest := []) (av := [.ref x0, .int (xb_cMT.getD (Int32.toNatClampNeg x2) 0)]) (fun T hT X => by obtain ⟨cb9, ra9, rb9, rc9⟩ := xb_recv (ci := 4) hR rfl hk5 (by decide); exact xt_invV X hx hown (hts _ m_761ff7fc) (hts _ m_e867be1e) (hts _ m_098fc344) (xt_sigOf (hts _ m_43ff17c7)) nm_Checker_put (by rw [hT]; exact ra9) rb9 rc9 (g := F0 m 137 ls [.int (xb_cMT.getD (Int32.toNatClampNeg x2) 0), .ref x0]) rfl (argsL := [.int (xb_cMT.getD (Int32.toNatClampNeg x2) 0)]) (rest := []) rfl rfl (by rw [hb]; exact (xb_d D_Checker_checkMemory 77 rfl))) (ok_Checker_put l hfl D A σ x0 (xb_cMT.getD (Int32.toNatClampNeg x2) 0) h6 _ hw) (hml.trans hl.1.symm) (by rw [hb]; exact (xb_d D_Checker_checkMemory 77 rfl)) (Nat.le_of_ble_eq_true rfl) (Nat.le_of_ble_eq_true rfl) (Nat.le_of_ble_eq_true rfl) (show ((k + kk3) + kk7) ≤ MC by omega) (show ((n + nn3) + nn7) ≤ MS by omega) (xt_w1 hB.1 m_43ff17c7) (xt_cdOf hB.1 m_43ff17c7) (hts _ m_44748ce5) hB hR hS hA (fun vv h10 H locs hq hEh10 hR hS => ?_)
        obtain ⟨rfl, hw⟩ := hq
        have hw := hw hEh10
        have hE := hE.tr hEh10
        refine W.eq (g2 := F0 m 140 ls []) rfl ?_
        exact am_Checker_checkMemory_L140 l hfl D A σ MC MS h0 Qr Qt h10 bc7 bs7 hw p e s m args below meth c hC H locs ls ((k + kk3) + kk7) ((n + nn3) + nn7) hE (lv_sub hl [] rfl) hR hS (by omega) (by omega)
      · exact xb_pass hlocks (fun x hx9 => by rw [htab] at hx9; first | (cases hx9; done) | (simp [tableOf] at hx9; subst hx9; decide) | (simp [tableOf] at hx9; rcases hx9 with rfl | rfl <;> decide) | (simp [tableOf] at hx9; rcases hx9 with rfl | rfl | rfl <;> decide)) (show ((k + kk3) + kk7) + bc7 ≤ MC by omega) (show ((n + nn3) + nn7) + bs7 ≤ MS by omega) (hE.tr hEh6) hR hS hex hq
    · have hw := hw.2 hc4
      refine lv_aload_n hx hb (xb_d D_Checker_checkMemory 58 rfl) rfl (lv_at hl 0 rfl) ?_
      obtain ⟨tt12, hZtt12, hTtt12⟩ := hB.2.2.1
      refine va_getsN hx hb hZtt12 hS hown (hts _ m_d6f6646f) (fun _ h9 => h9) (xb_d D_Checker_checkMemory 59 rfl) ?_
      refine lv_iload_n hx hb (xb_d D_Checker_checkMemory 60 rfl) rfl (lv_at hl 2 rfl) ?_
      obtain ⟨hi13, hw⟩ := hw
      refine va_ti (v := .int (xb_cMT.getD (Int32.toNatClampNeg x2) 0)) hx hb hTtt12 hS hi13 rfl (xb_d D_Checker_checkMemory 61 rfl) ?_
      obtain ⟨hk14, hw⟩ := hw
      refine xb_call (D := D) (A := A) (σ := σ) (h := h2) (d := 3) (mc := bc3) (ms := bs3) (maxL := 3) (rest := []) (av := [.ref x0, .int (xb_cMT.getD (Int32.toNatClampNeg x2) 0)]) (fun T hT X => by obtain ⟨cb9, ra9, rb9, rc9⟩ := xb_recv (ci := 4) hR rfl hk14 (by decide); exact xt_invV X hx hown (hts _ m_0b33e20f) (hts _ m_338dda25) (hts _ m_d7dc08f9) (xt_sigOf (hts _ m_b71cce2b)) nm_Checker_take (by rw [hT]; exact ra9) rb9 rc9 (g := F0 m 110 ls [.int (xb_cMT.getD (Int32.toNatClampNeg x2) 0), .ref x0]) rfl (argsL := [.int (xb_cMT.getD (Int32.toNatClampNeg x2) 0)]) (rest := []) rfl rfl (by rw [hb]; exact (xb_d D_Checker_checkMemory 62 rfl))) (ok_Checker_take l hfl D A σ x0 (xb_cMT.getD (Int32.toNatClampNeg x2) 0) h2 bc3 bs3 _ _ hw) (hml.trans hl.1.symm) (by rw [hb]; exact (xb_d D_Checker_checkMemory 62 rfl)) (Nat.le_of_ble_eq_true rfl) (Nat.le_of_ble_eq_true rfl) (Nat.le_of_ble_eq_true rfl) (show (k + kk3) + bc3 ≤ MC by omega) (show (n + nn3) + bs3 ≤ MS by omega) (xt_w1 hB.1 m_b71cce2b) (xt_cdOf hB.1 m_b71cce2b) (hts _ m_44748ce5) hB hR hS hA (fun vv h15 bc16 bs16 kk16 nn16 H locs hk16 hn16 hq hEh15 hR hS => ?_) (fun XX ax h15 bc16 bs16 kk16 nn16 H locs hk16 hn16 hq hEh15 hex hR hS => ?_)
      · obtain ⟨r16, rfl, hw⟩ := hq
        have hw := hw hEh15
        have hE := hE.tr hEh15
        refine W.eq (g2 := F0 m 113 ls [.int r16]) rfl ?_
        refine lv_pop hx hb (xb_d D_Checker_checkMemory 63 rfl) rfl ?_
        refine lv_aload_n hx hb (xb_d D_Checker_checkMemory 64 rfl) rfl (lv_at hl 0 rfl) ?_
        refine lv_bipush (v := 127) hx hb (xb_d D_Checker_checkMemory 65 rfl) (by decide) ?_
        have hk14 : xb_k h15 x0 = 5 := hEh15.k hk14
        refine xb_call (D := D) (A := A) (σ := σ) (h := h15) (d := 3) (mc := bc16) (ms := bs16) (maxL := 3) (rest := []) (av := [.ref x0, .int 127]) (fun T hT X => by obtain ⟨cb9, ra9, rb9, rc9⟩ := xb_recv (ci := 4) hR rfl hk14 (by decide); exact xt_invV X hx hown (hts _ m_0b33e20f) (hts _ m_338dda25) (hts _ m_d7dc08f9) (xt_sigOf (hts _ m_b71cce2b)) nm_Checker_take (by rw [hT]; exact ra9) rb9 rc9 (g := F0 m 117 ls [.int 127, .ref x0]) rfl (argsL := [.int 127]) (rest := []) rfl rfl (by rw [hb]; exact (xb_d D_Checker_checkMemory 66 rfl))) (ok_Checker_take l hfl D A σ x0 127 h15 bc16 bs16 _ _ hw) (hml.trans hl.1.symm) (by rw [hb]; exact (xb_d D_Checker_checkMemory 66 rfl)) (Nat.le_of_ble_eq_true rfl) (Nat.le_of_ble_eq_true rfl) (Nat.le_of_ble_eq_true rfl) (show ((k + kk3) + kk16) + bc16 ≤ MC by omega) (show ((n + nn3) + nn16) + bs16 ≤ MS by omega) (xt_w1 hB.1 m_b71cce2b) (xt_cdOf hB.1 m_b71cce2b) (hts _ m_44748ce5) hB hR hS hA (fun vv h17 bc18 bs18 kk18 nn18 H locs hk18 hn18 hq hEh17 hR hS => ?_) (fun XX ax h17 bc18 bs18 kk18 nn18 H locs hk18 hn18 hq hEh17 hex hR hS => ?_)
        · obtain ⟨r18, rfl, hw⟩ := hq
          have hw := hw hEh17
          have hE := hE.tr hEh17
          refine W.eq (g2 := F0 m 120 ls [.int r18]) rfl ?_
          refine lv_pop hx hb (xb_d D_Checker_checkMemory 67 rfl) rfl ?_
          refine lv_goto (tgt := 140) hx hb (xb_d D_Checker_checkMemory 68 rfl) rfl ?_
          exact am_Checker_checkMemory_L140 l hfl D A σ MC MS h0 Qr Qt h17 bc18 bs18 hw p e s m args below meth c hC H locs ls (((k + kk3) + kk16) + kk18) (((n + nn3) + nn16) + nn18) hE (lv_sub hl [] rfl) hR hS (by omega) (by omega)
        · exact xb_pass hlocks (fun x hx9 => by rw [htab] at hx9; first | (cases hx9; done) | (simp [tableOf] at hx9; subst hx9; decide) | (simp [tableOf] at hx9; rcases hx9 with rfl | rfl <;> decide) | (simp [tableOf] at hx9; rcases hx9 with rfl | rfl | rfl <;> decide)) (show (((k + kk3) + kk16) + kk18) + bc18 ≤ MC by omega) (show (((n + nn3) + nn16) + nn18) + bs18 ≤ MS by omega) (hE.tr hEh17) hR hS hex hq
      · exact xb_pass hlocks (fun x hx9 => by rw [htab] at hx9; first | (cases hx9; done) | (simp [tableOf] at hx9; subst hx9; decide) | (simp [tableOf] at hx9; rcases hx9 with rfl | rfl <;> decide) | (simp [tableOf] at hx9; rcases hx9 with rfl | rfl | rfl <;> decide)) (show ((k + kk3) + kk16) + bc16 ≤ MC by omega) (show ((n + nn3) + nn16) + bs16 ≤ MS by omega) (hE.tr hEh15) hR hS hex hq
  · exact xb_pass hlocks (fun x hx9 => by rw [htab] at hx9; first | (cases hx9; done) | (simp [tableOf] at hx9; subst hx9; decide) | (simp [tableOf] at hx9; rcases hx9 with rfl | rfl <;> decide) | (simp [tableOf] at hx9; rcases hx9 with rfl | rfl | rfl <;> decide)) (show (k + kk3) + bc3 ≤ MC by omega) (show (n + nn3) + bs3 ≤ MS by omega) (hE.tr hEh2) hR hS hex hq

set_option maxHeartbeats 4000000 in
set_option maxRecDepth 100000 in
theorem am_Checker_checkMemory_L92 (l : Launch) (hfl : l.flags = pinnedFlags ++ [noTraceFlag]) (D : va_G) (A : Nat → Prop) (σ MC MS : Nat) (h0 : xb_H) (Qr : xb_H → Nat → Nat → Prop) (Qt : String → xb_H → Nat → Nat → Prop) (x0 : Nat) (x1 : Int32) (x2 : Int32) (y0 : Nat) (h : xb_H) (bc : Nat) (bs : Nat) (hw : w_Checker_checkMemory_L92 Qr Qt x0 x1 x2 y0 h bc bs) : xb_am l D A σ 4 MC MS h0 (fun v h bc bs => v = none ∧ Qr h bc bs) Qt y_Checker_checkMemory.cls y_Checker_checkMemory.name b_Checker_checkMemory 4 ([] : List ExceptionTableEntry) none 92 [(0, .ref x0), (1, .int x1), (2, .int x2)] [.ref y0] h bc bs := by
  unfold w_Checker_checkMemory_L92 at hw
  intro p e s m args below meth c hC H locs ls k n hE hl hR hS hk hn
  obtain ⟨hx, hb, hown, hlocks, htab, hml, hr, hB, hA, hnm⟩ := id hC
  have hts := hB.1.1.at args
  refine lv_iconst (v := 0) hx hb (xb_d D_Checker_checkMemory 52 rfl) (by decide) ?_
  exact am_Checker_checkMemory_L93 l hfl D A σ MC MS h0 Qr Qt x0 x1 x2 0 y0 h bc bs hw p e s m args below meth c hC H locs ls k n hE (lv_sub hl [0, 1, 2] rfl) hR hS (by omega) (by omega)

set_option maxHeartbeats 4000000 in
set_option maxRecDepth 100000 in
theorem am_Checker_checkMemory_L43 (l : Launch) (hfl : l.flags = pinnedFlags ++ [noTraceFlag]) (D : va_G) (A : Nat → Prop) (σ MC MS : Nat) (h0 : xb_H) (Qr : xb_H → Nat → Nat → Prop) (Qt : String → xb_H → Nat → Nat → Prop) (x0 : Nat) (h : xb_H) (bc : Nat) (bs : Nat) (hw : w_Checker_checkMemory_L43 Qr Qt x0 h bc bs) : xb_am l D A σ 4 MC MS h0 (fun v h bc bs => v = none ∧ Qr h bc bs) Qt y_Checker_checkMemory.cls y_Checker_checkMemory.name b_Checker_checkMemory 4 ([] : List ExceptionTableEntry) none 43 [(0, .ref x0)] [] h bc bs := by
  unfold w_Checker_checkMemory_L43 at hw
  intro p e s m args below meth c hC H locs ls k n hE hl hR hS hk hn
  obtain ⟨hx, hb, hown, hlocks, htab, hml, hr, hB, hA, hnm⟩ := id hC
  have hts := hB.1.1.at args
  refine lv_aload_n hx hb (xb_d D_Checker_checkMemory 21 rfl) rfl (lv_at hl 0 rfl) ?_
  refine lv_bipush (v := 127) hx hb (xb_d D_Checker_checkMemory 22 rfl) (by decide) ?_
  obtain ⟨hk1, hw⟩ := hw
  refine xb_call0 (D := D) (A := A) (σ := σ) (h := h) (d := 2) (maxL := 2) (rest := []) (av := [.ref x0, .int 127]) (fun T hT X => by obtain ⟨cb9, ra9, rb9, rc9⟩ := xb_recv (ci := 4) hR rfl hk1 (by decide); exact xt_invV X hx hown (hts _ m_761ff7fc) (hts _ m_e867be1e) (hts _ m_098fc344) (xt_sigOf (hts _ m_43ff17c7)) nm_Checker_put (by rw [hT]; exact ra9) rb9 rc9 (g := F0 m 46 ls [.int 127, .ref x0]) rfl (argsL := [.int 127]) (rest := []) rfl rfl (by rw [hb]; exact (xb_d D_Checker_checkMemory 23 rfl))) (ok_Checker_put l hfl D A σ x0 127 h _ hw) (hml.trans hl.1.symm) (by rw [hb]; exact (xb_d D_Checker_checkMemory 23 rfl)) (Nat.le_of_ble_eq_true rfl) (Nat.le_of_ble_eq_true rfl) (Nat.le_of_ble_eq_true rfl) (show k ≤ MC by omega) (show n ≤ MS by omega) (xt_w1 hB.1 m_43ff17c7) (xt_cdOf hB.1 m_43ff17c7) (hts _ m_44748ce5) hB hR hS hA (fun vv h2 H locs hq hEh2 hR hS => ?_)
  obtain ⟨rfl, hw⟩ := hq
  have hw := hw hEh2
  have hE := hE.tr hEh2
  refine W.eq (g2 := F0 m 49 ls []) rfl ?_
  exact xb_vret bc bs hx hb hr hlocks (show k + bc ≤ MC by omega) (show n + bs ≤ MS by omega) hE hR hS (xb_d D_Checker_checkMemory 24 rfl) hw

set_option maxHeartbeats 4000000 in
set_option maxRecDepth 100000 in
theorem am_Checker_checkMemory_L19 (l : Launch) (hfl : l.flags = pinnedFlags ++ [noTraceFlag]) (D : va_G) (A : Nat → Prop) (σ MC MS : Nat) (h0 : xb_H) (Qr : xb_H → Nat → Nat → Prop) (Qt : String → xb_H → Nat → Nat → Prop) (x0 : Nat) (x1 : Int32) (y0 : Int32) (y1 : Nat) (h : xb_H) (bc : Nat) (bs : Nat) (hw : w_Checker_checkMemory_L19 Qr Qt x0 x1 y0 y1 h bc bs) : xb_am l D A σ 4 MC MS h0 (fun v h bc bs => v = none ∧ Qr h bc bs) Qt y_Checker_checkMemory.cls y_Checker_checkMemory.name b_Checker_checkMemory 4 ([] : List ExceptionTableEntry) none 19 [(0, .ref x0), (1, .int x1)] [.int y0, .ref y1] h bc bs := by
  unfold w_Checker_checkMemory_L19 at hw
  intro p e s m args below meth c hC H locs ls k n hE hl hR hS hk hn
  obtain ⟨hx, hb, hown, hlocks, htab, hml, hr, hB, hA, hnm⟩ := id hC
  have hts := hB.1.1.at args
  refine lv_bipush (v := 20) hx hb (xb_d D_Checker_checkMemory 9 rfl) (by decide) ?_
  obtain ⟨hk1, hw⟩ := hw
  refine xb_call (D := D) (A := A) (σ := σ) (h := h) (d := 3) (mc := bc) (ms := bs) (maxL := 3) (rest := []) (av := [.ref y1, .int y0, .int 20]) (fun T hT X => by obtain ⟨cb9, ra9, rb9, rc9⟩ := xb_recv (ci := 4) hR rfl hk1 (by decide); exact xt_invV X hx hown (hts _ m_0a242445) (hts _ m_a99c45f7) (hts _ m_978d7491) (xt_sigOf (hts _ m_01f2fc97)) nm_Checker_require (by rw [hT]; exact ra9) rb9 rc9 (g := F0 m 21 ls [.int 20, .int y0, .ref y1]) rfl (argsL := [.int y0, .int 20]) (rest := []) rfl rfl (by rw [hb]; exact (xb_d D_Checker_checkMemory 10 rfl))) (ok_Checker_require l hfl D A σ y1 y0 20 h bc bs _ _ hw) (hml.trans hl.1.symm) (by rw [hb]; exact (xb_d D_Checker_checkMemory 10 rfl)) (Nat.le_of_ble_eq_true rfl) (Nat.le_of_ble_eq_true rfl) (Nat.le_of_ble_eq_true rfl) (show k + bc ≤ MC by omega) (show n + bs ≤ MS by omega) (xt_w1 hB.1 m_01f2fc97) (xt_cdOf hB.1 m_01f2fc97) (hts _ m_44748ce5) hB hR hS hA (fun vv h2 bc3 bs3 kk3 nn3 H locs hk3 hn3 hq hEh2 hR hS => ?_) (fun XX ax h2 bc3 bs3 kk3 nn3 H locs hk3 hn3 hq hEh2 hex hR hS => ?_)
  · obtain ⟨rfl, hw⟩ := hq
    have hw := hw hEh2
    have hE := hE.tr hEh2
    refine W.eq (g2 := F0 m 24 ls []) rfl ?_
    refine lv_iload_n hx hb (xb_d D_Checker_checkMemory 11 rfl) rfl (lv_at hl 1 rfl) ?_
    refine lv_bipush (v := 63) hx hb (xb_d D_Checker_checkMemory 12 rfl) (by decide) ?_
    refine lv_icmp_lt (tgt := 50) hx hb (xb_d D_Checker_checkMemory 13 rfl) rfl (fun hc4 => ?_) (fun hc4 => ?_)
    · have hw := hw.1 hc4
      refine lv_iload_n hx hb (xb_d D_Checker_checkMemory 25 rfl) rfl (lv_at hl 1 rfl) ?_
      refine lv_bipush (v := 40) hx hb (xb_d D_Checker_checkMemory 26 rfl) (by decide) ?_
      refine lv_isub hx hb (xb_d D_Checker_checkMemory 27 rfl) ?_
      obtain ⟨v5, ev5⟩ : ∃ x : Int32, x = (x1 - 40) := ⟨_, rfl⟩
      have hw := hw v5 ev5
      refine xt_numi (y := v5) ev5.symm ?_
      refine lv_istore_n hx hb (xb_d D_Checker_checkMemory 28 rfl) rfl hl (by decide) rfl (fun ls hl => ?_)
      have hl : lv_has ls 4 [(2, .int v5), (0, .ref x0), (1, .int x1)] := hl
      refine lv_aload_n hx hb (xb_d D_Checker_checkMemory 29 rfl) rfl (lv_at hl 1 rfl) ?_
      obtain ⟨hk6, hw⟩ := hw
      refine xb_getP (C := R_Checker) (T := F_Checker) (N := 17) hx hb 4 2 hts fin_Checker hown hR hk6 (by decide) rfl (by decide) rfl (hts _ m_b5ef1148) (fun _ h9 => h9) (xb_d D_Checker_checkMemory 30 rfl) ?_
      obtain ⟨b7, eb7, hw⟩ := hw
      refine xb_some eb7 ?_
      refine lv_aload_n hx hb (xb_d D_Checker_checkMemory 31 rfl) rfl (lv_at hl 1 rfl) ?_
      refine xb_getI (C := R_Checker) (T := F_Checker) (N := 17) hx hb 4 9 hts fin_Checker hown hR hk6 (by decide) rfl (by decide) rfl (hts _ m_28193d38) (fun _ h9 => h9) (xb_d D_Checker_checkMemory 32 rfl) ?_
      refine lv_iconst (v := 1) hx hb (xb_d D_Checker_checkMemory 33 rfl) (by decide) ?_
      refine lv_iadd hx hb (xb_d D_Checker_checkMemory 34 rfl) ?_
      obtain ⟨hk9, hw⟩ := hw
      obtain ⟨hi8, hw⟩ := hw
      refine xb_iald hx hb hR hk9 hi8 (xb_d D_Checker_checkMemory 35 rfl) ?_
      obtain ⟨v10, ev10⟩ : ∃ x : Int32, x = (xb_i h2 b7 (Int32.toNatClampNeg ((xb_i h2 x0 9) + 1))) := ⟨_, rfl⟩
      have hw := hw v10 ev10
      refine xt_numi (y := v10) ev10.symm ?_
      refine lv_istore_n hx hb (xb_d D_Checker_checkMemory 36 rfl) rfl hl (by decide) rfl (fun ls hl => ?_)
      have hl : lv_has ls 4 [(3, .int v10), (2, .int v5), (0, .ref x0), (1, .int x1)] := hl
      refine lv_aload_n hx hb (xb_d D_Checker_checkMemory 37 rfl) rfl (lv_at hl 2 rfl) ?_
      refine lv_iload_n hx hb (xb_d D_Checker_checkMemory 38 rfl) rfl (lv_at hl 0 rfl) ?_
      refine lv_if_lt (tgt := 92) hx hb (xb_d D_Checker_checkMemory 39 rfl) rfl (fun hc11 => ?_) (fun hc11 => ?_)
      · have hw := hw.1 hc11
        exact am_Checker_checkMemory_L92 l hfl D A σ MC MS h0 Qr Qt x0 x1 v5 x0 h2 bc3 bs3 hw p e s m args below meth c hC H locs ls (k + kk3) (n + nn3) hE (lv_sub hl [2, 3, 1] rfl) hR hS (by omega) (by omega)
      · have hw := hw.2 hc11
        refine lv_iload_n hx hb (xb_d D_Checker_checkMemory 40 rfl) rfl (lv_at hl 0 rfl) ?_
        refine lv_iconst (v := 3) hx hb (xb_d D_Checker_checkMemory 41 rfl) (by decide) ?_
        refine lv_icmp_gt (tgt := 92) hx hb (xb_d D_Checker_checkMemory 42 rfl) rfl (fun hc12 => ?_) (fun hc12 => ?_)
        · have hw := hw.1 hc12
          exact am_Checker_checkMemory_L92 l hfl D A σ MC MS h0 Qr Qt x0 x1 v5 x0 h2 bc3 bs3 hw p e s m args below meth c hC H locs ls (k + kk3) (n + nn3) hE (lv_sub hl [2, 3, 1] rfl) hR hS (by omega) (by omega)
        · have hw := hw.2 hc12
          refine lv_iconst (v := 1) hx hb (xb_d D_Checker_checkMemory 43 rfl) (by decide) ?_
          refine lv_iload_n hx hb (xb_d D_Checker_checkMemory 44 rfl) rfl (lv_at hl 0 rfl) ?_
          refine lv_ishl hx hb (xb_d D_Checker_checkMemory 45 rfl) ?_
          obtain ⟨tt13, hZtt13, hTtt13⟩ := hB.2.2.2.1
          refine va_getsN hx hb hZtt13 hS hown (hts _ m_478d3f58) (fun _ h9 => h9) (xb_d D_Checker_checkMemory 46 rfl) ?_
          refine lv_iload_n hx hb (xb_d D_Checker_checkMemory 47 rfl) rfl (lv_at hl 1 rfl) ?_
          obtain ⟨hi14, hw⟩ := hw
          refine va_ti (v := .int (xb_cMB.getD (Int32.toNatClampNeg v5) 0)) hx hb hTtt13 hS hi14 rfl (xb_d D_Checker_checkMemory 48 rfl) ?_
          refine lv_icmp_gt (tgt := 92) hx hb (xb_d D_Checker_checkMemory 49 rfl) rfl (fun hc15 => ?_) (fun hc15 => ?_)
          · have hw := hw.1 hc15
            exact am_Checker_checkMemory_L92 l hfl D A σ MC MS h0 Qr Qt x0 x1 v5 x0 h2 bc3 bs3 hw p e s m args below meth c hC H locs ls (k + kk3) (n + nn3) hE (lv_sub hl [2, 3, 1] rfl) hR hS (by omega) (by omega)
          · have hw := hw.2 hc15
            refine lv_iconst (v := 1) hx hb (xb_d D_Checker_checkMemory 50 rfl) (by decide) ?_
            refine lv_goto (tgt := 93) hx hb (xb_d D_Checker_checkMemory 51 rfl) rfl ?_
            exact am_Checker_checkMemory_L93 l hfl D A σ MC MS h0 Qr Qt x0 x1 v5 1 x0 h2 bc3 bs3 hw p e s m args below meth c hC H locs ls (k + kk3) (n + nn3) hE (lv_sub hl [2, 3, 1] rfl) hR hS (by omega) (by omega)
    · have hw := hw.2 hc4
      refine lv_iload_n hx hb (xb_d D_Checker_checkMemory 14 rfl) rfl (lv_at hl 1 rfl) ?_
      refine lv_bipush (v := 63) hx hb (xb_d D_Checker_checkMemory 15 rfl) (by decide) ?_
      refine lv_icmp_le (tgt := 43) hx hb (xb_d D_Checker_checkMemory 16 rfl) rfl (fun hc16 => ?_) (fun hc16 => ?_)
      · have hw := hw.1 hc16
        exact am_Checker_checkMemory_L43 l hfl D A σ MC MS h0 Qr Qt x0 h2 bc3 bs3 hw p e s m args below meth c hC H locs ls (k + kk3) (n + nn3) hE (lv_sub hl [0] rfl) hR hS (by omega) (by omega)
      · have hw := hw.2 hc16
        refine lv_aload_n hx hb (xb_d D_Checker_checkMemory 17 rfl) rfl (lv_at hl 0 rfl) ?_
        refine lv_bipush (v := 127) hx hb (xb_d D_Checker_checkMemory 18 rfl) (by decide) ?_
        obtain ⟨hk17, hw⟩ := hw
        refine xb_call (D := D) (A := A) (σ := σ) (h := h2) (d := 3) (mc := bc3) (ms := bs3) (maxL := 3) (rest := []) (av := [.ref x0, .int 127]) (fun T hT X => by obtain ⟨cb9, ra9, rb9, rc9⟩ := xb_recv (ci := 4) hR rfl hk17 (by decide); exact xt_invV X hx hown (hts _ m_0b33e20f) (hts _ m_338dda25) (hts _ m_d7dc08f9) (xt_sigOf (hts _ m_b71cce2b)) nm_Checker_take (by rw [hT]; exact ra9) rb9 rc9 (g := F0 m 39 ls [.int 127, .ref x0]) rfl (argsL := [.int 127]) (rest := []) rfl rfl (by rw [hb]; exact (xb_d D_Checker_checkMemory 19 rfl))) (ok_Checker_take l hfl D A σ x0 127 h2 bc3 bs3 _ _ hw) (hml.trans hl.1.symm) (by rw [hb]; exact (xb_d D_Checker_checkMemory 19 rfl)) (Nat.le_of_ble_eq_true rfl) (Nat.le_of_ble_eq_true rfl) (Nat.le_of_ble_eq_true rfl) (show (k + kk3) + bc3 ≤ MC by omega) (show (n + nn3) + bs3 ≤ MS by omega) (xt_w1 hB.1 m_b71cce2b) (xt_cdOf hB.1 m_b71cce2b) (hts _ m_44748ce5) hB hR hS hA (fun vv h18 bc19 bs19 kk19 nn19 H locs hk19 hn19 hq hEh18 hR hS => ?_) (fun XX ax h18 bc19 bs19 kk19 nn19 H locs hk19 hn19 hq hEh18 hex hR hS => ?_)
        · obtain ⟨r19, rfl, hw⟩ := hq
          have hw := hw hEh18
          have hE := hE.tr hEh18
          refine W.eq (g2 := F0 m 42 ls [.int r19]) rfl ?_
          refine lv_pop hx hb (xb_d D_Checker_checkMemory 20 rfl) rfl ?_
          exact am_Checker_checkMemory_L43 l hfl D A σ MC MS h0 Qr Qt x0 h18 bc19 bs19 hw p e s m args below meth c hC H locs ls ((k + kk3) + kk19) ((n + nn3) + nn19) hE (lv_sub hl [0] rfl) hR hS (by omega) (by omega)
        · exact xb_pass hlocks (fun x hx9 => by rw [htab] at hx9; first | (cases hx9; done) | (simp [tableOf] at hx9; subst hx9; decide) | (simp [tableOf] at hx9; rcases hx9 with rfl | rfl <;> decide) | (simp [tableOf] at hx9; rcases hx9 with rfl | rfl | rfl <;> decide)) (show ((k + kk3) + kk19) + bc19 ≤ MC by omega) (show ((n + nn3) + nn19) + bs19 ≤ MS by omega) (hE.tr hEh18) hR hS hex hq
  · exact xb_pass hlocks (fun x hx9 => by rw [htab] at hx9; first | (cases hx9; done) | (simp [tableOf] at hx9; subst hx9; decide) | (simp [tableOf] at hx9; rcases hx9 with rfl | rfl <;> decide) | (simp [tableOf] at hx9; rcases hx9 with rfl | rfl | rfl <;> decide)) (show (k + kk3) + bc3 ≤ MC by omega) (show (n + nn3) + bs3 ≤ MS by omega) (hE.tr hEh2) hR hS hex hq

set_option maxHeartbeats 4000000 in
set_option maxRecDepth 100000 in
theorem ok_Checker_checkMemory (l : Launch) (hfl : l.flags = pinnedFlags ++ [noTraceFlag]) (D : va_G) (A : Nat → Prop) (σ : Nat) (x0 : Nat) (x1 : Int32) (h : xb_H) (bc : Nat) (bs : Nat) (Qr : xb_H → Nat → Nat → Prop) (Qt : String → xb_H → Nat → Nat → Prop) (hw : w_Checker_checkMemory x0 x1 h bc bs Qr Qt) : xb_Met l y_Checker_checkMemory [.code y_Checker_checkMemory b_Checker_checkMemory 4 none] (xb_rm 4 bc bs) (xb_Pc D A σ h [.ref x0, .int x1]) (xb_Qc D A h bc bs (fun v h bc bs => v = none ∧ Qr h bc bs) Qt) A := by
  refine xb_ofAm (cc := b_Checker_checkMemory) (by decide) (Nat.le_of_ble_eq_true rfl) ?_
  unfold w_Checker_checkMemory at hw
  show xb_am l D A σ 4 bc bs h (fun v h bc bs => v = none ∧ Qr h bc bs) Qt y_Checker_checkMemory.cls y_Checker_checkMemory.name b_Checker_checkMemory 4 ([] : List ExceptionTableEntry) none 0 [(0, .ref x0), (1, .int x1)] [] h bc bs
  obtain ⟨MC, hMC⟩ : ∃ x, x = bc := ⟨_, rfl⟩
  obtain ⟨MS, hMS⟩ : ∃ x, x = bs := ⟨_, rfl⟩
  rw [show xb_am l D A σ 4 bc bs = xb_am l D A σ 4 MC MS by rw [hMC, hMS]]
  obtain ⟨h0, hh0⟩ : ∃ x, x = h := ⟨_, rfl⟩
  rw [show xb_am l D A σ 4 MC MS h = xb_am l D A σ 4 MC MS h0 by rw [hh0]]
  intro p e s m args below meth c hC H locs ls k n hE hl hR hS hk hn
  obtain ⟨hx, hb, hown, hlocks, htab, hml, hr, hB, hA, hnm⟩ := id hC
  have hts := hB.1.1.at args
  refine lv_aload_n hx hb (xb_d D_Checker_checkMemory 0 rfl) rfl (lv_at hl 0 rfl) ?_
  refine lv_aload_n hx hb (xb_d D_Checker_checkMemory 1 rfl) rfl (lv_at hl 0 rfl) ?_
  obtain ⟨hk1, hw⟩ := hw
  refine xb_getP (C := R_Checker) (T := F_Checker) (N := 17) hx hb 4 0 hts fin_Checker hown hR hk1 (by decide) rfl (by decide) rfl (hts _ m_070795bc) (fun _ h9 => h9) (xb_d D_Checker_checkMemory 2 rfl) ?_
  obtain ⟨b2, eb2, hw⟩ := hw
  refine xb_some eb2 ?_
  obtain ⟨hk3, hw⟩ := hw
  refine xb_getP (C := R_StackModule) (T := F_StackModule) (N := 19) hx hb 2 6 hts fin_StackModule hown hR hk3 (by decide) rfl (by decide) rfl (hts _ m_f104cb1a) (fun _ h9 => h9) (xb_d D_Checker_checkMemory 3 rfl) ?_
  obtain ⟨b4, eb4, hw⟩ := hw
  refine xb_some eb4 ?_
  obtain ⟨hk5, hw⟩ := hw
  refine xb_call0 (D := D) (A := A) (σ := σ) (h := h) (d := 2) (maxL := 1) (rest := [.ref x0]) (av := [.ref b4]) (fun T hT X => by obtain ⟨cb9, ra9, rb9, rc9⟩ := xb_recv (ci := 1) hR rfl hk5 (by decide); exact xt_invV X hx hown (hts _ m_c8b950b4) (hts _ m_ded65609) (hts _ m_a4161156) (xt_sigOf (hts _ m_83ba3721)) nm_Row_lines (by rw [hT]; exact ra9) rb9 rc9 (g := F0 m 8 ls [.ref b4, .ref x0]) rfl (argsL := []) (rest := [.ref x0]) rfl rfl (by rw [hb]; exact (xb_d D_Checker_checkMemory 4 rfl))) (ok_Row_lines l hfl D A σ b4 h _ hw) (hml.trans hl.1.symm) (by rw [hb]; exact (xb_d D_Checker_checkMemory 4 rfl)) (Nat.le_of_ble_eq_true rfl) (Nat.le_of_ble_eq_true rfl) (Nat.le_of_ble_eq_true rfl) (show k ≤ MC by omega) (show n ≤ MS by omega) (xt_w1 hB.1 m_83ba3721) (xt_cdOf hB.1 m_83ba3721) (hts _ m_c1bef504) hB hR hS hA (fun vv h6 H locs hq hEh6 hR hS => ?_)
  obtain ⟨r7, rfl, hw⟩ := hq
  have hw := hw hEh6
  have hE := hE.tr hEh6
  refine W.eq (g2 := F0 m 11 ls [.int r7, .ref x0]) rfl ?_
  refine lv_if_le (tgt := 18) hx hb (xb_d D_Checker_checkMemory 5 rfl) rfl (fun hc8 => ?_) (fun hc8 => ?_)
  · have hw := hw.1 hc8
    refine lv_iconst (v := 0) hx hb (xb_d D_Checker_checkMemory 8 rfl) (by decide) ?_
    exact am_Checker_checkMemory_L19 l hfl D A σ MC MS h0 Qr Qt x0 x1 0 x0 h6 bc bs hw p e s m args below meth c hC H locs ls k n hE (lv_sub hl [0, 1] rfl) hR hS (by omega) (by omega)
  · have hw := hw.2 hc8
    refine lv_iconst (v := 1) hx hb (xb_d D_Checker_checkMemory 6 rfl) (by decide) ?_
    refine lv_goto (tgt := 19) hx hb (xb_d D_Checker_checkMemory 7 rfl) rfl ?_
    exact am_Checker_checkMemory_L19 l hfl D A σ MC MS h0 Qr Qt x0 x1 1 x0 h6 bc bs hw p e s m args below meth c hC H locs ls k n hE (lv_sub hl [0, 1] rfl) hR hS (by omega) (by omega)

theorem m_f84c9de3 : (.fieldLink "StackHost$Checker" 181 "StackHost$Checker" "type" "I" : Cond) ∈ xt_tbl := xt_in (xt_t1 (List.mem_of_getElem? (i := 85) (by decide +kernel))) (by decide +kernel)
theorem m_708ae6ef : (.fieldLink "StackHost$Checker" 216 "StackHost$Checker" "localCount" "I" : Cond) ∈ xt_tbl := xt_in (xt_t1 (List.mem_of_getElem? (i := 84) (by decide +kernel))) (by decide +kernel)
set_option maxRecDepth 100000 in
def T_Checker_checkNamed : List (Nat × Instr × Nat) := [(0, .aload_n 0, 1), (1, .getfield 51, 3), (4, .aload_n 0, 1), (5, .getfield 196, 3), (8, .iconst 1, 1), (9, .iadd, 1), (10, .iaload, 1), (11, .istore_n 2, 1), (12, .iload_n 1, 1), (13, .bipush 35, 2), (15, .if_icmp .ge 88, 3), (18, .aload_n 0, 1), (19, .getfield 38, 3), (22, .aload_n 0, 1), (23, .getfield 181, 3), (26, .invokevirtual 161, 3), (29, .istore_n 3, 1), (30, .aload_n 0, 1), (31, .iload_n 2, 1), (32, .i2l, 1), (33, .iload_n 3, 1), (34, .aload_n 0, 1), (35, .getfield 216, 3), (38, .iadd, 1), (39, .invokestatic 125, 3), (42, .bipush 20, 2), (44, .invokevirtual 254, 3), (47, .iload_n 2, 1), (48, .iload_n 3, 1), (49, .if_icmp .ge 18, 3), (52, .aload_n 0, 1), (53, .getfield 38, 3), (56, .aload_n 0, 1), (57, .getfield 181, 3), (60, .iload_n 2, 1), (61, .invokevirtual 264, 3), (64, .goto 11, 3), (67, .aload_n 0, 1), (68, .getfield 15, 3), (71, .iload_n 2, 1), (72, .iload_n 3, 1), (73, .isub, 1), (74, .baload, 1), (75, .istore 4, 2), (77, .iload_n 1, 1), (78, .bipush 32, 2), (80, .if_icmp .le 10, 3), (83, .aload_n 0, 1), (84, .iload 4, 2), (86, .invokevirtual 251, 3), (89, .pop, 1), (90, .iload_n 1, 1), (91, .bipush 33, 2), (93, .if_icmp .eq 9, 3), (96, .aload_n 0, 1), (97, .iload 4, 2), (99, .invokevirtual 236, 3), (102, .return_, 1), (103, .aload_n 0, 1), (104, .iload_n 2, 1), (105, .i2l, 1), (106, .aload_n 0, 1), (107, .getfield 38, 3), (110, .getfield 134, 3), (113, .invokevirtual 77, 3), (116, .invokestatic 125, 3), (119, .bipush 20, 2), (121, .invokevirtual 254, 3), (124, .aload_n 0, 1), (125, .getfield 38, 3), (128, .getfield 134, 3), (131, .iload_n 2, 1), (132, .iconst 1, 1), (133, .invokevirtual 90, 3), (136, .istore_n 3, 1), (137, .iload_n 1, 1), (138, .bipush 35, 2), (140, .if_icmp .ne 11, 3), (143, .aload_n 0, 1), (144, .iload_n 3, 1), (145, .invokevirtual 236, 3), (148, .goto 36, 3), (151, .aload_n 0, 1), (152, .aload_n 0, 1), (153, .getfield 38, 3), (156, .getfield 134, 3), (159, .iload_n 2, 1), (160, .iconst 2, 1), (161, .invokevirtual 90, 3), (164, .iconst 1, 1), (165, .if_icmp .ne 7, 3), (168, .iconst 1, 1), (169, .goto 4, 3), (172, .iconst 0, 1), (173, .bipush 23, 2), (175, .invokevirtual 254, 3), (178, .aload_n 0, 1), (179, .iload_n 3, 1), (180, .invokevirtual 251, 3), (183, .pop, 1), (184, .return_, 1)]
theorem D_Checker_checkNamed : ∀ q ∈ T_Checker_checkNamed, decode b_Checker_checkNamed q.1 = .ok (q.2.1, q.2.2) := by decide +kernel

set_option maxHeartbeats 4000000 in
set_option maxRecDepth 100000 in
theorem am_Checker_checkNamed_L184 (l : Launch) (hfl : l.flags = pinnedFlags ++ [noTraceFlag]) (D : va_G) (A : Nat → Prop) (σ MC MS : Nat) (h0 : xb_H) (Qr : xb_H → Nat → Nat → Prop) (Qt : String → xb_H → Nat → Nat → Prop) (h : xb_H) (bc : Nat) (bs : Nat) (hw : w_Checker_checkNamed_L184 Qr Qt h bc bs) : xb_am l D A σ 4 MC MS h0 (fun v h bc bs => v = none ∧ Qr h bc bs) Qt y_Checker_checkNamed.cls y_Checker_checkNamed.name b_Checker_checkNamed 5 ([] : List ExceptionTableEntry) none 184 [] [] h bc bs := by
  unfold w_Checker_checkNamed_L184 at hw
  intro p e s m args below meth c hC H locs ls k n hE hl hR hS hk hn
  obtain ⟨hx, hb, hown, hlocks, htab, hml, hr, hB, hA, hnm⟩ := id hC
  have hts := hB.1.1.at args
  exact xb_vret bc bs hx hb hr hlocks (show k + bc ≤ MC by omega) (show n + bs ≤ MS by omega) hE hR hS (xb_d D_Checker_checkNamed 100 rfl) hw

set_option maxHeartbeats 4000000 in
set_option maxRecDepth 100000 in
theorem am_Checker_checkNamed_L173 (l : Launch) (hfl : l.flags = pinnedFlags ++ [noTraceFlag]) (D : va_G) (A : Nat → Prop) (σ MC MS : Nat) (h0 : xb_H) (Qr : xb_H → Nat → Nat → Prop) (Qt : String → xb_H → Nat → Nat → Prop) (x0 : Nat) (x3 : Int32) (y0 : Int32) (y1 : Nat) (h : xb_H) (bc : Nat) (bs : Nat) (hw : w_Checker_checkNamed_L173 Qr Qt x0 x3 y0 y1 h bc bs) : xb_am l D A σ 4 MC MS h0 (fun v h bc bs => v = none ∧ Qr h bc bs) Qt y_Checker_checkNamed.cls y_Checker_checkNamed.name b_Checker_checkNamed 5 ([] : List ExceptionTableEntry) none 173 [(0, .ref x0), (3, .int x3)] [.int y0, .ref y1] h bc bs := by
  unfold w_Checker_checkNamed_L173 at hw
  intro p e s m args below meth c hC H locs ls k n hE hl hR hS hk hn
  obtain ⟨hx, hb, hown, hlocks, htab, hml, hr, hB, hA, hnm⟩ := id hC
  have hts := hB.1.1.at args
  refine lv_bipush (v := 23) hx hb (xb_d D_Checker_checkNamed 94 rfl) (by decide) ?_
  obtain ⟨hk1, hw⟩ := hw
  refine xb_call (D := D) (A := A) (σ := σ) (h := h) (d := 3) (mc := bc) (ms := bs) (maxL := 3) (rest := []) (av := [.ref y1, .int y0, .int 23]) (fun T hT X => by obtain ⟨cb9, ra9, rb9, rc9⟩ := xb_recv (ci := 4) hR rfl hk1 (by decide); exact xt_invV X hx hown (hts _ m_0a242445) (hts _ m_a99c45f7) (hts _ m_978d7491) (xt_sigOf (hts _ m_01f2fc97)) nm_Checker_require (by rw [hT]; exact ra9) rb9 rc9 (g := F0 m 175 ls [.int 23, .int y0, .ref y1]) rfl (argsL := [.int y0, .int 23]) (rest := []) rfl rfl (by rw [hb]; exact (xb_d D_Checker_checkNamed 95 rfl))) (ok_Checker_require l hfl D A σ y1 y0 23 h bc bs _ _ hw) (hml.trans hl.1.symm) (by rw [hb]; exact (xb_d D_Checker_checkNamed 95 rfl)) (Nat.le_of_ble_eq_true rfl) (Nat.le_of_ble_eq_true rfl) (Nat.le_of_ble_eq_true rfl) (show k + bc ≤ MC by omega) (show n + bs ≤ MS by omega) (xt_w1 hB.1 m_01f2fc97) (xt_cdOf hB.1 m_01f2fc97) (hts _ m_44748ce5) hB hR hS hA (fun vv h2 bc3 bs3 kk3 nn3 H locs hk3 hn3 hq hEh2 hR hS => ?_) (fun XX ax h2 bc3 bs3 kk3 nn3 H locs hk3 hn3 hq hEh2 hex hR hS => ?_)
  · obtain ⟨rfl, hw⟩ := hq
    have hw := hw hEh2
    have hE := hE.tr hEh2
    refine W.eq (g2 := F0 m 178 ls []) rfl ?_
    refine lv_aload_n hx hb (xb_d D_Checker_checkNamed 96 rfl) rfl (lv_at hl 0 rfl) ?_
    refine lv_iload_n hx hb (xb_d D_Checker_checkNamed 97 rfl) rfl (lv_at hl 1 rfl) ?_
    obtain ⟨hk4, hw⟩ := hw
    refine xb_call (D := D) (A := A) (σ := σ) (h := h2) (d := 3) (mc := bc3) (ms := bs3) (maxL := 3) (rest := []) (av := [.ref x0, .int x3]) (fun T hT X => by obtain ⟨cb9, ra9, rb9, rc9⟩ := xb_recv (ci := 4) hR rfl hk4 (by decide); exact xt_invV X hx hown (hts _ m_0b33e20f) (hts _ m_338dda25) (hts _ m_d7dc08f9) (xt_sigOf (hts _ m_b71cce2b)) nm_Checker_take (by rw [hT]; exact ra9) rb9 rc9 (g := F0 m 180 ls [.int x3, .ref x0]) rfl (argsL := [.int x3]) (rest := []) rfl rfl (by rw [hb]; exact (xb_d D_Checker_checkNamed 98 rfl))) (ok_Checker_take l hfl D A σ x0 x3 h2 bc3 bs3 _ _ hw) (hml.trans hl.1.symm) (by rw [hb]; exact (xb_d D_Checker_checkNamed 98 rfl)) (Nat.le_of_ble_eq_true rfl) (Nat.le_of_ble_eq_true rfl) (Nat.le_of_ble_eq_true rfl) (show (k + kk3) + bc3 ≤ MC by omega) (show (n + nn3) + bs3 ≤ MS by omega) (xt_w1 hB.1 m_b71cce2b) (xt_cdOf hB.1 m_b71cce2b) (hts _ m_44748ce5) hB hR hS hA (fun vv h5 bc6 bs6 kk6 nn6 H locs hk6 hn6 hq hEh5 hR hS => ?_) (fun XX ax h5 bc6 bs6 kk6 nn6 H locs hk6 hn6 hq hEh5 hex hR hS => ?_)
    · obtain ⟨r6, rfl, hw⟩ := hq
      have hw := hw hEh5
      have hE := hE.tr hEh5
      refine W.eq (g2 := F0 m 183 ls [.int r6]) rfl ?_
      refine lv_pop hx hb (xb_d D_Checker_checkNamed 99 rfl) rfl ?_
      exact am_Checker_checkNamed_L184 l hfl D A σ MC MS h0 Qr Qt h5 bc6 bs6 hw p e s m args below meth c hC H locs ls ((k + kk3) + kk6) ((n + nn3) + nn6) hE (lv_sub hl [] rfl) hR hS (by omega) (by omega)
    · exact xb_pass hlocks (fun x hx9 => by rw [htab] at hx9; first | (cases hx9; done) | (simp [tableOf] at hx9; subst hx9; decide) | (simp [tableOf] at hx9; rcases hx9 with rfl | rfl <;> decide) | (simp [tableOf] at hx9; rcases hx9 with rfl | rfl | rfl <;> decide)) (show ((k + kk3) + kk6) + bc6 ≤ MC by omega) (show ((n + nn3) + nn6) + bs6 ≤ MS by omega) (hE.tr hEh5) hR hS hex hq
  · exact xb_pass hlocks (fun x hx9 => by rw [htab] at hx9; first | (cases hx9; done) | (simp [tableOf] at hx9; subst hx9; decide) | (simp [tableOf] at hx9; rcases hx9 with rfl | rfl <;> decide) | (simp [tableOf] at hx9; rcases hx9 with rfl | rfl | rfl <;> decide)) (show (k + kk3) + bc3 ≤ MC by omega) (show (n + nn3) + bs3 ≤ MS by omega) (hE.tr hEh2) hR hS hex hq

set_option maxHeartbeats 4000000 in
set_option maxRecDepth 100000 in
theorem am_Checker_checkNamed_L102 (l : Launch) (hfl : l.flags = pinnedFlags ++ [noTraceFlag]) (D : va_G) (A : Nat → Prop) (σ MC MS : Nat) (h0 : xb_H) (Qr : xb_H → Nat → Nat → Prop) (Qt : String → xb_H → Nat → Nat → Prop) (h : xb_H) (bc : Nat) (bs : Nat) (hw : w_Checker_checkNamed_L102 Qr Qt h bc bs) : xb_am l D A σ 4 MC MS h0 (fun v h bc bs => v = none ∧ Qr h bc bs) Qt y_Checker_checkNamed.cls y_Checker_checkNamed.name b_Checker_checkNamed 5 ([] : List ExceptionTableEntry) none 102 [] [] h bc bs := by
  unfold w_Checker_checkNamed_L102 at hw
  intro p e s m args below meth c hC H locs ls k n hE hl hR hS hk hn
  obtain ⟨hx, hb, hown, hlocks, htab, hml, hr, hB, hA, hnm⟩ := id hC
  have hts := hB.1.1.at args
  exact xb_vret bc bs hx hb hr hlocks (show k + bc ≤ MC by omega) (show n + bs ≤ MS by omega) hE hR hS (xb_d D_Checker_checkNamed 57 rfl) hw

set_option maxHeartbeats 4000000 in
set_option maxRecDepth 100000 in
theorem am_Checker_checkNamed_L90 (l : Launch) (hfl : l.flags = pinnedFlags ++ [noTraceFlag]) (D : va_G) (A : Nat → Prop) (σ MC MS : Nat) (h0 : xb_H) (Qr : xb_H → Nat → Nat → Prop) (Qt : String → xb_H → Nat → Nat → Prop) (x0 : Nat) (x1 : Int32) (x4 : Int32) (h : xb_H) (bc : Nat) (bs : Nat) (hw : w_Checker_checkNamed_L90 Qr Qt x0 x1 x4 h bc bs) : xb_am l D A σ 4 MC MS h0 (fun v h bc bs => v = none ∧ Qr h bc bs) Qt y_Checker_checkNamed.cls y_Checker_checkNamed.name b_Checker_checkNamed 5 ([] : List ExceptionTableEntry) none 90 [(0, .ref x0), (1, .int x1), (4, .int x4)] [] h bc bs := by
  unfold w_Checker_checkNamed_L90 at hw
  intro p e s m args below meth c hC H locs ls k n hE hl hR hS hk hn
  obtain ⟨hx, hb, hown, hlocks, htab, hml, hr, hB, hA, hnm⟩ := id hC
  have hts := hB.1.1.at args
  refine lv_iload_n hx hb (xb_d D_Checker_checkNamed 51 rfl) rfl (lv_at hl 1 rfl) ?_
  refine lv_bipush (v := 33) hx hb (xb_d D_Checker_checkNamed 52 rfl) (by decide) ?_
  refine lv_icmp_eq (tgt := 102) hx hb (xb_d D_Checker_checkNamed 53 rfl) rfl (fun hc1 => ?_) (fun hc1 => ?_)
  · have hw := hw.1 hc1
    exact am_Checker_checkNamed_L102 l hfl D A σ MC MS h0 Qr Qt h bc bs hw p e s m args below meth c hC H locs ls k n hE (lv_sub hl [] rfl) hR hS (by omega) (by omega)
  · have hw := hw.2 hc1
    refine lv_aload_n hx hb (xb_d D_Checker_checkNamed 54 rfl) rfl (lv_at hl 0 rfl) ?_
    refine lv_iload hx hb (xb_d D_Checker_checkNamed 55 rfl) (lv_at hl 2 rfl) ?_
    obtain ⟨hk2, hw⟩ := hw
    refine xb_call0 (D := D) (A := A) (σ := σ) (h := h) (d := 2) (maxL := 2) (rest := []) (av := [.ref x0, .int x4]) (fun T hT X => by obtain ⟨cb9, ra9, rb9, rc9⟩ := xb_recv (ci := 4) hR rfl hk2 (by decide); exact xt_invV X hx hown (hts _ m_761ff7fc) (hts _ m_e867be1e) (hts _ m_098fc344) (xt_sigOf (hts _ m_43ff17c7)) nm_Checker_put (by rw [hT]; exact ra9) rb9 rc9 (g := F0 m 99 ls [.int x4, .ref x0]) rfl (argsL := [.int x4]) (rest := []) rfl rfl (by rw [hb]; exact (xb_d D_Checker_checkNamed 56 rfl))) (ok_Checker_put l hfl D A σ x0 x4 h _ hw) (hml.trans hl.1.symm) (by rw [hb]; exact (xb_d D_Checker_checkNamed 56 rfl)) (Nat.le_of_ble_eq_true rfl) (Nat.le_of_ble_eq_true rfl) (Nat.le_of_ble_eq_true rfl) (show k ≤ MC by omega) (show n ≤ MS by omega) (xt_w1 hB.1 m_43ff17c7) (xt_cdOf hB.1 m_43ff17c7) (hts _ m_44748ce5) hB hR hS hA (fun vv h3 H locs hq hEh3 hR hS => ?_)
    obtain ⟨rfl, hw⟩ := hq
    have hw := hw hEh3
    have hE := hE.tr hEh3
    refine W.eq (g2 := F0 m 102 ls []) rfl ?_
    exact am_Checker_checkNamed_L102 l hfl D A σ MC MS h0 Qr Qt h3 bc bs hw p e s m args below meth c hC H locs ls k n hE (lv_sub hl [] rfl) hR hS (by omega) (by omega)

set_option maxHeartbeats 4000000 in
set_option maxRecDepth 100000 in
theorem am_Checker_checkNamed_L75 (l : Launch) (hfl : l.flags = pinnedFlags ++ [noTraceFlag]) (D : va_G) (A : Nat → Prop) (σ MC MS : Nat) (h0 : xb_H) (Qr : xb_H → Nat → Nat → Prop) (Qt : String → xb_H → Nat → Nat → Prop) (x0 : Nat) (x1 : Int32) (y0 : Int32) (h : xb_H) (bc : Nat) (bs : Nat) (hw : w_Checker_checkNamed_L75 Qr Qt x0 x1 y0 h bc bs) : xb_am l D A σ 4 MC MS h0 (fun v h bc bs => v = none ∧ Qr h bc bs) Qt y_Checker_checkNamed.cls y_Checker_checkNamed.name b_Checker_checkNamed 5 ([] : List ExceptionTableEntry) none 75 [(0, .ref x0), (1, .int x1)] [.int y0] h bc bs := by
  unfold w_Checker_checkNamed_L75 at hw
  intro p e s m args below meth c hC H locs ls k n hE hl hR hS hk hn
  obtain ⟨hx, hb, hown, hlocks, htab, hml, hr, hB, hA, hnm⟩ := id hC
  have hts := hB.1.1.at args
  refine lv_istore hx hb (xb_d D_Checker_checkNamed 43 rfl) hl (by decide) rfl (fun ls hl => ?_)
  have hl : lv_has ls 5 [(4, .int y0), (0, .ref x0), (1, .int x1)] := hl
  refine lv_iload_n hx hb (xb_d D_Checker_checkNamed 44 rfl) rfl (lv_at hl 2 rfl) ?_
  refine lv_bipush (v := 32) hx hb (xb_d D_Checker_checkNamed 45 rfl) (by decide) ?_
  refine lv_icmp_le (tgt := 90) hx hb (xb_d D_Checker_checkNamed 46 rfl) rfl (fun hc1 => ?_) (fun hc1 => ?_)
  · have hw := hw.1 hc1
    exact am_Checker_checkNamed_L90 l hfl D A σ MC MS h0 Qr Qt x0 x1 y0 h bc bs hw p e s m args below meth c hC H locs ls k n hE (lv_sub hl [1, 2, 0] rfl) hR hS (by omega) (by omega)
  · have hw := hw.2 hc1
    refine lv_aload_n hx hb (xb_d D_Checker_checkNamed 47 rfl) rfl (lv_at hl 1 rfl) ?_
    refine lv_iload hx hb (xb_d D_Checker_checkNamed 48 rfl) (lv_at hl 0 rfl) ?_
    obtain ⟨hk2, hw⟩ := hw
    refine xb_call (D := D) (A := A) (σ := σ) (h := h) (d := 3) (mc := bc) (ms := bs) (maxL := 3) (rest := []) (av := [.ref x0, .int y0]) (fun T hT X => by obtain ⟨cb9, ra9, rb9, rc9⟩ := xb_recv (ci := 4) hR rfl hk2 (by decide); exact xt_invV X hx hown (hts _ m_0b33e20f) (hts _ m_338dda25) (hts _ m_d7dc08f9) (xt_sigOf (hts _ m_b71cce2b)) nm_Checker_take (by rw [hT]; exact ra9) rb9 rc9 (g := F0 m 86 ls [.int y0, .ref x0]) rfl (argsL := [.int y0]) (rest := []) rfl rfl (by rw [hb]; exact (xb_d D_Checker_checkNamed 49 rfl))) (ok_Checker_take l hfl D A σ x0 y0 h bc bs _ _ hw) (hml.trans hl.1.symm) (by rw [hb]; exact (xb_d D_Checker_checkNamed 49 rfl)) (Nat.le_of_ble_eq_true rfl) (Nat.le_of_ble_eq_true rfl) (Nat.le_of_ble_eq_true rfl) (show k + bc ≤ MC by omega) (show n + bs ≤ MS by omega) (xt_w1 hB.1 m_b71cce2b) (xt_cdOf hB.1 m_b71cce2b) (hts _ m_44748ce5) hB hR hS hA (fun vv h3 bc4 bs4 kk4 nn4 H locs hk4 hn4 hq hEh3 hR hS => ?_) (fun XX ax h3 bc4 bs4 kk4 nn4 H locs hk4 hn4 hq hEh3 hex hR hS => ?_)
    · obtain ⟨r4, rfl, hw⟩ := hq
      have hw := hw hEh3
      have hE := hE.tr hEh3
      refine W.eq (g2 := F0 m 89 ls [.int r4]) rfl ?_
      refine lv_pop hx hb (xb_d D_Checker_checkNamed 50 rfl) rfl ?_
      exact am_Checker_checkNamed_L90 l hfl D A σ MC MS h0 Qr Qt x0 x1 y0 h3 bc4 bs4 hw p e s m args below meth c hC H locs ls (k + kk4) (n + nn4) hE (lv_sub hl [1, 2, 0] rfl) hR hS (by omega) (by omega)
    · exact xb_pass hlocks (fun x hx9 => by rw [htab] at hx9; first | (cases hx9; done) | (simp [tableOf] at hx9; subst hx9; decide) | (simp [tableOf] at hx9; rcases hx9 with rfl | rfl <;> decide) | (simp [tableOf] at hx9; rcases hx9 with rfl | rfl | rfl <;> decide)) (show (k + kk4) + bc4 ≤ MC by omega) (show (n + nn4) + bs4 ≤ MS by omega) (hE.tr hEh3) hR hS hex hq

set_option maxHeartbeats 4000000 in
set_option maxRecDepth 100000 in
theorem ok_Checker_checkNamed (l : Launch) (hfl : l.flags = pinnedFlags ++ [noTraceFlag]) (D : va_G) (A : Nat → Prop) (σ : Nat) (x0 : Nat) (x1 : Int32) (h : xb_H) (bc : Nat) (bs : Nat) (Qr : xb_H → Nat → Nat → Prop) (Qt : String → xb_H → Nat → Nat → Prop) (hw : w_Checker_checkNamed x0 x1 h bc bs Qr Qt) : xb_Met l y_Checker_checkNamed [.code y_Checker_checkNamed b_Checker_checkNamed 5 none] (xb_rm 4 bc bs) (xb_Pc D A σ h [.ref x0, .int x1]) (xb_Qc D A h bc bs (fun v h bc bs => v = none ∧ Qr h bc bs) Qt) A := by
  refine xb_ofAm (cc := b_Checker_checkNamed) (by decide) (Nat.le_of_ble_eq_true rfl) ?_
  unfold w_Checker_checkNamed at hw
  show xb_am l D A σ 4 bc bs h (fun v h bc bs => v = none ∧ Qr h bc bs) Qt y_Checker_checkNamed.cls y_Checker_checkNamed.name b_Checker_checkNamed 5 ([] : List ExceptionTableEntry) none 0 [(0, .ref x0), (1, .int x1)] [] h bc bs
  obtain ⟨MC, hMC⟩ : ∃ x, x = bc := ⟨_, rfl⟩
  obtain ⟨MS, hMS⟩ : ∃ x, x = bs := ⟨_, rfl⟩
  rw [show xb_am l D A σ 4 bc bs = xb_am l D A σ 4 MC MS by rw [hMC, hMS]]
  obtain ⟨h0, hh0⟩ : ∃ x, x = h := ⟨_, rfl⟩
  rw [show xb_am l D A σ 4 MC MS h = xb_am l D A σ 4 MC MS h0 by rw [hh0]]
  intro p e s m args below meth c hC H locs ls k n hE hl hR hS hk hn
  obtain ⟨hx, hb, hown, hlocks, htab, hml, hr, hB, hA, hnm⟩ := id hC
  have hts := hB.1.1.at args
  refine lv_aload_n hx hb (xb_d D_Checker_checkNamed 0 rfl) rfl (lv_at hl 0 rfl) ?_
  obtain ⟨hk1, hw⟩ := hw
  refine xb_getP (C := R_Checker) (T := F_Checker) (N := 17) hx hb 4 2 hts fin_Checker hown hR hk1 (by decide) rfl (by decide) rfl (hts _ m_b5ef1148) (fun _ h9 => h9) (xb_d D_Checker_checkNamed 1 rfl) ?_
  obtain ⟨b2, eb2, hw⟩ := hw
  refine xb_some eb2 ?_
  refine lv_aload_n hx hb (xb_d D_Checker_checkNamed 2 rfl) rfl (lv_at hl 0 rfl) ?_
  refine xb_getI (C := R_Checker) (T := F_Checker) (N := 17) hx hb 4 9 hts fin_Checker hown hR hk1 (by decide) rfl (by decide) rfl (hts _ m_28193d38) (fun _ h9 => h9) (xb_d D_Checker_checkNamed 3 rfl) ?_
  refine lv_iconst (v := 1) hx hb (xb_d D_Checker_checkNamed 4 rfl) (by decide) ?_
  refine lv_iadd hx hb (xb_d D_Checker_checkNamed 5 rfl) ?_
  obtain ⟨hk4, hw⟩ := hw
  obtain ⟨hi3, hw⟩ := hw
  refine xb_iald hx hb hR hk4 hi3 (xb_d D_Checker_checkNamed 6 rfl) ?_
  obtain ⟨v5, ev5⟩ : ∃ x : Int32, x = (xb_i h b2 (Int32.toNatClampNeg ((xb_i h x0 9) + 1))) := ⟨_, rfl⟩
  have hw := hw v5 ev5
  refine xt_numi (y := v5) ev5.symm ?_
  refine lv_istore_n hx hb (xb_d D_Checker_checkNamed 7 rfl) rfl hl (by decide) rfl (fun ls hl => ?_)
  have hl : lv_has ls 5 [(2, .int v5), (0, .ref x0), (1, .int x1)] := hl
  refine lv_iload_n hx hb (xb_d D_Checker_checkNamed 8 rfl) rfl (lv_at hl 2 rfl) ?_
  refine lv_bipush (v := 35) hx hb (xb_d D_Checker_checkNamed 9 rfl) (by decide) ?_
  refine lv_icmp_ge (tgt := 103) hx hb (xb_d D_Checker_checkNamed 10 rfl) rfl (fun hc6 => ?_) (fun hc6 => ?_)
  · have hw := hw.1 hc6
    refine lv_aload_n hx hb (xb_d D_Checker_checkNamed 58 rfl) rfl (lv_at hl 1 rfl) ?_
    refine lv_iload_n hx hb (xb_d D_Checker_checkNamed 59 rfl) rfl (lv_at hl 0 rfl) ?_
    refine lv_i2l hx hb (xb_d D_Checker_checkNamed 60 rfl) rfl ?_
    refine lv_aload_n hx hb (xb_d D_Checker_checkNamed 61 rfl) rfl (lv_at hl 1 rfl) ?_
    refine xb_getP (C := R_Checker) (T := F_Checker) (N := 17) hx hb 4 0 hts fin_Checker hown hR hk1 (by decide) rfl (by decide) rfl (hts _ m_070795bc) (fun _ h9 => h9) (xb_d D_Checker_checkNamed 62 rfl) ?_
    obtain ⟨b7, eb7, hw⟩ := hw
    refine xb_some eb7 ?_
    obtain ⟨hk8, hw⟩ := hw
    refine xb_getP (C := R_StackModule) (T := F_StackModule) (N := 19) hx hb 2 7 hts fin_StackModule hown hR hk8 (by decide) rfl (by decide) rfl (hts _ m_d3e8f814) (fun _ h9 => h9) (xb_d D_Checker_checkNamed 63 rfl) ?_
    obtain ⟨b9, eb9, hw⟩ := hw
    refine xb_some eb9 ?_
    obtain ⟨hk10, hw⟩ := hw
    refine xb_call0 (D := D) (A := A) (σ := σ) (h := h) (d := 2) (maxL := 1) (rest := [.long (Int32.toInt64 v5), .ref x0]) (av := [.ref b9]) (fun T hT X => by obtain ⟨cb9, ra9, rb9, rc9⟩ := xb_recv (ci := 1) hR rfl hk10 (by decide); exact xt_invV X hx hown (hts _ m_c8b950b4) (hts _ m_ded65609) (hts _ m_a4161156) (xt_sigOf (hts _ m_83ba3721)) nm_Row_lines (by rw [hT]; exact ra9) rb9 rc9 (g := F0 m 113 ls [.ref b9, .long (Int32.toInt64 v5), .ref x0]) rfl (argsL := []) (rest := [.long (Int32.toInt64 v5), .ref x0]) rfl rfl (by rw [hb]; exact (xb_d D_Checker_checkNamed 64 rfl))) (ok_Row_lines l hfl D A σ b9 h _ hw) (hml.trans hl.1.symm) (by rw [hb]; exact (xb_d D_Checker_checkNamed 64 rfl)) (Nat.le_of_ble_eq_true rfl) (Nat.le_of_ble_eq_true rfl) (Nat.le_of_ble_eq_true rfl) (show k ≤ MC by omega) (show n ≤ MS by omega) (xt_w1 hB.1 m_83ba3721) (xt_cdOf hB.1 m_83ba3721) (hts _ m_c1bef504) hB hR hS hA (fun vv h11 H locs hq hEh11 hR hS => ?_)
    obtain ⟨r12, rfl, hw⟩ := hq
    have hw := hw hEh11
    have hE := hE.tr hEh11
    refine W.eq (g2 := F0 m 116 ls [.int r12, .long (Int32.toInt64 v5), .ref x0]) rfl ?_
    refine xb_call0 (D := D) (A := A) (σ := σ) (h := h11) (d := 2) (maxL := 3) (rest := [.ref x0]) (av := [.long (Int32.toInt64 v5), .int r12]) (fun T hT X => xt_invS X hx hown (hts _ m_fe08b245) (hts _ m_9ad1e0af) (hts _ m_44748ce5) (xt_sgS (hts _ m_2237aee6)).1 (xt_sgS (hts _ m_2237aee6)).2 nm_Checker_isThere (g := F0 m 116 ls [.int r12, .long (Int32.toInt64 v5), .ref x0]) rfl (argsL := [.long (Int32.toInt64 v5), .int r12]) (rest := [.ref x0]) rfl rfl (by rw [hb]; exact (xb_d D_Checker_checkNamed 65 rfl))) (ok_Checker_isThere l hfl D A σ (Int32.toInt64 v5) r12 h11 _ hw) (hml.trans hl.1.symm) (by rw [hb]; exact (xb_d D_Checker_checkNamed 65 rfl)) (Nat.le_of_ble_eq_true rfl) (Nat.le_of_ble_eq_true rfl) (Nat.le_of_ble_eq_true rfl) (show k ≤ MC by omega) (show n ≤ MS by omega) (xt_w1 hB.1 m_2237aee6) (xt_cdOf hB.1 m_2237aee6) (hts _ m_44748ce5) hB hR hS hA (fun vv h13 H locs hq hEh13 hR hS => ?_)
    obtain ⟨r14, rfl, hw⟩ := hq
    have hw := hw hEh13
    have hE := hE.tr hEh13
    refine W.eq (g2 := F0 m 119 ls [.int r14, .ref x0]) rfl ?_
    refine lv_bipush (v := 20) hx hb (xb_d D_Checker_checkNamed 66 rfl) (by decide) ?_
    have hk1 : xb_k h11 x0 = 5 := hEh11.k hk1
    have hk1 : xb_k h13 x0 = 5 := hEh13.k hk1
    refine xb_call (D := D) (A := A) (σ := σ) (h := h13) (d := 3) (mc := bc) (ms := bs) (maxL := 3) (rest := []) (av := [.ref x0, .int r14, .int 20]) (fun T hT X => by obtain ⟨cb9, ra9, rb9, rc9⟩ := xb_recv (ci := 4) hR rfl hk1 (by decide); exact xt_invV X hx hown (hts _ m_0a242445) (hts _ m_a99c45f7) (hts _ m_978d7491) (xt_sigOf (hts _ m_01f2fc97)) nm_Checker_require (by rw [hT]; exact ra9) rb9 rc9 (g := F0 m 121 ls [.int 20, .int r14, .ref x0]) rfl (argsL := [.int r14, .int 20]) (rest := []) rfl rfl (by rw [hb]; exact (xb_d D_Checker_checkNamed 67 rfl))) (ok_Checker_require l hfl D A σ x0 r14 20 h13 bc bs _ _ hw) (hml.trans hl.1.symm) (by rw [hb]; exact (xb_d D_Checker_checkNamed 67 rfl)) (Nat.le_of_ble_eq_true rfl) (Nat.le_of_ble_eq_true rfl) (Nat.le_of_ble_eq_true rfl) (show k + bc ≤ MC by omega) (show n + bs ≤ MS by omega) (xt_w1 hB.1 m_01f2fc97) (xt_cdOf hB.1 m_01f2fc97) (hts _ m_44748ce5) hB hR hS hA (fun vv h15 bc16 bs16 kk16 nn16 H locs hk16 hn16 hq hEh15 hR hS => ?_) (fun XX ax h15 bc16 bs16 kk16 nn16 H locs hk16 hn16 hq hEh15 hex hR hS => ?_)
    · obtain ⟨rfl, hw⟩ := hq
      have hw := hw hEh15
      have hE := hE.tr hEh15
      refine W.eq (g2 := F0 m 124 ls []) rfl ?_
      refine lv_aload_n hx hb (xb_d D_Checker_checkNamed 68 rfl) rfl (lv_at hl 1 rfl) ?_
      have hk1 : xb_k h15 x0 = 5 := hEh15.k hk1
      refine xb_getP (C := R_Checker) (T := F_Checker) (N := 17) hx hb 4 0 hts fin_Checker hown hR hk1 (by decide) rfl (by decide) rfl (hts _ m_070795bc) (fun _ h9 => h9) (xb_d D_Checker_checkNamed 69 rfl) ?_
      obtain ⟨b17, eb17, hw⟩ := hw
      refine xb_some eb17 ?_
      obtain ⟨hk18, hw⟩ := hw
      refine xb_getP (C := R_StackModule) (T := F_StackModule) (N := 19) hx hb 2 7 hts fin_StackModule hown hR hk18 (by decide) rfl (by decide) rfl (hts _ m_d3e8f814) (fun _ h9 => h9) (xb_d D_Checker_checkNamed 70 rfl) ?_
      obtain ⟨b19, eb19, hw⟩ := hw
      refine xb_some eb19 ?_
      refine lv_iload_n hx hb (xb_d D_Checker_checkNamed 71 rfl) rfl (lv_at hl 0 rfl) ?_
      refine lv_iconst (v := 1) hx hb (xb_d D_Checker_checkNamed 72 rfl) (by decide) ?_
      obtain ⟨hk20, hw⟩ := hw
      refine xb_call0 (D := D) (A := A) (σ := σ) (h := h15) (d := 2) (maxL := 3) (rest := []) (av := [.ref b19, .int v5, .int 1]) (fun T hT X => by obtain ⟨cb9, ra9, rb9, rc9⟩ := xb_recv (ci := 1) hR rfl hk20 (by decide); exact xt_invV X hx hown (hts _ m_068feb96) (hts _ m_8e233096) (hts _ m_27eed10c) (xt_sigOf (hts _ m_ff1c70ae)) nm_Row_at (by rw [hT]; exact ra9) rb9 rc9 (g := F0 m 133 ls [.int 1, .int v5, .ref b19]) rfl (argsL := [.int v5, .int 1]) (rest := []) rfl rfl (by rw [hb]; exact (xb_d D_Checker_checkNamed 73 rfl))) (ok_Row_at l hfl D A σ b19 v5 1 h15 _ hw) (hml.trans hl.1.symm) (by rw [hb]; exact (xb_d D_Checker_checkNamed 73 rfl)) (Nat.le_of_ble_eq_true rfl) (Nat.le_of_ble_eq_true rfl) (Nat.le_of_ble_eq_true rfl) (show (k + kk16) ≤ MC by omega) (show (n + nn16) ≤ MS by omega) (xt_w1 hB.1 m_ff1c70ae) (xt_cdOf hB.1 m_ff1c70ae) (hts _ m_c1bef504) hB hR hS hA (fun vv h21 H locs hq hEh21 hR hS => ?_)
      obtain ⟨r22, rfl, hw⟩ := hq
      have hw := hw hEh21
      have hE := hE.tr hEh21
      refine W.eq (g2 := F0 m 136 ls [.int r22]) rfl ?_
      refine lv_istore_n hx hb (xb_d D_Checker_checkNamed 74 rfl) rfl hl (by decide) rfl (fun ls hl => ?_)
      have hl : lv_has ls 5 [(3, .int r22), (2, .int v5), (0, .ref x0), (1, .int x1)] := hl
      refine lv_iload_n hx hb (xb_d D_Checker_checkNamed 75 rfl) rfl (lv_at hl 3 rfl) ?_
      refine lv_bipush (v := 35) hx hb (xb_d D_Checker_checkNamed 76 rfl) (by decide) ?_
      refine lv_icmp_ne (tgt := 151) hx hb (xb_d D_Checker_checkNamed 77 rfl) rfl (fun hc23 => ?_) (fun hc23 => ?_)
      · have hw := hw.1 hc23
        refine lv_aload_n hx hb (xb_d D_Checker_checkNamed 82 rfl) rfl (lv_at hl 2 rfl) ?_
        refine lv_aload_n hx hb (xb_d D_Checker_checkNamed 83 rfl) rfl (lv_at hl 2 rfl) ?_
        have hk1 : xb_k h21 x0 = 5 := hEh21.k hk1
        refine xb_getP (C := R_Checker) (T := F_Checker) (N := 17) hx hb 4 0 hts fin_Checker hown hR hk1 (by decide) rfl (by decide) rfl (hts _ m_070795bc) (fun _ h9 => h9) (xb_d D_Checker_checkNamed 84 rfl) ?_
        obtain ⟨b24, eb24, hw⟩ := hw
        refine xb_some eb24 ?_
        obtain ⟨hk25, hw⟩ := hw
        refine xb_getP (C := R_StackModule) (T := F_StackModule) (N := 19) hx hb 2 7 hts fin_StackModule hown hR hk25 (by decide) rfl (by decide) rfl (hts _ m_d3e8f814) (fun _ h9 => h9) (xb_d D_Checker_checkNamed 85 rfl) ?_
        obtain ⟨b26, eb26, hw⟩ := hw
        refine xb_some eb26 ?_
        refine lv_iload_n hx hb (xb_d D_Checker_checkNamed 86 rfl) rfl (lv_at hl 1 rfl) ?_
        refine lv_iconst (v := 2) hx hb (xb_d D_Checker_checkNamed 87 rfl) (by decide) ?_
        obtain ⟨hk27, hw⟩ := hw
        refine xb_call0 (D := D) (A := A) (σ := σ) (h := h21) (d := 2) (maxL := 3) (rest := [.ref x0]) (av := [.ref b26, .int v5, .int 2]) (fun T hT X => by obtain ⟨cb9, ra9, rb9, rc9⟩ := xb_recv (ci := 1) hR rfl hk27 (by decide); exact xt_invV X hx hown (hts _ m_068feb96) (hts _ m_8e233096) (hts _ m_27eed10c) (xt_sigOf (hts _ m_ff1c70ae)) nm_Row_at (by rw [hT]; exact ra9) rb9 rc9 (g := F0 m 161 ls [.int 2, .int v5, .ref b26, .ref x0]) rfl (argsL := [.int v5, .int 2]) (rest := [.ref x0]) rfl rfl (by rw [hb]; exact (xb_d D_Checker_checkNamed 88 rfl))) (ok_Row_at l hfl D A σ b26 v5 2 h21 _ hw) (hml.trans hl.1.symm) (by rw [hb]; exact (xb_d D_Checker_checkNamed 88 rfl)) (Nat.le_of_ble_eq_true rfl) (Nat.le_of_ble_eq_true rfl) (Nat.le_of_ble_eq_true rfl) (show (k + kk16) ≤ MC by omega) (show (n + nn16) ≤ MS by omega) (xt_w1 hB.1 m_ff1c70ae) (xt_cdOf hB.1 m_ff1c70ae) (hts _ m_c1bef504) hB hR hS hA (fun vv h28 H locs hq hEh28 hR hS => ?_)
        obtain ⟨r29, rfl, hw⟩ := hq
        have hw := hw hEh28
        have hE := hE.tr hEh28
        refine W.eq (g2 := F0 m 164 ls [.int r29, .ref x0]) rfl ?_
        refine lv_iconst (v := 1) hx hb (xb_d D_Checker_checkNamed 89 rfl) (by decide) ?_
        refine lv_icmp_ne (tgt := 172) hx hb (xb_d D_Checker_checkNamed 90 rfl) rfl (fun hc30 => ?_) (fun hc30 => ?_)
        · have hw := hw.1 hc30
          refine lv_iconst (v := 0) hx hb (xb_d D_Checker_checkNamed 93 rfl) (by decide) ?_
          exact am_Checker_checkNamed_L173 l hfl D A σ MC MS h0 Qr Qt x0 r22 0 x0 h28 bc16 bs16 hw p e s m args below meth c hC H locs ls (k + kk16) (n + nn16) hE (lv_sub hl [2, 0] rfl) hR hS (by omega) (by omega)
        · have hw := hw.2 hc30
          refine lv_iconst (v := 1) hx hb (xb_d D_Checker_checkNamed 91 rfl) (by decide) ?_
          refine lv_goto (tgt := 173) hx hb (xb_d D_Checker_checkNamed 92 rfl) rfl ?_
          exact am_Checker_checkNamed_L173 l hfl D A σ MC MS h0 Qr Qt x0 r22 1 x0 h28 bc16 bs16 hw p e s m args below meth c hC H locs ls (k + kk16) (n + nn16) hE (lv_sub hl [2, 0] rfl) hR hS (by omega) (by omega)
      · have hw := hw.2 hc23
        refine lv_aload_n hx hb (xb_d D_Checker_checkNamed 78 rfl) rfl (lv_at hl 2 rfl) ?_
        refine lv_iload_n hx hb (xb_d D_Checker_checkNamed 79 rfl) rfl (lv_at hl 0 rfl) ?_
        have hk1 : xb_k h21 x0 = 5 := hEh21.k hk1
        refine xb_call0 (D := D) (A := A) (σ := σ) (h := h21) (d := 2) (maxL := 2) (rest := []) (av := [.ref x0, .int r22]) (fun T hT X => by obtain ⟨cb9, ra9, rb9, rc9⟩ := xb_recv (ci := 4) hR rfl hk1 (by decide); exact xt_invV X hx hown (hts _ m_761ff7fc) (hts _ m_e867be1e) (hts _ m_098fc344) (xt_sigOf (hts _ m_43ff17c7)) nm_Checker_put (by rw [hT]; exact ra9) rb9 rc9 (g := F0 m 145 ls [.int r22, .ref x0]) rfl (argsL := [.int r22]) (rest := []) rfl rfl (by rw [hb]; exact (xb_d D_Checker_checkNamed 80 rfl))) (ok_Checker_put l hfl D A σ x0 r22 h21 _ hw) (hml.trans hl.1.symm) (by rw [hb]; exact (xb_d D_Checker_checkNamed 80 rfl)) (Nat.le_of_ble_eq_true rfl) (Nat.le_of_ble_eq_true rfl) (Nat.le_of_ble_eq_true rfl) (show (k + kk16) ≤ MC by omega) (show (n + nn16) ≤ MS by omega) (xt_w1 hB.1 m_43ff17c7) (xt_cdOf hB.1 m_43ff17c7) (hts _ m_44748ce5) hB hR hS hA (fun vv h31 H locs hq hEh31 hR hS => ?_)
        obtain ⟨rfl, hw⟩ := hq
        have hw := hw hEh31
        have hE := hE.tr hEh31
        refine W.eq (g2 := F0 m 148 ls []) rfl ?_
        refine lv_goto (tgt := 184) hx hb (xb_d D_Checker_checkNamed 81 rfl) rfl ?_
        exact am_Checker_checkNamed_L184 l hfl D A σ MC MS h0 Qr Qt h31 bc16 bs16 hw p e s m args below meth c hC H locs ls (k + kk16) (n + nn16) hE (lv_sub hl [] rfl) hR hS (by omega) (by omega)
    · exact xb_pass hlocks (fun x hx9 => by rw [htab] at hx9; first | (cases hx9; done) | (simp [tableOf] at hx9; subst hx9; decide) | (simp [tableOf] at hx9; rcases hx9 with rfl | rfl <;> decide) | (simp [tableOf] at hx9; rcases hx9 with rfl | rfl | rfl <;> decide)) (show (k + kk16) + bc16 ≤ MC by omega) (show (n + nn16) + bs16 ≤ MS by omega) (hE.tr hEh15) hR hS hex hq
  · have hw := hw.2 hc6
    refine lv_aload_n hx hb (xb_d D_Checker_checkNamed 11 rfl) rfl (lv_at hl 1 rfl) ?_
    refine xb_getP (C := R_Checker) (T := F_Checker) (N := 17) hx hb 4 0 hts fin_Checker hown hR hk1 (by decide) rfl (by decide) rfl (hts _ m_070795bc) (fun _ h9 => h9) (xb_d D_Checker_checkNamed 12 rfl) ?_
    obtain ⟨b33, eb33, hw⟩ := hw
    refine xb_some eb33 ?_
    refine lv_aload_n hx hb (xb_d D_Checker_checkNamed 13 rfl) rfl (lv_at hl 1 rfl) ?_
    refine xb_getI (C := R_Checker) (T := F_Checker) (N := 17) hx hb 4 8 hts fin_Checker hown hR hk1 (by decide) rfl (by decide) rfl (hts _ m_f84c9de3) (fun _ h9 => h9) (xb_d D_Checker_checkNamed 14 rfl) ?_
    obtain ⟨hk34, hw⟩ := hw
    refine xb_call0 (D := D) (A := A) (σ := σ) (h := h) (d := 3) (maxL := 2) (rest := []) (av := [.ref b33, .int (xb_i h x0 8)]) (fun T hT X => by obtain ⟨cb9, ra9, rb9, rc9⟩ := xb_recv (ci := 2) hR rfl hk34 (by decide); exact xt_invV X hx hown (hts _ m_fc980843) (hts _ m_aa97372f) (hts _ m_8160d9b3) (xt_sigOf (hts _ m_8621e59b)) nm_StackModule_parameters (by rw [hT]; exact ra9) rb9 rc9 (g := F0 m 26 ls [.int (xb_i h x0 8), .ref b33]) rfl (argsL := [.int (xb_i h x0 8)]) (rest := []) rfl rfl (by rw [hb]; exact (xb_d D_Checker_checkNamed 15 rfl))) (ok_StackModule_parameters l hfl D A σ b33 (xb_i h x0 8) h _ hw) (hml.trans hl.1.symm) (by rw [hb]; exact (xb_d D_Checker_checkNamed 15 rfl)) (Nat.le_of_ble_eq_true rfl) (Nat.le_of_ble_eq_true rfl) (Nat.le_of_ble_eq_true rfl) (show k ≤ MC by omega) (show n ≤ MS by omega) (xt_w1 hB.1 m_8621e59b) (xt_cdOf hB.1 m_8621e59b) (hts _ m_9c375545) hB hR hS hA (fun vv h35 H locs hq hEh35 hR hS => ?_)
    obtain ⟨r36, rfl, hw⟩ := hq
    have hw := hw hEh35
    have hE := hE.tr hEh35
    refine W.eq (g2 := F0 m 29 ls [.int r36]) rfl ?_
    refine lv_istore_n hx hb (xb_d D_Checker_checkNamed 16 rfl) rfl hl (by decide) rfl (fun ls hl => ?_)
    have hl : lv_has ls 5 [(3, .int r36), (2, .int v5), (0, .ref x0), (1, .int x1)] := hl
    refine lv_aload_n hx hb (xb_d D_Checker_checkNamed 17 rfl) rfl (lv_at hl 2 rfl) ?_
    refine lv_iload_n hx hb (xb_d D_Checker_checkNamed 18 rfl) rfl (lv_at hl 1 rfl) ?_
    refine lv_i2l hx hb (xb_d D_Checker_checkNamed 19 rfl) rfl ?_
    refine lv_iload_n hx hb (xb_d D_Checker_checkNamed 20 rfl) rfl (lv_at hl 0 rfl) ?_
    refine lv_aload_n hx hb (xb_d D_Checker_checkNamed 21 rfl) rfl (lv_at hl 2 rfl) ?_
    have hk1 : xb_k h35 x0 = 5 := hEh35.k hk1
    refine xb_getI (C := R_Checker) (T := F_Checker) (N := 17) hx hb 4 7 hts fin_Checker hown hR hk1 (by decide) rfl (by decide) rfl (hts _ m_708ae6ef) (fun _ h9 => h9) (xb_d D_Checker_checkNamed 22 rfl) ?_
    refine lv_iadd hx hb (xb_d D_Checker_checkNamed 23 rfl) ?_
    refine xb_call0 (D := D) (A := A) (σ := σ) (h := h35) (d := 2) (maxL := 3) (rest := [.ref x0]) (av := [.long (Int32.toInt64 v5), .int (r36 + (xb_i h35 x0 7))]) (fun T hT X => xt_invS X hx hown (hts _ m_fe08b245) (hts _ m_9ad1e0af) (hts _ m_44748ce5) (xt_sgS (hts _ m_2237aee6)).1 (xt_sgS (hts _ m_2237aee6)).2 nm_Checker_isThere (g := F0 m 39 ls [.int (r36 + (xb_i h35 x0 7)), .long (Int32.toInt64 v5), .ref x0]) rfl (argsL := [.long (Int32.toInt64 v5), .int (r36 + (xb_i h35 x0 7))]) (rest := [.ref x0]) rfl rfl (by rw [hb]; exact (xb_d D_Checker_checkNamed 24 rfl))) (ok_Checker_isThere l hfl D A σ (Int32.toInt64 v5) (r36 + (xb_i h35 x0 7)) h35 _ hw) (hml.trans hl.1.symm) (by rw [hb]; exact (xb_d D_Checker_checkNamed 24 rfl)) (Nat.le_of_ble_eq_true rfl) (Nat.le_of_ble_eq_true rfl) (Nat.le_of_ble_eq_true rfl) (show k ≤ MC by omega) (show n ≤ MS by omega) (xt_w1 hB.1 m_2237aee6) (xt_cdOf hB.1 m_2237aee6) (hts _ m_44748ce5) hB hR hS hA (fun vv h37 H locs hq hEh37 hR hS => ?_)
    obtain ⟨r38, rfl, hw⟩ := hq
    have hw := hw hEh37
    have hE := hE.tr hEh37
    refine W.eq (g2 := F0 m 42 ls [.int r38, .ref x0]) rfl ?_
    refine lv_bipush (v := 20) hx hb (xb_d D_Checker_checkNamed 25 rfl) (by decide) ?_
    have hk1 : xb_k h37 x0 = 5 := hEh37.k hk1
    refine xb_call (D := D) (A := A) (σ := σ) (h := h37) (d := 3) (mc := bc) (ms := bs) (maxL := 3) (rest := []) (av := [.ref x0, .int r38, .int 20]) (fun T hT X => by obtain ⟨cb9, ra9, rb9, rc9⟩ := xb_recv (ci := 4) hR rfl hk1 (by decide); exact xt_invV X hx hown (hts _ m_0a242445) (hts _ m_a99c45f7) (hts _ m_978d7491) (xt_sigOf (hts _ m_01f2fc97)) nm_Checker_require (by rw [hT]; exact ra9) rb9 rc9 (g := F0 m 44 ls [.int 20, .int r38, .ref x0]) rfl (argsL := [.int r38, .int 20]) (rest := []) rfl rfl (by rw [hb]; exact (xb_d D_Checker_checkNamed 26 rfl))) (ok_Checker_require l hfl D A σ x0 r38 20 h37 bc bs _ _ hw) (hml.trans hl.1.symm) (by rw [hb]; exact (xb_d D_Checker_checkNamed 26 rfl)) (Nat.le_of_ble_eq_true rfl) (Nat.le_of_ble_eq_true rfl) (Nat.le_of_ble_eq_true rfl) (show k + bc ≤ MC by omega) (show n + bs ≤ MS by omega) (xt_w1 hB.1 m_01f2fc97) (xt_cdOf hB.1 m_01f2fc97) (hts _ m_44748ce5) hB hR hS hA (fun vv h39 bc40 bs40 kk40 nn40 H locs hk40 hn40 hq hEh39 hR hS => ?_) (fun XX ax h39 bc40 bs40 kk40 nn40 H locs hk40 hn40 hq hEh39 hex hR hS => ?_)
    · obtain ⟨rfl, hw⟩ := hq
      have hw := hw hEh39
      have hE := hE.tr hEh39
      refine W.eq (g2 := F0 m 47 ls []) rfl ?_
      refine lv_iload_n hx hb (xb_d D_Checker_checkNamed 27 rfl) rfl (lv_at hl 1 rfl) ?_
      refine lv_iload_n hx hb (xb_d D_Checker_checkNamed 28 rfl) rfl (lv_at hl 0 rfl) ?_
      refine lv_icmp_ge (tgt := 67) hx hb (xb_d D_Checker_checkNamed 29 rfl) rfl (fun hc41 => ?_) (fun hc41 => ?_)
      · have hw := hw.1 hc41
        refine lv_aload_n hx hb (xb_d D_Checker_checkNamed 37 rfl) rfl (lv_at hl 2 rfl) ?_
        have hk1 : xb_k h39 x0 = 5 := hEh39.k hk1
        refine xb_getP (C := R_Checker) (T := F_Checker) (N := 17) hx hb 4 6 hts fin_Checker hown hR hk1 (by decide) rfl (by decide) rfl (hts _ m_c12a5435) (fun _ h9 => h9) (xb_d D_Checker_checkNamed 38 rfl) ?_
        obtain ⟨b42, eb42, hw⟩ := hw
        refine xb_some eb42 ?_
        refine lv_iload_n hx hb (xb_d D_Checker_checkNamed 39 rfl) rfl (lv_at hl 1 rfl) ?_
        refine lv_iload_n hx hb (xb_d D_Checker_checkNamed 40 rfl) rfl (lv_at hl 0 rfl) ?_
        refine lv_isub hx hb (xb_d D_Checker_checkNamed 41 rfl) ?_
        obtain ⟨hk44, hw⟩ := hw
        obtain ⟨hi43, hw⟩ := hw
        refine xb_bald hx hb hR hk44 hi43 (xb_d D_Checker_checkNamed 42 rfl) ?_
        exact am_Checker_checkNamed_L75 l hfl D A σ MC MS h0 Qr Qt x0 x1 (xb_i h39 b42 (Int32.toNatClampNeg (v5 - r36))) h39 bc40 bs40 hw p e s m args below meth c hC H locs ls (k + kk40) (n + nn40) hE (lv_sub hl [2, 3] rfl) hR hS (by omega) (by omega)
      · have hw := hw.2 hc41
        refine lv_aload_n hx hb (xb_d D_Checker_checkNamed 30 rfl) rfl (lv_at hl 2 rfl) ?_
        have hk1 : xb_k h39 x0 = 5 := hEh39.k hk1
        refine xb_getP (C := R_Checker) (T := F_Checker) (N := 17) hx hb 4 0 hts fin_Checker hown hR hk1 (by decide) rfl (by decide) rfl (hts _ m_070795bc) (fun _ h9 => h9) (xb_d D_Checker_checkNamed 31 rfl) ?_
        obtain ⟨b45, eb45, hw⟩ := hw
        refine xb_some eb45 ?_
        refine lv_aload_n hx hb (xb_d D_Checker_checkNamed 32 rfl) rfl (lv_at hl 2 rfl) ?_
        refine xb_getI (C := R_Checker) (T := F_Checker) (N := 17) hx hb 4 8 hts fin_Checker hown hR hk1 (by decide) rfl (by decide) rfl (hts _ m_f84c9de3) (fun _ h9 => h9) (xb_d D_Checker_checkNamed 33 rfl) ?_
        refine lv_iload_n hx hb (xb_d D_Checker_checkNamed 34 rfl) rfl (lv_at hl 1 rfl) ?_
        obtain ⟨hk46, hw⟩ := hw
        refine xb_call0 (D := D) (A := A) (σ := σ) (h := h39) (d := 3) (maxL := 3) (rest := []) (av := [.ref b45, .int (xb_i h39 x0 8), .int v5]) (fun T hT X => by obtain ⟨cb9, ra9, rb9, rc9⟩ := xb_recv (ci := 2) hR rfl hk46 (by decide); exact xt_invV X hx hown (hts _ m_cafa8207) (hts _ m_8ffa2b15) (hts _ m_4526d57b) (xt_sigOf (hts _ m_4049389a)) nm_StackModule_parameterType (by rw [hT]; exact ra9) rb9 rc9 (g := F0 m 61 ls [.int v5, .int (xb_i h39 x0 8), .ref b45]) rfl (argsL := [.int (xb_i h39 x0 8), .int v5]) (rest := []) rfl rfl (by rw [hb]; exact (xb_d D_Checker_checkNamed 35 rfl))) (ok_StackModule_parameterType l hfl D A σ b45 (xb_i h39 x0 8) v5 h39 _ hw) (hml.trans hl.1.symm) (by rw [hb]; exact (xb_d D_Checker_checkNamed 35 rfl)) (Nat.le_of_ble_eq_true rfl) (Nat.le_of_ble_eq_true rfl) (Nat.le_of_ble_eq_true rfl) (show (k + kk40) ≤ MC by omega) (show (n + nn40) ≤ MS by omega) (xt_w1 hB.1 m_4049389a) (xt_cdOf hB.1 m_4049389a) (hts _ m_9c375545) hB hR hS hA (fun vv h47 H locs hq hEh47 hR hS => ?_)
        obtain ⟨r48, rfl, hw⟩ := hq
        have hw := hw hEh47
        have hE := hE.tr hEh47
        refine W.eq (g2 := F0 m 64 ls [.int r48]) rfl ?_
        refine lv_goto (tgt := 75) hx hb (xb_d D_Checker_checkNamed 36 rfl) rfl ?_
        exact am_Checker_checkNamed_L75 l hfl D A σ MC MS h0 Qr Qt x0 x1 r48 h47 bc40 bs40 hw p e s m args below meth c hC H locs ls (k + kk40) (n + nn40) hE (lv_sub hl [2, 3] rfl) hR hS (by omega) (by omega)
    · exact xb_pass hlocks (fun x hx9 => by rw [htab] at hx9; first | (cases hx9; done) | (simp [tableOf] at hx9; subst hx9; decide) | (simp [tableOf] at hx9; rcases hx9 with rfl | rfl <;> decide) | (simp [tableOf] at hx9; rcases hx9 with rfl | rfl | rfl <;> decide)) (show (k + kk40) + bc40 ≤ MC by omega) (show (n + nn40) + bs40 ≤ MS by omega) (hE.tr hEh39) hR hS hex hq

