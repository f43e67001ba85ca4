theorem m_2aee5408 : (.fieldLink "StackHost$Checker" 175 "StackHost$StackModule" "listed" "LStackHost$Row;" : Cond) ∈ xt_tbl := xt_in (xt_t3 (List.mem_of_getElem? (i := 96) (by decide +kernel))) (by decide +kernel)
theorem m_61dca033 : (.fieldLink "StackHost$Checker" 168 "StackHost$StackModule" "elements" "LStackHost$Row;" : Cond) ∈ xt_tbl := xt_in (xt_t3 (List.mem_of_getElem? (i := 93) (by decide +kernel))) (by decide +kernel)
set_option maxRecDepth 100000 in
def T_Checker_checkElements : List (Nat × Instr × Nat) := [(0, .aload_n 0, 1), (1, .getfield 38, 3), (4, .getfield 168, 3), (7, .astore_n 1, 1), (8, .iconst 0, 1), (9, .istore_n 2, 1), (10, .iload_n 2, 1), (11, .aload_n 1, 1), (12, .invokevirtual 77, 3), (15, .if_icmp .ge 107, 3), (18, .aload_n 0, 1), (19, .aload_n 1, 1), (20, .iload_n 2, 1), (21, .aload_n 0, 1), (22, .getfield 38, 3), (25, .getfield 104, 3), (28, .invokevirtual 77, 3), (31, .invokevirtual 171, 3), (34, .aload_n 1, 1), (35, .iload_n 2, 1), (36, .iconst 3, 1), (37, .invokevirtual 90, 3), (40, .istore_n 3, 1), (41, .iconst 0, 1), (42, .istore 4, 2), (44, .iload 4, 2), (46, .aload_n 1, 1), (47, .iload_n 2, 1), (48, .iconst 4, 1), (49, .invokevirtual 90, 3), (52, .if_icmp .ge 64, 3), (55, .aload_n 0, 1), (56, .getfield 38, 3), (59, .getfield 175, 3), (62, .iload_n 3, 1), (63, .iload 4, 2), (65, .iadd, 1), (66, .iconst 1, 1), (67, .invokevirtual 121, 3), (70, .aload_n 0, 1), (71, .getfield 38, 3), (74, .getfield 118, 3), (77, .invokevirtual 77, 3), (80, .invokestatic 125, 3), (83, .ifCond .ne 27, 3), (86, .aload_n 0, 1), (87, .getfield 38, 3), (90, .bipush 20, 2), (92, .aload_n 0, 1), (93, .getfield 38, 3), (96, .getfield 175, 3), (99, .iload_n 3, 1), (100, .iload 4, 2), (102, .iadd, 1), (103, .iconst 0, 1), (104, .invokevirtual 90, 3), (107, .invokevirtual 94, 3), (110, .iinc 4 1, 3), (113, .goto (-69), 3), (116, .iinc 2 1, 3), (119, .goto (-109), 3), (122, .return_, 1)]
theorem D_Checker_checkElements : ∀ q ∈ T_Checker_checkElements, decode b_Checker_checkElements q.1 = .ok (q.2.1, q.2.2) := by decide +kernel
def w_Checker_checkElements_L110 (K10 : Nat → Nat → Int32 → xb_H → Nat → Nat → Prop) (K44 : Nat → Nat → Int32 → Int32 → Int32 → xb_H → Nat → Nat → Prop) (Qr : xb_H → Prop) (Qt : String → xb_H → Prop) (x0 : Nat) (x1 : Nat) (x2 : Int32) (x3 : Int32) (x4 : Int32) (h : xb_H) (bc : Nat) (bs : Nat) : Prop :=
    K44 x0 x1 x2 x3 (x4 + 1) h bc bs

def w_Checker_checkElements_L44 (K10 : Nat → Nat → Int32 → xb_H → Nat → Nat → Prop) (Qr : xb_H → Prop) (Qt : String → xb_H → Prop) : Nat → Nat → Nat → Int32 → Int32 → Int32 → xb_H → Nat → Nat → Prop
  | 0, _, _, _, _, _, _, _, _ => False
  | n9 + 1, x0, x1, x2, x3, x4, h, bc, bs =>
    xb_k h x1 = 2 ∧ w_Row_at x1 x2 4 h (fun (r3 : Int32) (h2 : xb_H) => xb_ext h h2 → ((r3 ≤ x4 → K10 x0 x1 (x2 + 1) h2 bc bs) ∧ (¬ r3 ≤ x4 → xb_k h2 x0 = 5 ∧ ∃ b6 : Nat, (xb_r h2 x0 0) = some b6 ∧ xb_k h2 b6 = 3 ∧ ∃ b8 : Nat, (xb_r h2 b6 10) = some b8 ∧ xb_k h2 b8 = 2 ∧ w_Row_longAt b8 (x3 + x4) 1 h2 (fun (r11 : Int64) (h10 : xb_H) => xb_ext h2 h10 → ∃ b12 : Nat, (xb_r h10 x0 0) = some b12 ∧ xb_k h10 b12 = 3 ∧ ∃ b14 : Nat, (xb_r h10 b12 4) = some b14 ∧ xb_k h10 b14 = 2 ∧ w_Row_lines b14 h10 (fun (r17 : Int32) (h16 : xb_H) => xb_ext h10 h16 → w_Checker_isThere r11 r17 h16 (fun (r19 : Int32) (h18 : xb_H) => xb_ext h16 h18 → ((¬ r19 = (0 : Int32) → w_Checker_checkElements_L110 K10 (w_Checker_checkElements_L44 K10 Qr Qt n9) Qr Qt x0 x1 x2 x3 x4 h18 bc bs) ∧ (r19 = (0 : Int32) → ∃ b21 : Nat, (xb_r h18 x0 0) = some b21 ∧ ∃ b22 : Nat, (xb_r h18 x0 0) = some b22 ∧ xb_k h18 b22 = 3 ∧ ∃ b24 : Nat, (xb_r h18 b22 10) = some b24 ∧ xb_k h18 b24 = 2 ∧ w_Row_at b24 (x3 + x4) 0 h18 (fun (r27 : Int32) (h26 : xb_H) => xb_ext h18 h26 → xb_k h26 b21 = 3 ∧ ∃ c31 sc31 : Nat, c31 ≤ bc ∧ sc31 ≤ bs ∧ w_StackModule_fail b21 20 r27 h26 c31 sc31 (fun (h29 : xb_H) => xb_ext h26 h29 → w_Checker_checkElements_L110 K10 (w_Checker_checkElements_L44 K10 Qr Qt n9) Qr Qt x0 x1 x2 x3 x4 h29 (bc - c31) (bs - sc31)) Qt)))))))))

def w_Checker_checkElements_L10 (Qr : xb_H → Prop) (Qt : String → xb_H → Prop) : Nat → Nat → Nat → Int32 → xb_H → Nat → Nat → Prop
  | 0, _, _, _, _, _, _ => False
  | n9 + 1, x0, x1, x2, h, bc, bs =>
    xb_k h x1 = 2 ∧ w_Row_lines x1 h (fun (r3 : Int32) (h2 : xb_H) => xb_ext h h2 → ((r3 ≤ x2 → Qr h2) ∧ (¬ r3 ≤ x2 → xb_k h2 x0 = 5 ∧ ∃ b6 : Nat, (xb_r h2 x0 0) = some b6 ∧ xb_k h2 b6 = 3 ∧ ∃ b8 : Nat, (xb_r h2 b6 5) = some b8 ∧ xb_k h2 b8 = 2 ∧ w_Row_lines b8 h2 (fun (r11 : Int32) (h10 : xb_H) => xb_ext h2 h10 → ∃ c14 sc14 : Nat, c14 ≤ bc ∧ sc14 ≤ bs ∧ w_Checker_checkOffset x0 x1 x2 r11 h10 c14 sc14 (fun (h12 : xb_H) => xb_ext h10 h12 → w_Row_at x1 x2 3 h12 (fun (r16 : Int32) (h15 : xb_H) => xb_ext h12 h15 → (∃ n8 : Nat, w_Checker_checkElements_L44 (w_Checker_checkElements_L10 Qr Qt n9) Qr Qt n8 x0 x1 x2 r16 0 h15 (bc - c14) (bs - sc14)))) Qt))))

def w_Checker_checkElements (x0 : Nat) (h : xb_H) (bc : Nat) (bs : Nat) (Qr : xb_H → Prop) (Qt : String → xb_H → Prop) : Prop :=
    xb_k h x0 = 5 ∧ ∃ b2 : Nat, (xb_r h x0 0) = some b2 ∧ xb_k h b2 = 3 ∧ ∃ b4 : Nat, (xb_r h b2 9) = some b4 ∧ (∃ n8 : Nat, w_Checker_checkElements_L10 Qr Qt n8 x0 b4 0 h bc bs)

set_option maxHeartbeats 4000000 in
set_option maxRecDepth 100000 in
theorem am_Checker_checkElements_L110 (l : Launch) (hfl : l.flags = pinnedFlags ++ [noTraceFlag]) (D : va_G) (A : Nat → Prop) (σ MC MS : Nat) (h0 : xb_H) (Qr : xb_H → Prop) (Qt : String → xb_H → Prop) (K10 : Nat → Nat → Int32 → xb_H → Nat → Nat → Prop) (hK10 : ∀ (x0 : Nat) (x1 : Nat) (x2 : Int32) (h : xb_H) (bc : Nat) (bs : Nat), K10 x0 x1 x2 h bc bs → xb_am l D A σ 5 MC MS h0 (fun v h => v = none ∧ Qr h) Qt y_Checker_checkElements.cls y_Checker_checkElements.name b_Checker_checkElements 5 ([] : List ExceptionTableEntry) none 10 [(0, .ref x0), (1, .ref x1), (2, .int x2)] [] h bc bs) (K44 : Nat → Nat → Int32 → Int32 → Int32 → xb_H → Nat → Nat → Prop) (hK44 : ∀ (x0 : Nat) (x1 : Nat) (x2 : Int32) (x3 : Int32) (x4 : Int32) (h : xb_H) (bc : Nat) (bs : Nat), K44 x0 x1 x2 x3 x4 h bc bs → xb_am l D A σ 5 MC MS h0 (fun v h => v = none ∧ Qr h) Qt y_Checker_checkElements.cls y_Checker_checkElements.name b_Checker_checkElements 5 ([] : List ExceptionTableEntry) none 44 [(0, .ref x0), (1, .ref x1), (2, .int x2), (3, .int x3), (4, .int x4)] [] h bc bs) (x0 : Nat) (x1 : Nat) (x2 : Int32) (x3 : Int32) (x4 : Int32) (h : xb_H) (bc : Nat) (bs : Nat) (hw : w_Checker_checkElements_L110 K10 K44 Qr Qt x0 x1 x2 x3 x4 h bc bs) : xb_am l D A σ 5 MC MS h0 (fun v h => v = none ∧ Qr h) Qt y_Checker_checkElements.cls y_Checker_checkElements.name b_Checker_checkElements 5 ([] : List ExceptionTableEntry) none 110 [(0, .ref x0), (1, .ref x1), (2, .int x2), (3, .int x3), (4, .int x4)] [] h bc bs := by
  unfold w_Checker_checkElements_L110 at hw
  intro p e s m args below meth c hC H locs ls k n hE hl hR hS hk hn
  obtain ⟨hx, hb, hown, hlocks, htab, hml, hr, hB, hA, hnm⟩ := id hC
  have hts := hB.1.1.at args
  refine lv_iinc (v := (x4 + 1)) (k := 4) hx hb (xb_d D_Checker_checkElements 57 rfl) hl rfl (by first | rfl | decide) (by decide) rfl (fun ls hl => ?_)
  have hl : lv_has ls 5 [(4, .int (x4 + 1)), (0, .ref x0), (1, .ref x1), (2, .int x2), (3, .int x3)] := hl
  refine lv_goto (tgt := 44) hx hb (xb_d D_Checker_checkElements 58 rfl) rfl ?_
  exact hK44 x0 x1 x2 x3 (x4 + 1) h bc bs hw p e s m args below meth c hC H locs ls k n hE (lv_sub hl [1, 2, 3, 4, 0] rfl) hR hS (by omega) (by omega)

set_option maxHeartbeats 4000000 in
set_option maxRecDepth 100000 in
theorem am_Checker_checkElements_L44 (l : Launch) (hfl : l.flags = pinnedFlags ++ [noTraceFlag]) (D : va_G) (A : Nat → Prop) (σ MC MS : Nat) (h0 : xb_H) (Qr : xb_H → Prop) (Qt : String → xb_H → Prop) (K10 : Nat → Nat → Int32 → xb_H → Nat → Nat → Prop) (hK10 : ∀ (x0 : Nat) (x1 : Nat) (x2 : Int32) (h : xb_H) (bc : Nat) (bs : Nat), K10 x0 x1 x2 h bc bs → xb_am l D A σ 5 MC MS h0 (fun v h => v = none ∧ Qr h) Qt y_Checker_checkElements.cls y_Checker_checkElements.name b_Checker_checkElements 5 ([] : List ExceptionTableEntry) none 10 [(0, .ref x0), (1, .ref x1), (2, .int x2)] [] h bc bs) (n9 : Nat) : ∀ (x0 : Nat) (x1 : Nat) (x2 : Int32) (x3 : Int32) (x4 : Int32) (h : xb_H) (bc : Nat) (bs : Nat), w_Checker_checkElements_L44 K10 Qr Qt n9 x0 x1 x2 x3 x4 h bc bs → xb_am l D A σ 5 MC MS h0 (fun v h => v = none ∧ Qr h) Qt y_Checker_checkElements.cls y_Checker_checkElements.name b_Checker_checkElements 5 ([] : List ExceptionTableEntry) none 44 [(0, .ref x0), (1, .ref x1), (2, .int x2), (3, .int x3), (4, .int x4)] [] h bc bs := by
  induction n9 with
  | zero => intro x0 x1 x2 x3 x4 h bc bs hw; exact False.elim hw
  | succ n9 ih =>
    intro x0 x1 x2 x3 x4 h bc bs hw
    unfold w_Checker_checkElements_L44 at hw
    intro p e s m args below meth c hC H locs ls k n hE hl hR hS hk hn
    obtain ⟨hx, hb, hown, hlocks, htab, hml, hr, hB, hA, hnm⟩ := id hC
    have hts := hB.1.1.at args
    refine lv_iload hx hb (xb_d D_Checker_checkElements 25 rfl) (lv_at hl 4 rfl) ?_
    refine lv_aload_n hx hb (xb_d D_Checker_checkElements 26 rfl) rfl (lv_at hl 1 rfl) ?_
    refine lv_iload_n hx hb (xb_d D_Checker_checkElements 27 rfl) rfl (lv_at hl 2 rfl) ?_
    refine lv_iconst (v := 4) hx hb (xb_d D_Checker_checkElements 28 rfl) (by decide) ?_
    obtain ⟨hk1, hw⟩ := hw
    refine xb_call (D := D) (A := A) (σ := σ) (h := h) (d := 2) (mc := 0) (ms := 0) (maxL := 3) (rest := [.int x4]) (av := [.ref x1, .int x2, .int 4]) (fun T hT X => by obtain ⟨cb, r1, r2, r3⟩ := xb_recv (ci := 1) hR rfl hk1 (by decide); exact xt_invV X hx hown (hts _ m_068feb96) (hts _ m_8e233096) (hts _ m_27eed10c) (xt_sigOf (hts _ m_ff1c70ae)) nm_Row_at (by rw [hT]; exact r1) r2 r3 (g := F0 m 49 ls [.int 4, .int x2, .ref x1, .int x4]) rfl (argsL := [.int x2, .int 4]) (rest := [.int x4]) rfl rfl (by rw [hb]; exact (xb_d D_Checker_checkElements 29 rfl))) (ok_Row_at l hfl D A σ x1 x2 4 h _ hw) (hml.trans hl.1.symm) (by rw [hb]; exact (xb_d D_Checker_checkElements 29 rfl)) (Nat.le_of_ble_eq_true rfl) (Nat.le_of_ble_eq_true rfl) (Nat.le_of_ble_eq_true rfl) (show k + 0 ≤ MC by omega) (show n + 0 ≤ MS by omega) (xt_w1 hB.1 m_ff1c70ae) (xt_cdOf hB.1 m_ff1c70ae) (hts _ m_c1bef504) hB hR hS hA (fun vv h2 H locs hq hEh2 hR hS => ?_) (fun XX ax h2 H locs hq hEh2 hex hR hS => ?_)
    · obtain ⟨r3, rfl, hw⟩ := hq
      have hw := hw hEh2
      have hE := hE.tr hEh2
      refine W.eq (g2 := F0 m 52 ls [.int r3, .int x4]) rfl ?_
      refine lv_icmp_ge (tgt := 116) hx hb (xb_d D_Checker_checkElements 30 rfl) rfl (fun hc4 => ?_) (fun hc4 => ?_)
      · have hw := hw.1 hc4
        refine lv_iinc (v := (x2 + 1)) (k := 2) hx hb (xb_d D_Checker_checkElements 59 rfl) hl rfl (by first | rfl | decide) (by decide) rfl (fun ls hl => ?_)
        have hl : lv_has ls 5 [(2, .int (x2 + 1)), (0, .ref x0), (1, .ref x1), (3, .int x3), (4, .int x4)] := hl
        refine lv_goto (tgt := 10) hx hb (xb_d D_Checker_checkElements 60 rfl) rfl ?_
        exact hK10 x0 x1 (x2 + 1) h2 bc bs hw p e s m args below meth c hC H locs ls k n hE (lv_sub hl [1, 2, 0] rfl) hR hS (by omega) (by omega)
      · have hw := hw.2 hc4
        refine lv_aload_n hx hb (xb_d D_Checker_checkElements 31 rfl) rfl (lv_at hl 0 rfl) ?_
        obtain ⟨hk5, hw⟩ := hw
        refine xb_getP (C := R_Checker) (T := F_Checker) (N := 17) hx hb 4 0 hts fin_Checker hown hR hk5 (by decide) rfl (by decide) rfl (hts _ m_070795bc) (fun _ h9 => h9) (xb_d D_Checker_checkElements 32 rfl) ?_
        obtain ⟨b6, eb6, hw⟩ := hw
        refine xb_some eb6 ?_
        obtain ⟨hk7, hw⟩ := hw
        refine xb_getP (C := R_StackModule) (T := F_StackModule) (N := 19) hx hb 2 10 hts fin_StackModule hown hR hk7 (by decide) rfl (by decide) rfl (hts _ m_2aee5408) (fun _ h9 => h9) (xb_d D_Checker_checkElements 33 rfl) ?_
        obtain ⟨b8, eb8, hw⟩ := hw
        refine xb_some eb8 ?_
        refine lv_iload_n hx hb (xb_d D_Checker_checkElements 34 rfl) rfl (lv_at hl 3 rfl) ?_
        refine lv_iload hx hb (xb_d D_Checker_checkElements 35 rfl) (lv_at hl 4 rfl) ?_
        refine lv_iadd hx hb (xb_d D_Checker_checkElements 36 rfl) ?_
        refine lv_iconst (v := 1) hx hb (xb_d D_Checker_checkElements 37 rfl) (by decide) ?_
        obtain ⟨hk9, hw⟩ := hw
        refine xb_call (D := D) (A := A) (σ := σ) (h := h2) (d := 2) (mc := 0) (ms := 0) (maxL := 3) (rest := []) (av := [.ref b8, .int (x3 + x4), .int 1]) (fun T hT X => by obtain ⟨cb, r1, r2, r3⟩ := xb_recv (ci := 1) hR rfl hk9 (by decide); exact xt_invV X hx hown (hts _ m_e00feb7e) (hts _ m_8db3b24f) (hts _ m_78dc30a4) (xt_sigOf (hts _ m_a4177401)) nm_Row_longAt (by rw [hT]; exact r1) r2 r3 (g := F0 m 67 ls [.int 1, .int (x3 + x4), .ref b8]) rfl (argsL := [.int (x3 + x4), .int 1]) (rest := []) rfl rfl (by rw [hb]; exact (xb_d D_Checker_checkElements 38 rfl))) (ok_Row_longAt l hfl D A σ b8 (x3 + x4) 1 h2 _ hw) (hml.trans hl.1.symm) (by rw [hb]; exact (xb_d D_Checker_checkElements 38 rfl)) (Nat.le_of_ble_eq_true rfl) (Nat.le_of_ble_eq_true rfl) (Nat.le_of_ble_eq_true rfl) (show k + 0 ≤ MC by omega) (show n + 0 ≤ MS by omega) (xt_w1 hB.1 m_a4177401) (xt_cdOf hB.1 m_a4177401) (hts _ m_c1bef504) hB hR hS hA (fun vv h10 H locs hq hEh10 hR hS => ?_) (fun XX ax h10 H locs hq hEh10 hex hR hS => ?_)
        · obtain ⟨r11, rfl, hw⟩ := hq
          have hw := hw hEh10
          have hE := hE.tr hEh10
          refine W.eq (g2 := F0 m 70 ls [.long r11]) rfl ?_
          refine lv_aload_n hx hb (xb_d D_Checker_checkElements 39 rfl) rfl (lv_at hl 0 rfl) ?_
          have hk5 : xb_k h10 x0 = 5 := hEh10.k hk5
          refine xb_getP (C := R_Checker) (T := F_Checker) (N := 17) hx hb 4 0 hts fin_Checker hown hR hk5 (by decide) rfl (by decide) rfl (hts _ m_070795bc) (fun _ h9 => h9) (xb_d D_Checker_checkElements 40 rfl) ?_
          obtain ⟨b12, eb12, hw⟩ := hw
          refine xb_some eb12 ?_
          obtain ⟨hk13, hw⟩ := hw
          refine xb_getP (C := R_StackModule) (T := F_StackModule) (N := 19) hx hb 2 4 hts fin_StackModule hown hR hk13 (by decide) rfl (by decide) rfl (hts _ m_74009c24) (fun _ h9 => h9) (xb_d D_Checker_checkElements 41 rfl) ?_
          obtain ⟨b14, eb14, hw⟩ := hw
          refine xb_some eb14 ?_
          obtain ⟨hk15, hw⟩ := hw
          refine xb_call (D := D) (A := A) (σ := σ) (h := h10) (d := 2) (mc := 0) (ms := 0) (maxL := 1) (rest := [.long r11]) (av := [.ref b14]) (fun T hT X => by obtain ⟨cb, r1, r2, r3⟩ := xb_recv (ci := 1) hR rfl hk15 (by decide); exact xt_invV X hx hown (hts _ m_c8b950b4) (hts _ m_ded65609) (hts _ m_a4161156) (xt_sigOf (hts _ m_83ba3721)) nm_Row_lines (by rw [hT]; exact r1) r2 r3 (g := F0 m 77 ls [.ref b14, .long r11]) rfl (argsL := []) (rest := [.long r11]) rfl rfl (by rw [hb]; exact (xb_d D_Checker_checkElements 42 rfl))) (ok_Row_lines l hfl D A σ b14 h10 _ hw) (hml.trans hl.1.symm) (by rw [hb]; exact (xb_d D_Checker_checkElements 42 rfl)) (Nat.le_of_ble_eq_true rfl) (Nat.le_of_ble_eq_true rfl) (Nat.le_of_ble_eq_true rfl) (show k + 0 ≤ MC by omega) (show n + 0 ≤ MS by omega) (xt_w1 hB.1 m_83ba3721) (xt_cdOf hB.1 m_83ba3721) (hts _ m_c1bef504) hB hR hS hA (fun vv h16 H locs hq hEh16 hR hS => ?_) (fun XX ax h16 H locs hq hEh16 hex hR hS => ?_)
          · obtain ⟨r17, rfl, hw⟩ := hq
            have hw := hw hEh16
            have hE := hE.tr hEh16
            refine W.eq (g2 := F0 m 80 ls [.int r17, .long r11]) rfl ?_
            refine xb_call (D := D) (A := A) (σ := σ) (h := h16) (d := 2) (mc := 0) (ms := 0) (maxL := 3) (rest := []) (av := [.long r11, .int r17]) (fun T hT X => xt_invS X hx hown (hts _ m_fe08b245) (hts _ m_9ad1e0af) (hts _ m_44748ce5) (xt_sgS (hts _ m_2237aee6)).1 (xt_sgS (hts _ m_2237aee6)).2 nm_Checker_isThere (g := F0 m 80 ls [.int r17, .long r11]) rfl (argsL := [.long r11, .int r17]) (rest := []) rfl rfl (by rw [hb]; exact (xb_d D_Checker_checkElements 43 rfl))) (ok_Checker_isThere l hfl D A σ r11 r17 h16 _ hw) (hml.trans hl.1.symm) (by rw [hb]; exact (xb_d D_Checker_checkElements 43 rfl)) (Nat.le_of_ble_eq_true rfl) (Nat.le_of_ble_eq_true rfl) (Nat.le_of_ble_eq_true rfl) (show k + 0 ≤ MC by omega) (show n + 0 ≤ MS by omega) (xt_w1 hB.1 m_2237aee6) (xt_cdOf hB.1 m_2237aee6) (hts _ m_44748ce5) hB hR hS hA (fun vv h18 H locs hq hEh18 hR hS => ?_) (fun XX ax h18 H locs hq hEh18 hex hR hS => ?_)
            · obtain ⟨r19, rfl, hw⟩ := hq
              have hw := hw hEh18
              have hE := hE.tr hEh18
              refine W.eq (g2 := F0 m 83 ls [.int r19]) rfl ?_
              refine lv_if_ne (tgt := 110) hx hb (xb_d D_Checker_checkElements 44 rfl) rfl (fun hc20 => ?_) (fun hc20 => ?_)
              · have hw := hw.1 hc20
                exact am_Checker_checkElements_L110 l hfl D A σ MC MS h0 Qr Qt K10 hK10 (w_Checker_checkElements_L44 K10 Qr Qt n9) ih x0 x1 x2 x3 x4 h18 bc bs hw p e s m args below meth c hC H locs ls k n hE (lv_sub hl [0, 1, 2, 3, 4] rfl) hR hS (by omega) (by omega)
              · have hw := hw.2 hc20
                refine lv_aload_n hx hb (xb_d D_Checker_checkElements 45 rfl) rfl (lv_at hl 0 rfl) ?_
                have hk5 : xb_k h16 x0 = 5 := hEh16.k hk5
                have hk5 : xb_k h18 x0 = 5 := hEh18.k hk5
                refine xb_getP (C := R_Checker) (T := F_Checker) (N := 17) hx hb 4 0 hts fin_Checker hown hR hk5 (by decide) rfl (by decide) rfl (hts _ m_070795bc) (fun _ h9 => h9) (xb_d D_Checker_checkElements 46 rfl) ?_
                obtain ⟨b21, eb21, hw⟩ := hw
                refine xb_some eb21 ?_
                refine lv_bipush (v := 20) hx hb (xb_d D_Checker_checkElements 47 rfl) (by decide) ?_
                refine lv_aload_n hx hb (xb_d D_Checker_checkElements 48 rfl) rfl (lv_at hl 0 rfl) ?_
                refine xb_getP (C := R_Checker) (T := F_Checker) (N := 17) hx hb 4 0 hts fin_Checker hown hR hk5 (by decide) rfl (by decide) rfl (hts _ m_070795bc) (fun _ h9 => h9) (xb_d D_Checker_checkElements 49 rfl) ?_
                obtain ⟨b22, eb22, hw⟩ := hw
                refine xb_some eb22 ?_
                obtain ⟨hk23, hw⟩ := hw
                refine xb_getP (C := R_StackModule) (T := F_StackModule) (N := 19) hx hb 2 10 hts fin_StackModule hown hR hk23 (by decide) rfl (by decide) rfl (hts _ m_2aee5408) (fun _ h9 => h9) (xb_d D_Checker_checkElements 50 rfl) ?_
                obtain ⟨b24, eb24, hw⟩ := hw
                refine xb_some eb24 ?_
                refine lv_iload_n hx hb (xb_d D_Checker_checkElements 51 rfl) rfl (lv_at hl 3 rfl) ?_
                refine lv_iload hx hb (xb_d D_Checker_checkElements 52 rfl) (lv_at hl 4 rfl) ?_
                refine lv_iadd hx hb (xb_d D_Checker_checkElements 53 rfl) ?_
                refine lv_iconst (v := 0) hx hb (xb_d D_Checker_checkElements 54 rfl) (by decide) ?_
                obtain ⟨hk25, hw⟩ := hw
                refine xb_call (D := D) (A := A) (σ := σ) (h := h18) (d := 2) (mc := 0) (ms := 0) (maxL := 3) (rest := [.int 20, .ref b21]) (av := [.ref b24, .int (x3 + x4), .int 0]) (fun T hT X => by obtain ⟨cb, r1, r2, r3⟩ := xb_recv (ci := 1) hR rfl hk25 (by decide); exact xt_invV X hx hown (hts _ m_068feb96) (hts _ m_8e233096) (hts _ m_27eed10c) (xt_sigOf (hts _ m_ff1c70ae)) nm_Row_at (by rw [hT]; exact r1) r2 r3 (g := F0 m 104 ls [.int 0, .int (x3 + x4), .ref b24, .int 20, .ref b21]) rfl (argsL := [.int (x3 + x4), .int 0]) (rest := [.int 20, .ref b21]) rfl rfl (by rw [hb]; exact (xb_d D_Checker_checkElements 55 rfl))) (ok_Row_at l hfl D A σ b24 (x3 + x4) 0 h18 _ hw) (hml.trans hl.1.symm) (by rw [hb]; exact (xb_d D_Checker_checkElements 55 rfl)) (Nat.le_of_ble_eq_true rfl) (Nat.le_of_ble_eq_true rfl) (Nat.le_of_ble_eq_true rfl) (show k + 0 ≤ MC by omega) (show n + 0 ≤ MS by omega) (xt_w1 hB.1 m_ff1c70ae) (xt_cdOf hB.1 m_ff1c70ae) (hts _ m_c1bef504) hB hR hS hA (fun vv h26 H locs hq hEh26 hR hS => ?_) (fun XX ax h26 H locs hq hEh26 hex hR hS => ?_)
                · obtain ⟨r27, rfl, hw⟩ := hq
                  have hw := hw hEh26
                  have hE := hE.tr hEh26
                  refine W.eq (g2 := F0 m 107 ls [.int r27, .int 20, .ref b21]) rfl ?_
                  obtain ⟨hk28, hw⟩ := hw
                  obtain ⟨c31, sc31, hlc31, hlsc31, hw⟩ := hw
                  refine xb_call (D := D) (A := A) (σ := σ) (h := h26) (d := 2) (mc := c31) (ms := sc31) (maxL := 3) (rest := []) (av := [.ref b21, .int 20, .int r27]) (fun T hT X => by obtain ⟨cb, r1, r2, r3⟩ := xb_recv (ci := 2) hR rfl hk28 (by decide); exact xt_invV X hx hown (hts _ m_1d37521a) (hts _ m_865d5b07) (hts _ m_113f8f75) (xt_sigOf (hts _ m_73e65e5f)) nm_StackModule_fail (by rw [hT]; exact r1) r2 r3 (g := F0 m 107 ls [.int r27, .int 20, .ref b21]) rfl (argsL := [.int 20, .int r27]) (rest := []) rfl rfl (by rw [hb]; exact (xb_d D_Checker_checkElements 56 rfl))) (ok_StackModule_fail l hfl D A σ b21 20 r27 h26 c31 sc31 _ _ hw) (hml.trans hl.1.symm) (by rw [hb]; exact (xb_d D_Checker_checkElements 56 rfl)) (Nat.le_of_ble_eq_true rfl) (Nat.le_of_ble_eq_true rfl) (Nat.le_of_ble_eq_true rfl) (show k + c31 ≤ MC by omega) (show n + sc31 ≤ MS by omega) (xt_w1 hB.1 m_73e65e5f) (xt_cdOf hB.1 m_73e65e5f) (hts _ m_9c375545) hB hR hS hA (fun vv h29 H locs hq hEh29 hR hS => ?_) (fun XX ax h29 H locs hq hEh29 hex hR hS => ?_)
                  · obtain ⟨rfl, hw⟩ := hq
                    have hw := hw hEh29
                    have hE := hE.tr hEh29
                    refine W.eq (g2 := F0 m 110 ls []) rfl ?_
                    exact am_Checker_checkElements_L110 l hfl D A σ MC MS h0 Qr Qt K10 hK10 (w_Checker_checkElements_L44 K10 Qr Qt n9) ih x0 x1 x2 x3 x4 h29 (bc - c31) (bs - sc31) hw p e s m args below meth c hC H locs ls (k + c31) (n + sc31) hE (lv_sub hl [0, 1, 2, 3, 4] rfl) hR hS (by omega) (by omega)
                  · exact xb_pass hlocks (fun x hx9 => by rw [htab] at hx9; first | cases hx9 | (simp [tableOf] at hx9; rcases hx9 with rfl | rfl | rfl <;> decide)) (show (k + c31) ≤ MC by omega) (show (n + sc31) ≤ MS by omega) (hE.tr hEh29) hR hS hex hq
                · exact False.elim hq
            · exact False.elim hq
          · exact False.elim hq
        · exact False.elim hq
    · exact False.elim hq

set_option maxHeartbeats 4000000 in
set_option maxRecDepth 100000 in
theorem am_Checker_checkElements_L10 (l : Launch) (hfl : l.flags = pinnedFlags ++ [noTraceFlag]) (D : va_G) (A : Nat → Prop) (σ MC MS : Nat) (h0 : xb_H) (Qr : xb_H → Prop) (Qt : String → xb_H → Prop) (n9 : Nat) : ∀ (x0 : Nat) (x1 : Nat) (x2 : Int32) (h : xb_H) (bc : Nat) (bs : Nat), w_Checker_checkElements_L10 Qr Qt n9 x0 x1 x2 h bc bs → xb_am l D A σ 5 MC MS h0 (fun v h => v = none ∧ Qr h) Qt y_Checker_checkElements.cls y_Checker_checkElements.name b_Checker_checkElements 5 ([] : List ExceptionTableEntry) none 10 [(0, .ref x0), (1, .ref x1), (2, .int x2)] [] h bc bs := by
  induction n9 with
  | zero => intro x0 x1 x2 h bc bs hw; exact False.elim hw
  | succ n9 ih =>
    intro x0 x1 x2 h bc bs hw
    unfold w_Checker_checkElements_L10 at hw
    intro p e s m args below meth c hC H locs ls k n hE hl hR hS hk hn
    obtain ⟨hx, hb, hown, hlocks, htab, hml, hr, hB, hA, hnm⟩ := id hC
    have hts := hB.1.1.at args
    refine lv_iload_n hx hb (xb_d D_Checker_checkElements 6 rfl) rfl (lv_at hl 2 rfl) ?_
    refine lv_aload_n hx hb (xb_d D_Checker_checkElements 7 rfl) rfl (lv_at hl 1 rfl) ?_
    obtain ⟨hk1, hw⟩ := hw
    refine xb_call (D := D) (A := A) (σ := σ) (h := h) (d := 2) (mc := 0) (ms := 0) (maxL := 1) (rest := [.int x2]) (av := [.ref x1]) (fun T hT X => by obtain ⟨cb, r1, r2, r3⟩ := xb_recv (ci := 1) hR rfl hk1 (by decide); exact xt_invV X hx hown (hts _ m_c8b950b4) (hts _ m_ded65609) (hts _ m_a4161156) (xt_sigOf (hts _ m_83ba3721)) nm_Row_lines (by rw [hT]; exact r1) r2 r3 (g := F0 m 12 ls [.ref x1, .int x2]) rfl (argsL := []) (rest := [.int x2]) rfl rfl (by rw [hb]; exact (xb_d D_Checker_checkElements 8 rfl))) (ok_Row_lines l hfl D A σ x1 h _ hw) (hml.trans hl.1.symm) (by rw [hb]; exact (xb_d D_Checker_checkElements 8 rfl)) (Nat.le_of_ble_eq_true rfl) (Nat.le_of_ble_eq_true rfl) (Nat.le_of_ble_eq_true rfl) (show k + 0 ≤ MC by omega) (show n + 0 ≤ MS by omega) (xt_w1 hB.1 m_83ba3721) (xt_cdOf hB.1 m_83ba3721) (hts _ m_c1bef504) hB hR hS hA (fun vv h2 H locs hq hEh2 hR hS => ?_) (fun XX ax h2 H locs hq hEh2 hex hR hS => ?_)
    · obtain ⟨r3, rfl, hw⟩ := hq
      have hw := hw hEh2
      have hE := hE.tr hEh2
      refine W.eq (g2 := F0 m 15 ls [.int r3, .int x2]) rfl ?_
      refine lv_icmp_ge (tgt := 122) hx hb (xb_d D_Checker_checkElements 9 rfl) rfl (fun hc4 => ?_) (fun hc4 => ?_)
      · have hw := hw.1 hc4
        exact xb_vret hx hb hr hlocks (show k ≤ MC by omega) (show n ≤ MS by omega) hE hR hS (xb_d D_Checker_checkElements 61 rfl) hw
      · have hw := hw.2 hc4
        refine lv_aload_n hx hb (xb_d D_Checker_checkElements 10 rfl) rfl (lv_at hl 0 rfl) ?_
        refine lv_aload_n hx hb (xb_d D_Checker_checkElements 11 rfl) rfl (lv_at hl 1 rfl) ?_
        refine lv_iload_n hx hb (xb_d D_Checker_checkElements 12 rfl) rfl (lv_at hl 2 rfl) ?_
        refine lv_aload_n hx hb (xb_d D_Checker_checkElements 13 rfl) rfl (lv_at hl 0 rfl) ?_
        obtain ⟨hk5, hw⟩ := hw
        refine xb_getP (C := R_Checker) (T := F_Checker) (N := 17) hx hb 4 0 hts fin_Checker hown hR hk5 (by decide) rfl (by decide) rfl (hts _ m_070795bc) (fun _ h9 => h9) (xb_d D_Checker_checkElements 14 rfl) ?_
        obtain ⟨b6, eb6, hw⟩ := hw
        refine xb_some eb6 ?_
        obtain ⟨hk7, hw⟩ := hw
        refine xb_getP (C := R_StackModule) (T := F_StackModule) (N := 19) hx hb 2 5 hts fin_StackModule hown hR hk7 (by decide) rfl (by decide) rfl (hts _ m_81589b2f) (fun _ h9 => h9) (xb_d D_Checker_checkElements 15 rfl) ?_
        obtain ⟨b8, eb8, hw⟩ := hw
        refine xb_some eb8 ?_
        obtain ⟨hk9, hw⟩ := hw
        refine xb_call (D := D) (A := A) (σ := σ) (h := h2) (d := 2) (mc := 0) (ms := 0) (maxL := 1) (rest := [.int x2, .ref x1, .ref x0]) (av := [.ref b8]) (fun T hT X => by obtain ⟨cb, r1, r2, r3⟩ := xb_recv (ci := 1) hR rfl hk9 (by decide); exact xt_invV X hx hown (hts _ m_c8b950b4) (hts _ m_ded65609) (hts _ m_a4161156) (xt_sigOf (hts _ m_83ba3721)) nm_Row_lines (by rw [hT]; exact r1) r2 r3 (g := F0 m 28 ls [.ref b8, .int x2, .ref x1, .ref x0]) rfl (argsL := []) (rest := [.int x2, .ref x1, .ref x0]) rfl rfl (by rw [hb]; exact (xb_d D_Checker_checkElements 16 rfl))) (ok_Row_lines l hfl D A σ b8 h2 _ hw) (hml.trans hl.1.symm) (by rw [hb]; exact (xb_d D_Checker_checkElements 16 rfl)) (Nat.le_of_ble_eq_true rfl) (Nat.le_of_ble_eq_true rfl) (Nat.le_of_ble_eq_true rfl) (show k + 0 ≤ MC by omega) (show n + 0 ≤ MS by omega) (xt_w1 hB.1 m_83ba3721) (xt_cdOf hB.1 m_83ba3721) (hts _ m_c1bef504) hB hR hS hA (fun vv h10 H locs hq hEh10 hR hS => ?_) (fun XX ax h10 H locs hq hEh10 hex hR hS => ?_)
        · obtain ⟨r11, rfl, hw⟩ := hq
          have hw := hw hEh10
          have hE := hE.tr hEh10
          refine W.eq (g2 := F0 m 31 ls [.int r11, .int x2, .ref x1, .ref x0]) rfl ?_
          have hk5 : xb_k h10 x0 = 5 := hEh10.k hk5
          obtain ⟨c14, sc14, hlc14, hlsc14, hw⟩ := hw
          refine xb_call (D := D) (A := A) (σ := σ) (h := h10) (d := 4) (mc := c14) (ms := sc14) (maxL := 4) (rest := []) (av := [.ref x0, .ref x1, .int x2, .int r11]) (fun T hT X => by obtain ⟨cb, r1, r2, r3⟩ := xb_recv (ci := 4) hR rfl hk5 (by decide); exact xt_invV X hx hown (hts _ m_0ca8f09c) (hts _ m_08a9bc84) (hts _ m_d0965882) (xt_sigOf (hts _ m_707441d7)) nm_Checker_checkOffset (by rw [hT]; exact r1) r2 r3 (g := F0 m 31 ls [.int r11, .int x2, .ref x1, .ref x0]) rfl (argsL := [.ref x1, .int x2, .int r11]) (rest := []) rfl rfl (by rw [hb]; exact (xb_d D_Checker_checkElements 17 rfl))) (ok_Checker_checkOffset l hfl D A σ x0 x1 x2 r11 h10 c14 sc14 _ _ hw) (hml.trans hl.1.symm) (by rw [hb]; exact (xb_d D_Checker_checkElements 17 rfl)) (Nat.le_of_ble_eq_true rfl) (Nat.le_of_ble_eq_true rfl) (Nat.le_of_ble_eq_true rfl) (show k + c14 ≤ MC by omega) (show n + sc14 ≤ MS by omega) (xt_w1 hB.1 m_707441d7) (xt_cdOf hB.1 m_707441d7) (hts _ m_44748ce5) hB hR hS hA (fun vv h12 H locs hq hEh12 hR hS => ?_) (fun XX ax h12 H locs hq hEh12 hex hR hS => ?_)
          · obtain ⟨rfl, hw⟩ := hq
            have hw := hw hEh12
            have hE := hE.tr hEh12
            refine W.eq (g2 := F0 m 34 ls []) rfl ?_
            refine lv_aload_n hx hb (xb_d D_Checker_checkElements 18 rfl) rfl (lv_at hl 1 rfl) ?_
            refine lv_iload_n hx hb (xb_d D_Checker_checkElements 19 rfl) rfl (lv_at hl 2 rfl) ?_
            refine lv_iconst (v := 3) hx hb (xb_d D_Checker_checkElements 20 rfl) (by decide) ?_
            have hk1 : xb_k h2 x1 = 2 := hEh2.k hk1
            have hk1 : xb_k h10 x1 = 2 := hEh10.k hk1
            have hk1 : xb_k h12 x1 = 2 := hEh12.k hk1
            refine xb_call (D := D) (A := A) (σ := σ) (h := h12) (d := 2) (mc := 0) (ms := 0) (maxL := 3) (rest := []) (av := [.ref x1, .int x2, .int 3]) (fun T hT X => by obtain ⟨cb, r1, r2, r3⟩ := xb_recv (ci := 1) hR rfl hk1 (by decide); exact xt_invV X hx hown (hts _ m_068feb96) (hts _ m_8e233096) (hts _ m_27eed10c) (xt_sigOf (hts _ m_ff1c70ae)) nm_Row_at (by rw [hT]; exact r1) r2 r3 (g := F0 m 37 ls [.int 3, .int x2, .ref x1]) rfl (argsL := [.int x2, .int 3]) (rest := []) rfl rfl (by rw [hb]; exact (xb_d D_Checker_checkElements 21 rfl))) (ok_Row_at l hfl D A σ x1 x2 3 h12 _ hw) (hml.trans hl.1.symm) (by rw [hb]; exact (xb_d D_Checker_checkElements 21 rfl)) (Nat.le_of_ble_eq_true rfl) (Nat.le_of_ble_eq_true rfl) (Nat.le_of_ble_eq_true rfl) (show (k + c14) + 0 ≤ MC by omega) (show (n + sc14) + 0 ≤ MS by omega) (xt_w1 hB.1 m_ff1c70ae) (xt_cdOf hB.1 m_ff1c70ae) (hts _ m_c1bef504) hB hR hS hA (fun vv h15 H locs hq hEh15 hR hS => ?_) (fun XX ax h15 H locs hq hEh15 hex hR hS => ?_)
            · obtain ⟨r16, rfl, hw⟩ := hq
              have hw := hw hEh15
              have hE := hE.tr hEh15
              refine W.eq (g2 := F0 m 40 ls [.int r16]) rfl ?_
              refine lv_istore_n hx hb (xb_d D_Checker_checkElements 22 rfl) rfl hl (by decide) rfl (fun ls hl => ?_)
              have hl : lv_has ls 5 [(3, .int r16), (0, .ref x0), (1, .ref x1), (2, .int x2)] := hl
              refine lv_iconst (v := 0) hx hb (xb_d D_Checker_checkElements 23 rfl) (by decide) ?_
              refine lv_istore hx hb (xb_d D_Checker_checkElements 24 rfl) hl (by decide) rfl (fun ls hl => ?_)
              have hl : lv_has ls 5 [(4, .int 0), (3, .int r16), (0, .ref x0), (1, .ref x1), (2, .int x2)] := hl
              obtain ⟨n8, hw⟩ := hw
              exact am_Checker_checkElements_L44 l hfl D A σ MC MS h0 Qr Qt (w_Checker_checkElements_L10 Qr Qt n9) ih n8 x0 x1 x2 r16 0 h15 (bc - c14) (bs - sc14) hw p e s m args below meth c hC H locs ls (k + c14) (n + sc14) hE (lv_sub hl [2, 3, 4, 1, 0] rfl) hR hS (by omega) (by omega)
            · exact False.elim hq
          · exact xb_pass hlocks (fun x hx9 => by rw [htab] at hx9; first | cases hx9 | (simp [tableOf] at hx9; rcases hx9 with rfl | rfl | rfl <;> decide)) (show (k + c14) ≤ MC by omega) (show (n + sc14) ≤ MS by omega) (hE.tr hEh12) hR hS hex hq
        · exact False.elim hq
    · exact False.elim hq

set_option maxHeartbeats 4000000 in
set_option maxRecDepth 100000 in
theorem ok_Checker_checkElements (l : Launch) (hfl : l.flags = pinnedFlags ++ [noTraceFlag]) (D : va_G) (A : Nat → Prop) (σ : Nat) (x0 : Nat) (h : xb_H) (bc : Nat) (bs : Nat) (Qr : xb_H → Prop) (Qt : String → xb_H → Prop) (hw : w_Checker_checkElements x0 h bc bs Qr Qt) : xt_Met l y_Checker_checkElements [.code y_Checker_checkElements b_Checker_checkElements 5 none] (xb_rm 5 bc bs) (xb_Pc D A σ h [.ref x0]) (xb_Qc D A h (fun v h => v = none ∧ Qr h) Qt) bc bs A := by
  refine xb_ofAm (cc := b_Checker_checkElements) (by decide) (Nat.le_of_ble_eq_true rfl) ?_
  unfold w_Checker_checkElements at hw
  show xb_am l D A σ 5 bc bs h (fun v h => v = none ∧ Qr h) Qt y_Checker_checkElements.cls y_Checker_checkElements.name b_Checker_checkElements 5 ([] : List ExceptionTableEntry) none 0 [(0, .ref x0)] [] h bc bs
  obtain ⟨MC, hMC⟩ : ∃ x, x = bc := ⟨_, rfl⟩
  obtain ⟨MS, hMS⟩ : ∃ x, x = bs := ⟨_, rfl⟩
  rw [show xb_am l D A σ 5 bc bs = xb_am l D A σ 5 MC MS by rw [hMC, hMS]]
  obtain ⟨h0, hh0⟩ : ∃ x, x = h := ⟨_, rfl⟩
  rw [show xb_am l D A σ 5 MC MS h = xb_am l D A σ 5 MC MS h0 by rw [hh0]]
  intro p e s m args below meth c hC H locs ls k n hE hl hR hS hk hn
  obtain ⟨hx, hb, hown, hlocks, htab, hml, hr, hB, hA, hnm⟩ := id hC
  have hts := hB.1.1.at args
  refine lv_aload_n hx hb (xb_d D_Checker_checkElements 0 rfl) rfl (lv_at hl 0 rfl) ?_
  obtain ⟨hk1, hw⟩ := hw
  refine xb_getP (C := R_Checker) (T := F_Checker) (N := 17) hx hb 4 0 hts fin_Checker hown hR hk1 (by decide) rfl (by decide) rfl (hts _ m_070795bc) (fun _ h9 => h9) (xb_d D_Checker_checkElements 1 rfl) ?_
  obtain ⟨b2, eb2, hw⟩ := hw
  refine xb_some eb2 ?_
  obtain ⟨hk3, hw⟩ := hw
  refine xb_getP (C := R_StackModule) (T := F_StackModule) (N := 19) hx hb 2 9 hts fin_StackModule hown hR hk3 (by decide) rfl (by decide) rfl (hts _ m_61dca033) (fun _ h9 => h9) (xb_d D_Checker_checkElements 2 rfl) ?_
  obtain ⟨b4, eb4, hw⟩ := hw
  refine xb_some eb4 ?_
  refine lv_astore_n hx hb (xb_d D_Checker_checkElements 3 rfl) rfl hl (by decide) rfl (fun ls hl => ?_)
  have hl : lv_has ls 5 [(1, .ref b4), (0, .ref x0)] := hl
  refine lv_iconst (v := 0) hx hb (xb_d D_Checker_checkElements 4 rfl) (by decide) ?_
  refine lv_istore_n hx hb (xb_d D_Checker_checkElements 5 rfl) rfl hl (by decide) rfl (fun ls hl => ?_)
  have hl : lv_has ls 5 [(2, .int 0), (1, .ref b4), (0, .ref x0)] := hl
  obtain ⟨n8, hw⟩ := hw
  exact am_Checker_checkElements_L10 l hfl D A σ MC MS h0 Qr Qt n8 x0 b4 0 h bc bs hw p e s m args below meth c hC H locs ls k n hE (lv_sub hl [2, 1, 0] rfl) hR hS (by omega) (by omega)

theorem m_40119955 : (.methodLink "StackHost$Format" 56 y_Format_root : Cond) ∈ xt_tbl := xt_in (xt_t8 (List.mem_of_getElem? (i := 94) (by decide +kernel))) (by decide +kernel)
theorem m_b3504f0f : (.instanceMethod y_Format_root : Cond) ∈ xt_tbl := xt_in (xt_t8 (List.mem_of_getElem? (i := 96) (by decide +kernel))) (by decide +kernel)
theorem m_ac885d41 : (.selects "StackHost$Format" y_Format_root y_Format_root : Cond) ∈ xt_tbl := xt_in (xt_v7 (q := (⟨"StackHost$Format", "root", "(J)J"⟩, 5)) (List.mem_of_getElem? (i := 11) (by decide +kernel))) (by decide +kernel)
theorem m_907d0fde : (.code y_Format_root b_Format_root 13 (some .long) : Cond) ∈ xt_tbl := xt_in (xt_t8 (List.mem_of_getElem? (i := 97) (by decide +kernel))) (by decide +kernel)
theorem m_2aab6dc4 : (.methodLink "StackHost$Format" 59 y_Format_rounded : Cond) ∈ xt_tbl := xt_in (xt_t8 (List.mem_of_getElem? (i := 98) (by decide +kernel))) (by decide +kernel)
theorem m_bf2824a5 : (.instanceMethod y_Format_rounded : Cond) ∈ xt_tbl := xt_in (xt_t8 (List.mem_of_getElem? (i := 100) (by decide +kernel))) (by decide +kernel)
theorem m_a2fad9e7 : (.selects "StackHost$Format" y_Format_rounded y_Format_rounded : Cond) ∈ xt_tbl := xt_in (xt_v7 (q := (⟨"StackHost$Format", "rounded", "(IJ)J"⟩, 5)) (List.mem_of_getElem? (i := 12) (by decide +kernel))) (by decide +kernel)
theorem m_c8735f22 : (.code y_Format_rounded b_Format_rounded 17 (some .long) : Cond) ∈ xt_tbl := xt_in (xt_t8 (List.mem_of_getElem? (i := 101) (by decide +kernel))) (by decide +kernel)
theorem nm_Format_root : xt_nm y_Format_root 1 := ⟨by decide +kernel, by decide +kernel⟩
theorem nm_Format_rounded : xt_nm y_Format_rounded 2 := ⟨by decide +kernel, by decide +kernel⟩
set_option maxRecDepth 100000 in
def T_Format_reckonOne : List (Nat × Instr × Nat) := [(0, .iload_n 1, 1), (1, .lookupswitch 54 #[(0, 35), (1, 41), (6, 48)], 35), (36, .aload_n 0, 1), (37, .lload_n 2, 1), (38, .invokevirtual 53, 3), (41, .lreturn, 1), (42, .lload_n 2, 1), (43, .aload_n 0, 1), (44, .getfield 18, 3), (47, .lxor, 1), (48, .lreturn, 1), (49, .aload_n 0, 1), (50, .lload_n 2, 1), (51, .invokevirtual 56, 3), (54, .lreturn, 1), (55, .aload_n 0, 1), (56, .lload_n 2, 1), (57, .invokevirtual 42, 3), (60, .ifCond .eq 10, 3), (63, .aload_n 0, 1), (64, .getfield 27, 3), (67, .goto 9, 3), (70, .aload_n 0, 1), (71, .iload_n 1, 1), (72, .lload_n 2, 1), (73, .invokevirtual 59, 3), (76, .lreturn, 1)]
theorem D_Format_reckonOne : ∀ q ∈ T_Format_reckonOne, decode b_Format_reckonOne q.1 = .ok (q.2.1, q.2.2) := by decide +kernel
def w_Format_reckonOne_L76 (Qr : Int64 → xb_H → Prop) (y0 : Int64) (h : xb_H) : Prop :=
    Qr y0 h

def w_Format_reckonOne (x0 : Nat) (x1 : Int32) (x2 : Int64) (h : xb_H) (Qr : Int64 → xb_H → Prop) : Prop :=
    ((x1 = 0 → xb_k h x0 = 6 ∧ w_Format_magnitude x0 x2 h (fun (r4 : Int64) (h3 : xb_H) => xb_ext h h3 → Qr r4 h3)) ∧ (x1 = 1 → xb_k h x0 = 6 ∧ Qr (x2 ^^^ (xb_l h x0 2)) h) ∧ (x1 = 6 → xb_k h x0 = 6 ∧ w_Format_root x0 x2 h (fun (r10 : Int64) (h9 : xb_H) => xb_ext h h9 → Qr r10 h9)) ∧ (¬ x1 = 0 → ¬ x1 = 1 → ¬ x1 = 6 → xb_k h x0 = 6 ∧ w_Format_isNan x0 x2 h (fun (r13 : Int32) (h12 : xb_H) => xb_ext h h12 → ((r13 = (0 : Int32) → w_Format_rounded x0 x1 x2 h12 (fun (r16 : Int64) (h15 : xb_H) => xb_ext h12 h15 → w_Format_reckonOne_L76 Qr r16 h15)) ∧ (¬ r13 = (0 : Int32) → w_Format_reckonOne_L76 Qr (xb_l h12 x0 4) h12)))))

set_option maxHeartbeats 4000000 in
set_option maxRecDepth 100000 in
theorem am_Format_reckonOne_L76 (l : Launch) (hfl : l.flags = pinnedFlags ++ [noTraceFlag]) (D : va_G) (A : Nat → Prop) (σ MC MS : Nat) (h0 : xb_H) (Qr : Int64 → xb_H → Prop) (y0 : Int64) (h : xb_H) (hw : w_Format_reckonOne_L76 Qr y0 h) : xb_am l D A σ 5 MC MS h0 (fun v h => ∃ r, v = some (.long r) ∧ Qr r h) (fun _ _ => False) y_Format_reckonOne.cls y_Format_reckonOne.name b_Format_reckonOne 4 ([] : List ExceptionTableEntry) (some .long) 76 [] [.long y0] h 0 0 := by
  unfold w_Format_reckonOne_L76 at hw
  intro p e s m args below meth c hC H locs ls k n hE hl hR hS hk hn
  obtain ⟨hx, hb, hown, hlocks, htab, hml, hr, hB, hA, hnm⟩ := id hC
  have hts := hB.1.1.at args
  exact xb_lret hx hb hr hlocks (show k ≤ MC by omega) (show n ≤ MS by omega) hE hR hS (xb_d D_Format_reckonOne 26 rfl) hw

set_option maxHeartbeats 4000000 in
set_option maxRecDepth 100000 in
theorem ok_Format_reckonOne (l : Launch) (hfl : l.flags = pinnedFlags ++ [noTraceFlag]) (D : va_G) (A : Nat → Prop) (σ : Nat) (x0 : Nat) (x1 : Int32) (x2 : Int64) (h : xb_H) (Qr : Int64 → xb_H → Prop) (hw : w_Format_reckonOne x0 x1 x2 h Qr) : xt_Met l y_Format_reckonOne [.code y_Format_reckonOne b_Format_reckonOne 4 (some .long)] (xb_rm 5 0 0) (xb_Pc D A σ h [.ref x0, .int x1, .long x2]) (xb_Qc D A h (fun v h => ∃ r, v = some (.long r) ∧ Qr r h) (fun _ _ => False)) 0 0 A := by
  refine xb_ofAm (cc := b_Format_reckonOne) (by decide) (Nat.le_of_ble_eq_true rfl) ?_
  unfold w_Format_reckonOne at hw
  show xb_am l D A σ 5 0 0 h (fun v h => ∃ r, v = some (.long r) ∧ Qr r h) (fun _ _ => False) y_Format_reckonOne.cls y_Format_reckonOne.name b_Format_reckonOne 4 ([] : List ExceptionTableEntry) (some .long) 0 [(0, .ref x0), (1, .int x1), (2, .long x2)] [] h 0 0
  obtain ⟨MC, hMC⟩ : ∃ x, x = 0 := ⟨_, rfl⟩
  obtain ⟨MS, hMS⟩ : ∃ x, x = 0 := ⟨_, rfl⟩
  rw [show xb_am l D A σ 5 0 0 = xb_am l D A σ 5 MC MS by rw [hMC, hMS]]
  obtain ⟨h0, hh0⟩ : ∃ x, x = h := ⟨_, rfl⟩
  rw [show xb_am l D A σ 5 MC MS h = xb_am l D A σ 5 MC MS h0 by rw [hh0]]
  intro p e s m args below meth c hC H locs ls k n hE hl hR hS hk hn
  obtain ⟨hx, hb, hown, hlocks, htab, hml, hr, hB, hA, hnm⟩ := id hC
  have hts := hB.1.1.at args
  refine lv_iload_n hx hb (xb_d D_Format_reckonOne 0 rfl) rfl (lv_at hl 1 rfl) ?_
  by_cases hc1 : x1 = 0
  · have hw := hw.1 hc1
    refine xt_numi hc1 ?_
    refine lv_lookup (off := 35) (tgt := 36) hx hb (xb_d D_Format_reckonOne 1 rfl) (by decide +kernel) (by decide +kernel) (by decide) ?_
    refine lv_aload_n hx hb (xb_d D_Format_reckonOne 2 rfl) rfl (lv_at hl 0 rfl) ?_
    refine lv_lload_n hx hb (xb_d D_Format_reckonOne 3 rfl) rfl (lv_at hl 2 rfl) ?_
    obtain ⟨hk2, hw⟩ := hw
    refine xb_call (D := D) (A := A) (σ := σ) (h := h) (d := 2) (mc := 0) (ms := 0) (maxL := 3) (rest := []) (av := [.ref x0, .long x2]) (fun T hT X => by obtain ⟨cb, r1, r2, r3⟩ := xb_recv (ci := 5) hR rfl hk2 (by decide); exact xt_invV X hx hown (hts _ m_d2fcf5e9) (hts _ m_9ed8050f) (hts _ m_945e3e7d) (xt_sigOf (hts _ m_08158875)) nm_Format_magnitude (by rw [hT]; exact r1) r2 r3 (g := F0 m 38 ls [.long x2, .ref x0]) rfl (argsL := [.long x2]) (rest := []) rfl rfl (by rw [hb]; exact (xb_d D_Format_reckonOne 4 rfl))) (ok_Format_magnitude l hfl D A σ x0 x2 h _ hw) (hml.trans hl.1.symm) (by rw [hb]; exact (xb_d D_Format_reckonOne 4 rfl)) (Nat.le_of_ble_eq_true rfl) (Nat.le_of_ble_eq_true rfl) (Nat.le_of_ble_eq_true rfl) (show k + 0 ≤ MC by omega) (show n + 0 ≤ MS by omega) (xt_w1 hB.1 m_08158875) (xt_cdOf hB.1 m_08158875) (hts _ m_64857de5) hB hR hS hA (fun vv h3 H locs hq hEh3 hR hS => ?_) (fun XX ax h3 H locs hq hEh3 hex hR hS => ?_)
    · obtain ⟨r4, rfl, hw⟩ := hq
      have hw := hw hEh3
      have hE := hE.tr hEh3
      refine W.eq (g2 := F0 m 41 ls [.long r4]) rfl ?_
      exact xb_lret hx hb hr hlocks (show k ≤ MC by omega) (show n ≤ MS by omega) hE hR hS (xb_d D_Format_reckonOne 5 rfl) hw
    · exact False.elim hq
  have hw := hw.2
  by_cases hc5 : x1 = 1
  · have hw := hw.1 hc5
    refine xt_numi hc5 ?_
    refine lv_lookup (off := 41) (tgt := 42) hx hb (xb_d D_Format_reckonOne 1 rfl) (by decide +kernel) (by decide +kernel) (by decide) ?_
    refine lv_lload_n hx hb (xb_d D_Format_reckonOne 6 rfl) rfl (lv_at hl 2 rfl) ?_
    refine lv_aload_n hx hb (xb_d D_Format_reckonOne 7 rfl) rfl (lv_at hl 0 rfl) ?_
    obtain ⟨hk6, hw⟩ := hw
    refine xb_getL (C := R_Format) (T := F_Format) (N := 5) hx hb 5 2 hts fin_Format hown hR hk6 (by decide) rfl (by decide) rfl (hts _ m_e3160854) (fun _ h9 => h9) (xb_d D_Format_reckonOne 8 rfl) ?_
    refine lv_lxor hx hb (xb_d D_Format_reckonOne 9 rfl) ?_
    exact xb_lret hx hb hr hlocks (show k ≤ MC by omega) (show n ≤ MS by omega) hE hR hS (xb_d D_Format_reckonOne 10 rfl) hw
  have hw := hw.2
  by_cases hc7 : x1 = 6
  · have hw := hw.1 hc7
    refine xt_numi hc7 ?_
    refine lv_lookup (off := 48) (tgt := 49) hx hb (xb_d D_Format_reckonOne 1 rfl) (by decide +kernel) (by decide +kernel) (by decide) ?_
    refine lv_aload_n hx hb (xb_d D_Format_reckonOne 11 rfl) rfl (lv_at hl 0 rfl) ?_
    refine lv_lload_n hx hb (xb_d D_Format_reckonOne 12 rfl) rfl (lv_at hl 2 rfl) ?_
    obtain ⟨hk8, hw⟩ := hw
    refine xb_call (D := D) (A := A) (σ := σ) (h := h) (d := 4) (mc := 0) (ms := 0) (maxL := 13) (rest := []) (av := [.ref x0, .long x2]) (fun T hT X => by obtain ⟨cb, r1, r2, r3⟩ := xb_recv (ci := 5) hR rfl hk8 (by decide); exact xt_invV X hx hown (hts _ m_40119955) (hts _ m_b3504f0f) (hts _ m_ac885d41) (xt_sigOf (hts _ m_907d0fde)) nm_Format_root (by rw [hT]; exact r1) r2 r3 (g := F0 m 51 ls [.long x2, .ref x0]) rfl (argsL := [.long x2]) (rest := []) rfl rfl (by rw [hb]; exact (xb_d D_Format_reckonOne 13 rfl))) (ok_Format_root l hfl D A σ x0 x2 h _ hw) (hml.trans hl.1.symm) (by rw [hb]; exact (xb_d D_Format_reckonOne 13 rfl)) (Nat.le_of_ble_eq_true rfl) (Nat.le_of_ble_eq_true rfl) (Nat.le_of_ble_eq_true rfl) (show k + 0 ≤ MC by omega) (show n + 0 ≤ MS by omega) (xt_w1 hB.1 m_907d0fde) (xt_cdOf hB.1 m_907d0fde) (hts _ m_64857de5) hB hR hS hA (fun vv h9 H locs hq hEh9 hR hS => ?_) (fun XX ax h9 H locs hq hEh9 hex hR hS => ?_)
    · obtain ⟨r10, rfl, hw⟩ := hq
      have hw := hw hEh9
      have hE := hE.tr hEh9
      refine W.eq (g2 := F0 m 54 ls [.long r10]) rfl ?_
      exact xb_lret hx hb hr hlocks (show k ≤ MC by omega) (show n ≤ MS by omega) hE hR hS (xb_d D_Format_reckonOne 14 rfl) hw
    · exact False.elim hq
  have hw := hw.2
  have hw := hw hc1 hc5 hc7
  refine lv_lookup (off := 54) (tgt := 55) hx hb (xb_d D_Format_reckonOne 1 rfl) (by decide +kernel) (by simp only [List.toList_toArray, Op.lookupswitch.offset_cons, Op.lookupswitch.offset_nil]; rw [if_neg (fun h9 => xb_nl (0) 0 (by decide) hc1 h9.symm), if_neg (fun h9 => xb_nl (1) 1 (by decide) hc5 h9.symm), if_neg (fun h9 => xb_nl (6) 6 (by decide) hc7 h9.symm)]) (by decide) ?_
  refine lv_aload_n hx hb (xb_d D_Format_reckonOne 15 rfl) rfl (lv_at hl 0 rfl) ?_
  refine lv_lload_n hx hb (xb_d D_Format_reckonOne 16 rfl) rfl (lv_at hl 2 rfl) ?_
  obtain ⟨hk11, hw⟩ := hw
  refine xb_call (D := D) (A := A) (σ := σ) (h := h) (d := 2) (mc := 0) (ms := 0) (maxL := 3) (rest := []) (av := [.ref x0, .long x2]) (fun T hT X => by obtain ⟨cb, r1, r2, r3⟩ := xb_recv (ci := 5) hR rfl hk11 (by decide); exact xt_invV X hx hown (hts _ m_e7d6b62e) (hts _ m_28f89ecd) (hts _ m_79f90d13) (xt_sigOf (hts _ m_2f81ed74)) nm_Format_isNan (by rw [hT]; exact r1) r2 r3 (g := F0 m 57 ls [.long x2, .ref x0]) rfl (argsL := [.long x2]) (rest := []) rfl rfl (by rw [hb]; exact (xb_d D_Format_reckonOne 17 rfl))) (ok_Format_isNan l hfl D A σ x0 x2 h _ hw) (hml.trans hl.1.symm) (by rw [hb]; exact (xb_d D_Format_reckonOne 17 rfl)) (Nat.le_of_ble_eq_true rfl) (Nat.le_of_ble_eq_true rfl) (Nat.le_of_ble_eq_true rfl) (show k + 0 ≤ MC by omega) (show n + 0 ≤ MS by omega) (xt_w1 hB.1 m_2f81ed74) (xt_cdOf hB.1 m_2f81ed74) (hts _ m_64857de5) hB hR hS hA (fun vv h12 H locs hq hEh12 hR hS => ?_) (fun XX ax h12 H locs hq hEh12 hex hR hS => ?_)
  · obtain ⟨r13, rfl, hw⟩ := hq
    have hw := hw hEh12
    have hE := hE.tr hEh12
    refine W.eq (g2 := F0 m 60 ls [.int r13]) rfl ?_
    refine lv_if_eq (tgt := 70) hx hb (xb_d D_Format_reckonOne 18 rfl) rfl (fun hc14 => ?_) (fun hc14 => ?_)
    · have hw := hw.1 hc14
      refine lv_aload_n hx hb (xb_d D_Format_reckonOne 22 rfl) rfl (lv_at hl 0 rfl) ?_
      refine lv_iload_n hx hb (xb_d D_Format_reckonOne 23 rfl) rfl (lv_at hl 1 rfl) ?_
      refine lv_lload_n hx hb (xb_d D_Format_reckonOne 24 rfl) rfl (lv_at hl 2 rfl) ?_
      have hk11 : xb_k h12 x0 = 6 := hEh12.k hk11
      refine xb_call (D := D) (A := A) (σ := σ) (h := h12) (d := 3) (mc := 0) (ms := 0) (maxL := 17) (rest := []) (av := [.ref x0, .int x1, .long x2]) (fun T hT X => by obtain ⟨cb, r1, r2, r3⟩ := xb_recv (ci := 5) hR rfl hk11 (by decide); exact xt_invV X hx hown (hts _ m_2aab6dc4) (hts _ m_bf2824a5) (hts _ m_a2fad9e7) (xt_sigOf (hts _ m_c8735f22)) nm_Format_rounded (by rw [hT]; exact r1) r2 r3 (g := F0 m 73 ls [.long x2, .int x1, .ref x0]) rfl (argsL := [.int x1, .long x2]) (rest := []) rfl rfl (by rw [hb]; exact (xb_d D_Format_reckonOne 25 rfl))) (ok_Format_rounded l hfl D A σ x0 x1 x2 h12 _ hw) (hml.trans hl.1.symm) (by rw [hb]; exact (xb_d D_Format_reckonOne 25 rfl)) (Nat.le_of_ble_eq_true rfl) (Nat.le_of_ble_eq_true rfl) (Nat.le_of_ble_eq_true rfl) (show k + 0 ≤ MC by omega) (show n + 0 ≤ MS by omega) (xt_w1 hB.1 m_c8735f22) (xt_cdOf hB.1 m_c8735f22) (hts _ m_64857de5) hB hR hS hA (fun vv h15 H locs hq hEh15 hR hS => ?_) (fun XX ax h15 H locs hq hEh15 hex hR hS => ?_)
      · obtain ⟨r16, rfl, hw⟩ := hq
        have hw := hw hEh15
        have hE := hE.tr hEh15
        refine W.eq (g2 := F0 m 76 ls [.long r16]) rfl ?_
        exact am_Format_reckonOne_L76 l hfl D A σ MC MS h0 Qr r16 h15 hw p e s m args below meth c hC H locs ls k n hE (lv_sub hl [] rfl) hR hS (by omega) (by omega)
      · exact False.elim hq
    · have hw := hw.2 hc14
      refine lv_aload_n hx hb (xb_d D_Format_reckonOne 19 rfl) rfl (lv_at hl 0 rfl) ?_
      have hk11 : xb_k h12 x0 = 6 := hEh12.k hk11
      refine xb_getL (C := R_Format) (T := F_Format) (N := 5) hx hb 5 4 hts fin_Format hown hR hk11 (by decide) rfl (by decide) rfl (hts _ m_291a6679) (fun _ h9 => h9) (xb_d D_Format_reckonOne 20 rfl) ?_
      refine lv_goto (tgt := 76) hx hb (xb_d D_Format_reckonOne 21 rfl) rfl ?_
      exact am_Format_reckonOne_L76 l hfl D A σ MC MS h0 Qr (xb_l h12 x0 4) h12 hw p e s m args below meth c hC H locs ls k n hE (lv_sub hl [] rfl) hR hS (by omega) (by omega)
  · exact False.elim hq

theorem m_ded25aeb : (.methodLink "StackHost$Format" 90 y_Format_sum : Cond) ∈ xt_tbl := xt_in (xt_t8 (List.mem_of_getElem? (i := 109) (by decide +kernel))) (by decide +kernel)
theorem m_8097a839 : (.instanceMethod y_Format_sum : Cond) ∈ xt_tbl := xt_in (xt_t8 (List.mem_of_getElem? (i := 111) (by decide +kernel))) (by decide +kernel)
theorem m_3fa0fe8b : (.selects "StackHost$Format" y_Format_sum y_Format_sum : Cond) ∈ xt_tbl := xt_in (xt_v7 (q := (⟨"StackHost$Format", "sum", "(JJ)J"⟩, 5)) (List.mem_of_getElem? (i := 13) (by decide +kernel))) (by decide +kernel)
theorem m_6dce137b : (.code y_Format_sum b_Format_sum 14 (some .long) : Cond) ∈ xt_tbl := xt_in (xt_t8 (List.mem_of_getElem? (i := 112) (by decide +kernel))) (by decide +kernel)
theorem m_b24dfaa2 : (.methodLink "StackHost$Format" 94 y_Format_product : Cond) ∈ xt_tbl := xt_in (xt_t8 (List.mem_of_getElem? (i := 120) (by decide +kernel))) (by decide +kernel)
theorem m_1a11e817 : (.instanceMethod y_Format_product : Cond) ∈ xt_tbl := xt_in (xt_t8 (List.mem_of_getElem? (i := 122) (by decide +kernel))) (by decide +kernel)
theorem m_21557c18 : (.selects "StackHost$Format" y_Format_product y_Format_product : Cond) ∈ xt_tbl := xt_in (xt_v7 (q := (⟨"StackHost$Format", "product", "(JJ)J"⟩, 5)) (List.mem_of_getElem? (i := 15) (by decide +kernel))) (by decide +kernel)
theorem m_c8fc43d7 : (.code y_Format_product b_Format_product 8 (some .long) : Cond) ∈ xt_tbl := xt_in (xt_t8 (List.mem_of_getElem? (i := 123) (by decide +kernel))) (by decide +kernel)
theorem m_edb2dfd6 : (.methodLink "StackHost$Format" 97 y_Format_quotient : Cond) ∈ xt_tbl := xt_in (xt_t8 (List.mem_of_getElem? (i := 128) (by decide +kernel))) (by decide +kernel)
theorem m_6d5522f0 : (.instanceMethod y_Format_quotient : Cond) ∈ xt_tbl := xt_in (xt_t8 (List.mem_of_getElem? (i := 130) (by decide +kernel))) (by decide +kernel)
theorem m_119e0a2c : (.selects "StackHost$Format" y_Format_quotient y_Format_quotient : Cond) ∈ xt_tbl := xt_in (xt_v8 (q := (⟨"StackHost$Format", "quotient", "(JJ)J"⟩, 5)) (List.mem_of_getElem? (i := 0) (by decide +kernel))) (by decide +kernel)
theorem m_a0ccade9 : (.code y_Format_quotient b_Format_quotient 13 (some .long) : Cond) ∈ xt_tbl := xt_in (xt_t8 (List.mem_of_getElem? (i := 131) (by decide +kernel))) (by decide +kernel)
theorem m_0afc78d6 : (.methodLink "StackHost$Format" 100 y_Format_lesser : Cond) ∈ xt_tbl := xt_in (xt_t8 (List.mem_of_getElem? (i := 132) (by decide +kernel))) (by decide +kernel)
theorem m_c57f952a : (.instanceMethod y_Format_lesser : Cond) ∈ xt_tbl := xt_in (xt_t8 (List.mem_of_getElem? (i := 134) (by decide +kernel))) (by decide +kernel)
theorem m_2d40ac3b : (.selects "StackHost$Format" y_Format_lesser y_Format_lesser : Cond) ∈ xt_tbl := xt_in (xt_v8 (q := (⟨"StackHost$Format", "lesser", "(JJ)J"⟩, 5)) (List.mem_of_getElem? (i := 1) (by decide +kernel))) (by decide +kernel)
theorem m_1d3bab40 : (.code y_Format_lesser b_Format_lesser 5 (some .long) : Cond) ∈ xt_tbl := xt_in (xt_t8 (List.mem_of_getElem? (i := 135) (by decide +kernel))) (by decide +kernel)
theorem m_86bdf6e5 : (.methodLink "StackHost$Format" 103 y_Format_greater : Cond) ∈ xt_tbl := xt_in (xt_t8 (List.mem_of_getElem? (i := 140) (by decide +kernel))) (by decide +kernel)
theorem m_b9510508 : (.instanceMethod y_Format_greater : Cond) ∈ xt_tbl := xt_in (xt_t8 (List.mem_of_getElem? (i := 142) (by decide +kernel))) (by decide +kernel)
theorem m_19603baa : (.selects "StackHost$Format" y_Format_greater y_Format_greater : Cond) ∈ xt_tbl := xt_in (xt_v8 (q := (⟨"StackHost$Format", "greater", "(JJ)J"⟩, 5)) (List.mem_of_getElem? (i := 3) (by decide +kernel))) (by decide +kernel)
theorem m_c4a9dc90 : (.code y_Format_greater b_Format_greater 5 (some .long) : Cond) ∈ xt_tbl := xt_in (xt_t8 (List.mem_of_getElem? (i := 143) (by decide +kernel))) (by decide +kernel)
theorem nm_Format_sum : xt_nm y_Format_sum 2 := ⟨by decide +kernel, by decide +kernel⟩
theorem nm_Format_product : xt_nm y_Format_product 2 := ⟨by decide +kernel, by decide +kernel⟩
theorem nm_Format_quotient : xt_nm y_Format_quotient 2 := ⟨by decide +kernel, by decide +kernel⟩
theorem nm_Format_lesser : xt_nm y_Format_lesser 2 := ⟨by decide +kernel, by decide +kernel⟩
theorem nm_Format_greater : xt_nm y_Format_greater 2 := ⟨by decide +kernel, by decide +kernel⟩
set_option maxRecDepth 100000 in
def T_Format_reckonTwo : List (Nat × Instr × Nat) := [(0, .iload_n 1, 1), (1, .bipush 6, 2), (3, .if_icmp .ne 17, 3), (6, .aload_n 0, 1), (7, .lload_n 2, 1), (8, .invokevirtual 53, 3), (11, .lload 4, 2), (13, .aload_n 0, 1), (14, .getfield 18, 3), (17, .land, 1), (18, .lor, 1), (19, .lreturn, 1), (20, .aload_n 0, 1), (21, .lload_n 2, 1), (22, .invokevirtual 42, 3), (25, .ifCond .ne 12, 3), (28, .aload_n 0, 1), (29, .lload 4, 2), (31, .invokevirtual 42, 3), (34, .ifCond .eq 8, 3), (37, .aload_n 0, 1), (38, .getfield 27, 3), (41, .lreturn, 1), (42, .iload_n 1, 1), (43, .tableswitch 78 0 4 #[33, 41, 54, 62, 70], 33), (76, .aload_n 0, 1), (77, .lload_n 2, 1), (78, .lload 4, 2), (80, .invokevirtual 90, 3), (83, .lreturn, 1), (84, .aload_n 0, 1), (85, .lload_n 2, 1), (86, .lload 4, 2), (88, .aload_n 0, 1), (89, .getfield 18, 3), (92, .lxor, 1), (93, .invokevirtual 90, 3), (96, .lreturn, 1), (97, .aload_n 0, 1), (98, .lload_n 2, 1), (99, .lload 4, 2), (101, .invokevirtual 94, 3), (104, .lreturn, 1), (105, .aload_n 0, 1), (106, .lload_n 2, 1), (107, .lload 4, 2), (109, .invokevirtual 97, 3), (112, .lreturn, 1), (113, .aload_n 0, 1), (114, .lload_n 2, 1), (115, .lload 4, 2), (117, .invokevirtual 100, 3), (120, .lreturn, 1), (121, .aload_n 0, 1), (122, .lload_n 2, 1), (123, .lload 4, 2), (125, .invokevirtual 103, 3), (128, .lreturn, 1)]
theorem D_Format_reckonTwo : ∀ q ∈ T_Format_reckonTwo, decode b_Format_reckonTwo q.1 = .ok (q.2.1, q.2.2) := by decide +kernel
def w_Format_reckonTwo_L37 (Qr : Int64 → xb_H → Prop) (x0 : Nat) (h : xb_H) : Prop :=
    xb_k h x0 = 6 ∧ Qr (xb_l h x0 4) h

def w_Format_reckonTwo (x0 : Nat) (x1 : Int32) (x2 : Int64) (x4 : Int64) (h : xb_H) (Qr : Int64 → xb_H → Prop) : Prop :=
    ((¬ x1 = (6 : Int32) → xb_k h x0 = 6 ∧ w_Format_isNan x0 x2 h (fun (r4 : Int32) (h3 : xb_H) => xb_ext h h3 → ((¬ r4 = (0 : Int32) → w_Format_reckonTwo_L37 Qr x0 h3) ∧ (r4 = (0 : Int32) → w_Format_isNan x0 x4 h3 (fun (r7 : Int32) (h6 : xb_H) => xb_ext h3 h6 → ((r7 = (0 : Int32) → ((x1 = 0 → w_Format_sum x0 x2 x4 h6 (fun (r11 : Int64) (h10 : xb_H) => xb_ext h6 h10 → Qr r11 h10)) ∧ (x1 = 1 → w_Format_sum x0 x2 (x4 ^^^ (xb_l h6 x0 2)) h6 (fun (r14 : Int64) (h13 : xb_H) => xb_ext h6 h13 → Qr r14 h13)) ∧ (x1 = 2 → w_Format_product x0 x2 x4 h6 (fun (r17 : Int64) (h16 : xb_H) => xb_ext h6 h16 → Qr r17 h16)) ∧ (x1 = 3 → w_Format_quotient x0 x2 x4 h6 (fun (r20 : Int64) (h19 : xb_H) => xb_ext h6 h19 → Qr r20 h19)) ∧ (x1 = 4 → w_Format_lesser x0 x2 x4 h6 (fun (r23 : Int64) (h22 : xb_H) => xb_ext h6 h22 → Qr r23 h22)) ∧ (¬ x1 = 0 → ¬ x1 = 1 → ¬ x1 = 2 → ¬ x1 = 3 → ¬ x1 = 4 → w_Format_greater x0 x2 x4 h6 (fun (r25 : Int64) (h24 : xb_H) => xb_ext h6 h24 → Qr r25 h24)))) ∧ (¬ r7 = (0 : Int32) → w_Format_reckonTwo_L37 Qr x0 h6))))))) ∧ (x1 = (6 : Int32) → xb_k h x0 = 6 ∧ w_Format_magnitude x0 x2 h (fun (r28 : Int64) (h27 : xb_H) => xb_ext h h27 → Qr (r28 ||| (x4 &&& (xb_l h27 x0 2))) h27)))

set_option maxHeartbeats 4000000 in
set_option maxRecDepth 100000 in
theorem am_Format_reckonTwo_L37 (l : Launch) (hfl : l.flags = pinnedFlags ++ [noTraceFlag]) (D : va_G) (A : Nat → Prop) (σ MC MS : Nat) (h0 : xb_H) (Qr : Int64 → xb_H → Prop) (x0 : Nat) (h : xb_H) (hw : w_Format_reckonTwo_L37 Qr x0 h) : xb_am l D A σ 5 MC MS h0 (fun v h => ∃ r, v = some (.long r) ∧ Qr r h) (fun _ _ => False) y_Format_reckonTwo.cls y_Format_reckonTwo.name b_Format_reckonTwo 6 ([] : List ExceptionTableEntry) (some .long) 37 [(0, .ref x0)] [] h 0 0 := by
  unfold w_Format_reckonTwo_L37 at hw
  intro p e s m args below meth c hC H locs ls k n hE hl hR hS hk hn
  obtain ⟨hx, hb, hown, hlocks, htab, hml, hr, hB, hA, hnm⟩ := id hC
  have hts := hB.1.1.at args
  refine lv_aload_n hx hb (xb_d D_Format_reckonTwo 20 rfl) rfl (lv_at hl 0 rfl) ?_
  obtain ⟨hk1, hw⟩ := hw
  refine xb_getL (C := R_Format) (T := F_Format) (N := 5) hx hb 5 4 hts fin_Format hown hR hk1 (by decide) rfl (by decide) rfl (hts _ m_291a6679) (fun _ h9 => h9) (xb_d D_Format_reckonTwo 21 rfl) ?_
  exact xb_lret hx hb hr hlocks (show k ≤ MC by omega) (show n ≤ MS by omega) hE hR hS (xb_d D_Format_reckonTwo 22 rfl) hw

set_option maxHeartbeats 4000000 in
set_option maxRecDepth 100000 in
theorem ok_Format_reckonTwo (l : Launch) (hfl : l.flags = pinnedFlags ++ [noTraceFlag]) (D : va_G) (A : Nat → Prop) (σ : Nat) (x0 : Nat) (x1 : Int32) (x2 : Int64) (x4 : Int64) (h : xb_H) (Qr : Int64 → xb_H → Prop) (hw : w_Format_reckonTwo x0 x1 x2 x4 h Qr) : xt_Met l y_Format_reckonTwo [.code y_Format_reckonTwo b_Format_reckonTwo 6 (some .long)] (xb_rm 5 0 0) (xb_Pc D A σ h [.ref x0, .int x1, .long x2, .long x4]) (xb_Qc D A h (fun v h => ∃ r, v = some (.long r) ∧ Qr r h) (fun _ _ => False)) 0 0 A := by
  refine xb_ofAm (cc := b_Format_reckonTwo) (by decide) (Nat.le_of_ble_eq_true rfl) ?_
  unfold w_Format_reckonTwo at hw
  show xb_am l D A σ 5 0 0 h (fun v h => ∃ r, v = some (.long r) ∧ Qr r h) (fun _ _ => False) y_Format_reckonTwo.cls y_Format_reckonTwo.name b_Format_reckonTwo 6 ([] : List ExceptionTableEntry) (some .long) 0 [(0, .ref x0), (1, .int x1), (2, .long x2), (4, .long x4)] [] h 0 0
  obtain ⟨MC, hMC⟩ : ∃ x, x = 0 := ⟨_, rfl⟩
  obtain ⟨MS, hMS⟩ : ∃ x, x = 0 := ⟨_, rfl⟩
  rw [show xb_am l D A σ 5 0 0 = xb_am l D A σ 5 MC MS by rw [hMC, hMS]]
  obtain ⟨h0, hh0⟩ : ∃ x, x = h := ⟨_, rfl⟩
  rw [show xb_am l D A σ 5 MC MS h = xb_am l D A σ 5 MC MS h0 by rw [hh0]]
  intro p e s m args below meth c hC H locs ls k n hE hl hR hS hk hn
  obtain ⟨hx, hb, hown, hlocks, htab, hml, hr, hB, hA, hnm⟩ := id hC
  have hts := hB.1.1.at args
  refine lv_iload_n hx hb (xb_d D_Format_reckonTwo 0 rfl) rfl (lv_at hl 1 rfl) ?_
  refine lv_bipush (v := 6) hx hb (xb_d D_Format_reckonTwo 1 rfl) (by decide) ?_
  refine lv_icmp_ne (tgt := 20) hx hb (xb_d D_Format_reckonTwo 2 rfl) rfl (fun hc1 => ?_) (fun hc1 => ?_)
  · have hw := hw.1 hc1
    refine lv_aload_n hx hb (xb_d D_Format_reckonTwo 12 rfl) rfl (lv_at hl 0 rfl) ?_
    refine lv_lload_n hx hb (xb_d D_Format_reckonTwo 13 rfl) rfl (lv_at hl 2 rfl) ?_
    obtain ⟨hk2, hw⟩ := hw
    refine xb_call (D := D) (A := A) (σ := σ) (h := h) (d := 2) (mc := 0) (ms := 0) (maxL := 3) (rest := []) (av := [.ref x0, .long x2]) (fun T hT X => by obtain ⟨cb, r1, r2, r3⟩ := xb_recv (ci := 5) hR rfl hk2 (by decide); exact xt_invV X hx hown (hts _ m_e7d6b62e) (hts _ m_28f89ecd) (hts _ m_79f90d13) (xt_sigOf (hts _ m_2f81ed74)) nm_Format_isNan (by rw [hT]; exact r1) r2 r3 (g := F0 m 22 ls [.long x2, .ref x0]) rfl (argsL := [.long x2]) (rest := []) rfl rfl (by rw [hb]; exact (xb_d D_Format_reckonTwo 14 rfl))) (ok_Format_isNan l hfl D A σ x0 x2 h _ hw) (hml.trans hl.1.symm) (by rw [hb]; exact (xb_d D_Format_reckonTwo 14 rfl)) (Nat.le_of_ble_eq_true rfl) (Nat.le_of_ble_eq_true rfl) (Nat.le_of_ble_eq_true rfl) (show k + 0 ≤ MC by omega) (show n + 0 ≤ MS by omega) (xt_w1 hB.1 m_2f81ed74) (xt_cdOf hB.1 m_2f81ed74) (hts _ m_64857de5) hB hR hS hA (fun vv h3 H locs hq hEh3 hR hS => ?_) (fun XX ax h3 H locs hq hEh3 hex hR hS => ?_)
    · obtain ⟨r4, rfl, hw⟩ := hq
      have hw := hw hEh3
      have hE := hE.tr hEh3
      refine W.eq (g2 := F0 m 25 ls [.int r4]) rfl ?_
      refine lv_if_ne (tgt := 37) hx hb (xb_d D_Format_reckonTwo 15 rfl) rfl (fun hc5 => ?_) (fun hc5 => ?_)
      · have hw := hw.1 hc5
        exact am_Format_reckonTwo_L37 l hfl D A σ MC MS h0 Qr x0 h3 hw p e s m args below meth c hC H locs ls k n hE (lv_sub hl [0] rfl) hR hS (by omega) (by omega)
      · have hw := hw.2 hc5
        refine lv_aload_n hx hb (xb_d D_Format_reckonTwo 16 rfl) rfl (lv_at hl 0 rfl) ?_
        refine lv_lload hx hb (xb_d D_Format_reckonTwo 17 rfl) (lv_at hl 3 rfl) ?_
        have hk2 : xb_k h3 x0 = 6 := hEh3.k hk2
        refine xb_call (D := D) (A := A) (σ := σ) (h := h3) (d := 2) (mc := 0) (ms := 0) (maxL := 3) (rest := []) (av := [.ref x0, .long x4]) (fun T hT X => by obtain ⟨cb, r1, r2, r3⟩ := xb_recv (ci := 5) hR rfl hk2 (by decide); exact xt_invV X hx hown (hts _ m_e7d6b62e) (hts _ m_28f89ecd) (hts _ m_79f90d13) (xt_sigOf (hts _ m_2f81ed74)) nm_Format_isNan (by rw [hT]; exact r1) r2 r3 (g := F0 m 31 ls [.long x4, .ref x0]) rfl (argsL := [.long x4]) (rest := []) rfl rfl (by rw [hb]; exact (xb_d D_Format_reckonTwo 18 rfl))) (ok_Format_isNan l hfl D A σ x0 x4 h3 _ hw) (hml.trans hl.1.symm) (by rw [hb]; exact (xb_d D_Format_reckonTwo 18 rfl)) (Nat.le_of_ble_eq_true rfl) (Nat.le_of_ble_eq_true rfl) (Nat.le_of_ble_eq_true rfl) (show k + 0 ≤ MC by omega) (show n + 0 ≤ MS by omega) (xt_w1 hB.1 m_2f81ed74) (xt_cdOf hB.1 m_2f81ed74) (hts _ m_64857de5) hB hR hS hA (fun vv h6 H locs hq hEh6 hR hS => ?_) (fun XX ax h6 H locs hq hEh6 hex hR hS => ?_)
        · obtain ⟨r7, rfl, hw⟩ := hq
          have hw := hw hEh6
          have hE := hE.tr hEh6
          refine W.eq (g2 := F0 m 34 ls [.int r7]) rfl ?_
          refine lv_if_eq (tgt := 42) hx hb (xb_d D_Format_reckonTwo 19 rfl) rfl (fun hc8 => ?_) (fun hc8 => ?_)
          · have hw := hw.1 hc8
            refine lv_iload_n hx hb (xb_d D_Format_reckonTwo 23 rfl) rfl (lv_at hl 1 rfl) ?_
            by_cases hc9 : x1 = 0
            · have hw := hw.1 hc9
              refine xt_numi hc9 ?_
              refine lv_tableIn (off := 33) (tgt := 76) hx hb (xb_d D_Format_reckonTwo 24 rfl) (by decide +kernel) (by decide +kernel) (by decide +kernel) (by decide) ?_
              refine lv_aload_n hx hb (xb_d D_Format_reckonTwo 25 rfl) rfl (lv_at hl 0 rfl) ?_
              refine lv_lload_n hx hb (xb_d D_Format_reckonTwo 26 rfl) rfl (lv_at hl 2 rfl) ?_
              refine lv_lload hx hb (xb_d D_Format_reckonTwo 27 rfl) (lv_at hl 3 rfl) ?_
              have hk2 : xb_k h6 x0 = 6 := hEh6.k hk2
              refine xb_call (D := D) (A := A) (σ := σ) (h := h6) (d := 4) (mc := 0) (ms := 0) (maxL := 14) (rest := []) (av := [.ref x0, .long x2, .long x4]) (fun T hT X => by obtain ⟨cb, r1, r2, r3⟩ := xb_recv (ci := 5) hR rfl hk2 (by decide); exact xt_invV X hx hown (hts _ m_ded25aeb) (hts _ m_8097a839) (hts _ m_3fa0fe8b) (xt_sigOf (hts _ m_6dce137b)) nm_Format_sum (by rw [hT]; exact r1) r2 r3 (g := F0 m 80 ls [.long x4, .long x2, .ref x0]) rfl (argsL := [.long x2, .long x4]) (rest := []) rfl rfl (by rw [hb]; exact (xb_d D_Format_reckonTwo 28 rfl))) (ok_Format_sum l hfl D A σ x0 x2 x4 h6 _ hw) (hml.trans hl.1.symm) (by rw [hb]; exact (xb_d D_Format_reckonTwo 28 rfl)) (Nat.le_of_ble_eq_true rfl) (Nat.le_of_ble_eq_true rfl) (Nat.le_of_ble_eq_true rfl) (show k + 0 ≤ MC by omega) (show n + 0 ≤ MS by omega) (xt_w1 hB.1 m_6dce137b) (xt_cdOf hB.1 m_6dce137b) (hts _ m_64857de5) hB hR hS hA (fun vv h10 H locs hq hEh10 hR hS => ?_) (fun XX ax h10 H locs hq hEh10 hex hR hS => ?_)
              · obtain ⟨r11, rfl, hw⟩ := hq
                have hw := hw hEh10
                have hE := hE.tr hEh10
                refine W.eq (g2 := F0 m 83 ls [.long r11]) rfl ?_
                exact xb_lret hx hb hr hlocks (show k ≤ MC by omega) (show n ≤ MS by omega) hE hR hS (xb_d D_Format_reckonTwo 29 rfl) hw
              · exact False.elim hq
            have hw := hw.2
            by_cases hc12 : x1 = 1
            · have hw := hw.1 hc12
              refine xt_numi hc12 ?_
              refine lv_tableIn (off := 41) (tgt := 84) hx hb (xb_d D_Format_reckonTwo 24 rfl) (by decide +kernel) (by decide +kernel) (by decide +kernel) (by decide) ?_
              refine lv_aload_n hx hb (xb_d D_Format_reckonTwo 30 rfl) rfl (lv_at hl 0 rfl) ?_
              refine lv_lload_n hx hb (xb_d D_Format_reckonTwo 31 rfl) rfl (lv_at hl 2 rfl) ?_
              refine lv_lload hx hb (xb_d D_Format_reckonTwo 32 rfl) (lv_at hl 3 rfl) ?_
              refine lv_aload_n hx hb (xb_d D_Format_reckonTwo 33 rfl) rfl (lv_at hl 0 rfl) ?_
              have hk2 : xb_k h6 x0 = 6 := hEh6.k hk2
              refine xb_getL (C := R_Format) (T := F_Format) (N := 5) hx hb 5 2 hts fin_Format hown hR hk2 (by decide) rfl (by decide) rfl (hts _ m_e3160854) (fun _ h9 => h9) (xb_d D_Format_reckonTwo 34 rfl) ?_
              refine lv_lxor hx hb (xb_d D_Format_reckonTwo 35 rfl) ?_
              refine xb_call (D := D) (A := A) (σ := σ) (h := h6) (d := 4) (mc := 0) (ms := 0) (maxL := 14) (rest := []) (av := [.ref x0, .long x2, .long (x4 ^^^ (xb_l h6 x0 2))]) (fun T hT X => by obtain ⟨cb, r1, r2, r3⟩ := xb_recv (ci := 5) hR rfl hk2 (by decide); exact xt_invV X hx hown (hts _ m_ded25aeb) (hts _ m_8097a839) (hts _ m_3fa0fe8b) (xt_sigOf (hts _ m_6dce137b)) nm_Format_sum (by rw [hT]; exact r1) r2 r3 (g := F0 m 93 ls [.long (x4 ^^^ (xb_l h6 x0 2)), .long x2, .ref x0]) rfl (argsL := [.long x2, .long (x4 ^^^ (xb_l h6 x0 2))]) (rest := []) rfl rfl (by rw [hb]; exact (xb_d D_Format_reckonTwo 36 rfl))) (ok_Format_sum l hfl D A σ x0 x2 (x4 ^^^ (xb_l h6 x0 2)) h6 _ hw) (hml.trans hl.1.symm) (by rw [hb]; exact (xb_d D_Format_reckonTwo 36 rfl)) (Nat.le_of_ble_eq_true rfl) (Nat.le_of_ble_eq_true rfl) (Nat.le_of_ble_eq_true rfl) (show k + 0 ≤ MC by omega) (show n + 0 ≤ MS by omega) (xt_w1 hB.1 m_6dce137b) (xt_cdOf hB.1 m_6dce137b) (hts _ m_64857de5) hB hR hS hA (fun vv h13 H locs hq hEh13 hR hS => ?_) (fun XX ax h13 H locs hq hEh13 hex hR hS => ?_)
              · obtain ⟨r14, rfl, hw⟩ := hq
                have hw := hw hEh13
                have hE := hE.tr hEh13
                refine W.eq (g2 := F0 m 96 ls [.long r14]) rfl ?_
                exact xb_lret hx hb hr hlocks (show k ≤ MC by omega) (show n ≤ MS by omega) hE hR hS (xb_d D_Format_reckonTwo 37 rfl) hw
              · exact False.elim hq
            have hw := hw.2
            by_cases hc15 : x1 = 2
            · have hw := hw.1 hc15
              refine xt_numi hc15 ?_
              refine lv_tableIn (off := 54) (tgt := 97) hx hb (xb_d D_Format_reckonTwo 24 rfl) (by decide +kernel) (by decide +kernel) (by decide +kernel) (by decide) ?_
              refine lv_aload_n hx hb (xb_d D_Format_reckonTwo 38 rfl) rfl (lv_at hl 0 rfl) ?_
              refine lv_lload_n hx hb (xb_d D_Format_reckonTwo 39 rfl) rfl (lv_at hl 2 rfl) ?_
              refine lv_lload hx hb (xb_d D_Format_reckonTwo 40 rfl) (lv_at hl 3 rfl) ?_
              have hk2 : xb_k h6 x0 = 6 := hEh6.k hk2
              refine xb_call (D := D) (A := A) (σ := σ) (h := h6) (d := 4) (mc := 0) (ms := 0) (maxL := 8) (rest := []) (av := [.ref x0, .long x2, .long x4]) (fun T hT X => by obtain ⟨cb, r1, r2, r3⟩ := xb_recv (ci := 5) hR rfl hk2 (by decide); exact xt_invV X hx hown (hts _ m_b24dfaa2) (hts _ m_1a11e817) (hts _ m_21557c18) (xt_sigOf (hts _ m_c8fc43d7)) nm_Format_product (by rw [hT]; exact r1) r2 r3 (g := F0 m 101 ls [.long x4, .long x2, .ref x0]) rfl (argsL := [.long x2, .long x4]) (rest := []) rfl rfl (by rw [hb]; exact (xb_d D_Format_reckonTwo 41 rfl))) (ok_Format_product l hfl D A σ x0 x2 x4 h6 _ hw) (hml.trans hl.1.symm) (by rw [hb]; exact (xb_d D_Format_reckonTwo 41 rfl)) (Nat.le_of_ble_eq_true rfl) (Nat.le_of_ble_eq_true rfl) (Nat.le_of_ble_eq_true rfl) (show k + 0 ≤ MC by omega) (show n + 0 ≤ MS by omega) (xt_w1 hB.1 m_c8fc43d7) (xt_cdOf hB.1 m_c8fc43d7) (hts _ m_64857de5) hB hR hS hA (fun vv h16 H locs hq hEh16 hR hS => ?_) (fun XX ax h16 H locs hq hEh16 hex hR hS => ?_)
              · obtain ⟨r17, rfl, hw⟩ := hq
                have hw := hw hEh16
                have hE := hE.tr hEh16
                refine W.eq (g2 := F0 m 104 ls [.long r17]) rfl ?_
                exact xb_lret hx hb hr hlocks (show k ≤ MC by omega) (show n ≤ MS by omega) hE hR hS (xb_d D_Format_reckonTwo 42 rfl) hw
              · exact False.elim hq
            have hw := hw.2
            by_cases hc18 : x1 = 3
            · have hw := hw.1 hc18
              refine xt_numi hc18 ?_
              refine lv_tableIn (off := 62) (tgt := 105) hx hb (xb_d D_Format_reckonTwo 24 rfl) (by decide +kernel) (by decide +kernel) (by decide +kernel) (by decide) ?_
              refine lv_aload_n hx hb (xb_d D_Format_reckonTwo 43 rfl) rfl (lv_at hl 0 rfl) ?_
              refine lv_lload_n hx hb (xb_d D_Format_reckonTwo 44 rfl) rfl (lv_at hl 2 rfl) ?_
              refine lv_lload hx hb (xb_d D_Format_reckonTwo 45 rfl) (lv_at hl 3 rfl) ?_
              have hk2 : xb_k h6 x0 = 6 := hEh6.k hk2
              refine xb_call (D := D) (A := A) (σ := σ) (h := h6) (d := 4) (mc := 0) (ms := 0) (maxL := 13) (rest := []) (av := [.ref x0, .long x2, .long x4]) (fun T hT X => by obtain ⟨cb, r1, r2, r3⟩ := xb_recv (ci := 5) hR rfl hk2 (by decide); exact xt_invV X hx hown (hts _ m_edb2dfd6) (hts _ m_6d5522f0) (hts _ m_119e0a2c) (xt_sigOf (hts _ m_a0ccade9)) nm_Format_quotient (by rw [hT]; exact r1) r2 r3 (g := F0 m 109 ls [.long x4, .long x2, .ref x0]) rfl (argsL := [.long x2, .long x4]) (rest := []) rfl rfl (by rw [hb]; exact (xb_d D_Format_reckonTwo 46 rfl))) (ok_Format_quotient l hfl D A σ x0 x2 x4 h6 _ hw) (hml.trans hl.1.symm) (by rw [hb]; exact (xb_d D_Format_reckonTwo 46 rfl)) (Nat.le_of_ble_eq_true rfl) (Nat.le_of_ble_eq_true rfl) (Nat.le_of_ble_eq_true rfl) (show k + 0 ≤ MC by omega) (show n + 0 ≤ MS by omega) (xt_w1 hB.1 m_a0ccade9) (xt_cdOf hB.1 m_a0ccade9) (hts _ m_64857de5) hB hR hS hA (fun vv h19 H locs hq hEh19 hR hS => ?_) (fun XX ax h19 H locs hq hEh19 hex hR hS => ?_)
              · obtain ⟨r20, rfl, hw⟩ := hq
                have hw := hw hEh19
                have hE := hE.tr hEh19
                refine W.eq (g2 := F0 m 112 ls [.long r20]) rfl ?_
                exact xb_lret hx hb hr hlocks (show k ≤ MC by omega) (show n ≤ MS by omega) hE hR hS (xb_d D_Format_reckonTwo 47 rfl) hw
              · exact False.elim hq
            have hw := hw.2
            by_cases hc21 : x1 = 4
            · have hw := hw.1 hc21
              refine xt_numi hc21 ?_
              refine lv_tableIn (off := 70) (tgt := 113) hx hb (xb_d D_Format_reckonTwo 24 rfl) (by decide +kernel) (by decide +kernel) (by decide +kernel) (by decide) ?_
              refine lv_aload_n hx hb (xb_d D_Format_reckonTwo 48 rfl) rfl (lv_at hl 0 rfl) ?_
              refine lv_lload_n hx hb (xb_d D_Format_reckonTwo 49 rfl) rfl (lv_at hl 2 rfl) ?_
              refine lv_lload hx hb (xb_d D_Format_reckonTwo 50 rfl) (lv_at hl 3 rfl) ?_
              have hk2 : xb_k h6 x0 = 6 := hEh6.k hk2
              refine xb_call (D := D) (A := A) (σ := σ) (h := h6) (d := 4) (mc := 0) (ms := 0) (maxL := 5) (rest := []) (av := [.ref x0, .long x2, .long x4]) (fun T hT X => by obtain ⟨cb, r1, r2, r3⟩ := xb_recv (ci := 5) hR rfl hk2 (by decide); exact xt_invV X hx hown (hts _ m_0afc78d6) (hts _ m_c57f952a) (hts _ m_2d40ac3b) (xt_sigOf (hts _ m_1d3bab40)) nm_Format_lesser (by rw [hT]; exact r1) r2 r3 (g := F0 m 117 ls [.long x4, .long x2, .ref x0]) rfl (argsL := [.long x2, .long x4]) (rest := []) rfl rfl (by rw [hb]; exact (xb_d D_Format_reckonTwo 51 rfl))) (ok_Format_lesser l hfl D A σ x0 x2 x4 h6 _ hw) (hml.trans hl.1.symm) (by rw [hb]; exact (xb_d D_Format_reckonTwo 51 rfl)) (Nat.le_of_ble_eq_true rfl) (Nat.le_of_ble_eq_true rfl) (Nat.le_of_ble_eq_true rfl) (show k + 0 ≤ MC by omega) (show n + 0 ≤ MS by omega) (xt_w1 hB.1 m_1d3bab40) (xt_cdOf hB.1 m_1d3bab40) (hts _ m_64857de5) hB hR hS hA (fun vv h22 H locs hq hEh22 hR hS => ?_) (fun XX ax h22 H locs hq hEh22 hex hR hS => ?_)
              · obtain ⟨r23, rfl, hw⟩ := hq
                have hw := hw hEh22
                have hE := hE.tr hEh22
                refine W.eq (g2 := F0 m 120 ls [.long r23]) rfl ?_
                exact xb_lret hx hb hr hlocks (show k ≤ MC by omega) (show n ≤ MS by omega) hE hR hS (xb_d D_Format_reckonTwo 52 rfl) hw
              · exact False.elim hq
            have hw := hw.2
            have hw := hw hc9 hc12 hc15 hc18 hc21
            refine lv_tableOut (tgt := 121) hx hb (xb_d D_Format_reckonTwo 24 rfl) (by have a0 := xb_nl (0) 0 (by decide) hc9; have a1 := xb_nl (1) 1 (by decide) hc12; have a2 := xb_nl (2) 2 (by decide) hc15; have a3 := xb_nl (3) 3 (by decide) hc18; have a4 := xb_nl (4) 4 (by decide) hc21; omega) (by decide) ?_
            refine lv_aload_n hx hb (xb_d D_Format_reckonTwo 53 rfl) rfl (lv_at hl 0 rfl) ?_
            refine lv_lload_n hx hb (xb_d D_Format_reckonTwo 54 rfl) rfl (lv_at hl 2 rfl) ?_
            refine lv_lload hx hb (xb_d D_Format_reckonTwo 55 rfl) (lv_at hl 3 rfl) ?_
            have hk2 : xb_k h6 x0 = 6 := hEh6.k hk2
            refine xb_call (D := D) (A := A) (σ := σ) (h := h6) (d := 4) (mc := 0) (ms := 0) (maxL := 5) (rest := []) (av := [.ref x0, .long x2, .long x4]) (fun T hT X => by obtain ⟨cb, r1, r2, r3⟩ := xb_recv (ci := 5) hR rfl hk2 (by decide); exact xt_invV X hx hown (hts _ m_86bdf6e5) (hts _ m_b9510508) (hts _ m_19603baa) (xt_sigOf (hts _ m_c4a9dc90)) nm_Format_greater (by rw [hT]; exact r1) r2 r3 (g := F0 m 125 ls [.long x4, .long x2, .ref x0]) rfl (argsL := [.long x2, .long x4]) (rest := []) rfl rfl (by rw [hb]; exact (xb_d D_Format_reckonTwo 56 rfl))) (ok_Format_greater l hfl D A σ x0 x2 x4 h6 _ hw) (hml.trans hl.1.symm) (by rw [hb]; exact (xb_d D_Format_reckonTwo 56 rfl)) (Nat.le_of_ble_eq_true rfl) (Nat.le_of_ble_eq_true rfl) (Nat.le_of_ble_eq_true rfl) (show k + 0 ≤ MC by omega) (show n + 0 ≤ MS by omega) (xt_w1 hB.1 m_c4a9dc90) (xt_cdOf hB.1 m_c4a9dc90) (hts _ m_64857de5) hB hR hS hA (fun vv h24 H locs hq hEh24 hR hS => ?_) (fun XX ax h24 H locs hq hEh24 hex hR hS => ?_)
            · obtain ⟨r25, rfl, hw⟩ := hq
              have hw := hw hEh24
              have hE := hE.tr hEh24
              refine W.eq (g2 := F0 m 128 ls [.long r25]) rfl ?_
              exact xb_lret hx hb hr hlocks (show k ≤ MC by omega) (show n ≤ MS by omega) hE hR hS (xb_d D_Format_reckonTwo 57 rfl) hw
            · exact False.elim hq
          · have hw := hw.2 hc8
            exact am_Format_reckonTwo_L37 l hfl D A σ MC MS h0 Qr x0 h6 hw p e s m args below meth c hC H locs ls k n hE (lv_sub hl [0] rfl) hR hS (by omega) (by omega)
        · exact False.elim hq
    · exact False.elim hq
  · have hw := hw.2 hc1
    refine lv_aload_n hx hb (xb_d D_Format_reckonTwo 3 rfl) rfl (lv_at hl 0 rfl) ?_
    refine lv_lload_n hx hb (xb_d D_Format_reckonTwo 4 rfl) rfl (lv_at hl 2 rfl) ?_
    obtain ⟨hk26, hw⟩ := hw
    refine xb_call (D := D) (A := A) (σ := σ) (h := h) (d := 2) (mc := 0) (ms := 0) (maxL := 3) (rest := []) (av := [.ref x0, .long x2]) (fun T hT X => by obtain ⟨cb, r1, r2, r3⟩ := xb_recv (ci := 5) hR rfl hk26 (by decide); exact xt_invV X hx hown (hts _ m_d2fcf5e9) (hts _ m_9ed8050f) (hts _ m_945e3e7d) (xt_sigOf (hts _ m_08158875)) nm_Format_magnitude (by rw [hT]; exact r1) r2 r3 (g := F0 m 8 ls [.long x2, .ref x0]) rfl (argsL := [.long x2]) (rest := []) rfl rfl (by rw [hb]; exact (xb_d D_Format_reckonTwo 5 rfl))) (ok_Format_magnitude l hfl D A σ x0 x2 h _ hw) (hml.trans hl.1.symm) (by rw [hb]; exact (xb_d D_Format_reckonTwo 5 rfl)) (Nat.le_of_ble_eq_true rfl) (Nat.le_of_ble_eq_true rfl) (Nat.le_of_ble_eq_true rfl) (show k + 0 ≤ MC by omega) (show n + 0 ≤ MS by omega) (xt_w1 hB.1 m_08158875) (xt_cdOf hB.1 m_08158875) (hts _ m_64857de5) hB hR hS hA (fun vv h27 H locs hq hEh27 hR hS => ?_) (fun XX ax h27 H locs hq hEh27 hex hR hS => ?_)
    · obtain ⟨r28, rfl, hw⟩ := hq
      have hw := hw hEh27
      have hE := hE.tr hEh27
      refine W.eq (g2 := F0 m 11 ls [.long r28]) rfl ?_
      refine lv_lload hx hb (xb_d D_Format_reckonTwo 6 rfl) (lv_at hl 3 rfl) ?_
      refine lv_aload_n hx hb (xb_d D_Format_reckonTwo 7 rfl) rfl (lv_at hl 0 rfl) ?_
      have hk26 : xb_k h27 x0 = 6 := hEh27.k hk26
      refine xb_getL (C := R_Format) (T := F_Format) (N := 5) hx hb 5 2 hts fin_Format hown hR hk26 (by decide) rfl (by decide) rfl (hts _ m_e3160854) (fun _ h9 => h9) (xb_d D_Format_reckonTwo 8 rfl) ?_
      refine lv_land hx hb (xb_d D_Format_reckonTwo 9 rfl) ?_
      refine lv_lor hx hb (xb_d D_Format_reckonTwo 10 rfl) ?_
      exact xb_lret hx hb hr hlocks (show k ≤ MC by omega) (show n ≤ MS by omega) hE hR hS (xb_d D_Format_reckonTwo 11 rfl) hw
    · exact False.elim hq

theorem m_decb3334 : (.methodLink "StackHost$Machine" 114 y_Machine_endCall : Cond) ∈ xt_tbl := xt_in (xt_t7 (List.mem_of_getElem? (i := 239) (by decide +kernel))) (by decide +kernel)
theorem m_d830cba0 : (.instanceMethod y_Machine_endCall : Cond) ∈ xt_tbl := xt_in (xt_t8 (List.mem_of_getElem? (i := 1) (by decide +kernel))) (by decide +kernel)
theorem m_0077867b : (.selects "StackHost$Machine" y_Machine_endCall y_Machine_endCall : Cond) ∈ xt_tbl := xt_in (xt_v6 (q := (⟨"StackHost$Machine", "endCall", "()V"⟩, 18)) (List.mem_of_getElem? (i := 11) (by decide +kernel))) (by decide +kernel)
theorem m_d7f63aa1 : (.code y_Machine_endCall b_Machine_endCall 7 none : Cond) ∈ xt_tbl := xt_in (xt_t8 (List.mem_of_getElem? (i := 2) (by decide +kernel))) (by decide +kernel)
theorem nm_Machine_endCall : xt_nm y_Machine_endCall 0 := ⟨by decide +kernel, by decide +kernel⟩
set_option maxRecDepth 100000 in
def T_Machine_branch : List (Nat × Instr × Nat) := [(0, .iload_n 1, 1), (1, .iconst (-1), 1), (2, .if_icmp .ne 8, 3), (5, .aload_n 0, 1), (6, .invokevirtual 114, 3), (9, .return_, 1), (10, .aload_n 0, 1), (11, .getfield 191, 3), (14, .aload_n 0, 1), (15, .getfield 111, 3), (18, .iload_n 1, 1), (19, .iaload, 1), (20, .iadd, 1), (21, .istore_n 2, 1), (22, .aload_n 0, 1), (23, .getfield 104, 3), (26, .iload_n 1, 1), (27, .baload, 1), (28, .iconst 3, 1), (29, .if_icmp .ne 16, 3), (32, .aload_n 0, 1), (33, .iload_n 2, 1), (34, .putfield 53, 3), (37, .aload_n 0, 1), (38, .iload_n 1, 1), (39, .iconst 2, 1), (40, .iadd, 1), (41, .putfield 108, 3), (44, .return_, 1), (45, .aload_n 0, 1), (46, .getfield 104, 3), (49, .iload_n 1, 1), (50, .iconst 1, 1), (51, .iadd, 1), (52, .baload, 1), (53, .bipush 64, 2), (55, .if_icmp .eq 23, 3), (58, .aload_n 0, 1), (59, .getfield 35, 3), (62, .iload_n 2, 1), (63, .aload_n 0, 1), (64, .getfield 35, 3), (67, .aload_n 0, 1), (68, .getfield 53, 3), (71, .iconst 1, 1), (72, .isub, 1), (73, .laload, 1), (74, .lastore, 1), (75, .iinc 2 1, 3), (78, .aload_n 0, 1), (79, .iload_n 2, 1), (80, .putfield 53, 3), (83, .aload_n 0, 1), (84, .getfield 111, 3), (87, .iload_n 1, 1), (88, .iconst 1, 1), (89, .iadd, 1), (90, .iaload, 1), (91, .istore_n 3, 1), (92, .aload_n 0, 1), (93, .aload_n 0, 1), (94, .getfield 104, 3), (97, .iload_n 3, 1), (98, .baload, 1), (99, .iconst 5, 1), (100, .if_icmp .ne 12, 3), (103, .aload_n 0, 1), (104, .getfield 111, 3), (107, .iload_n 3, 1), (108, .iaload, 1), (109, .goto 4, 3), (112, .iload_n 3, 1), (113, .iconst 1, 1), (114, .iadd, 1), (115, .putfield 108, 3), (118, .return_, 1)]
theorem D_Machine_branch : ∀ q ∈ T_Machine_branch, decode b_Machine_branch q.1 = .ok (q.2.1, q.2.2) := by decide +kernel
def w_Machine_branch_L113 (Qr : xb_H → Prop) (y0 : Int32) (y1 : Nat) (h : xb_H) : Prop :=
    xb_k h y1 = 8 ∧ ∀ h2 : xb_H, h2 = xb_I h y1 15 (y0 + 1) → Qr h2

def w_Machine_branch_L78 (Qr : xb_H → Prop) (x0 : Nat) (x1 : Int32) (x2 : Int32) (h : xb_H) : Prop :=
    xb_k h x0 = 8 ∧ ∀ h2 : xb_H, h2 = xb_I h x0 10 x2 → ∃ b3 : Nat, (xb_r h2 x0 14) = some b3 ∧ xb_k h2 b3 = 102 ∧ vp_in (x1 + 1) (xb_n h2 b3) ∧ ∀ v6 : Int32, v6 = (xb_i h2 b3 (Int32.toNatClampNeg (x1 + 1))) → ∃ b7 : Nat, (xb_r h2 x0 13) = some b7 ∧ xb_k h2 b7 = 100 ∧ vp_in v6 (xb_n h2 b7) ∧ ((¬ (xb_i h2 b7 (Int32.toNatClampNeg v6)) = (5 : Int32) → w_Machine_branch_L113 Qr v6 x0 h2) ∧ ((xb_i h2 b7 (Int32.toNatClampNeg v6)) = (5 : Int32) → ∃ b11 : Nat, (xb_r h2 x0 14) = some b11 ∧ xb_k h2 b11 = 102 ∧ vp_in v6 (xb_n h2 b11) ∧ w_Machine_branch_L113 Qr (xb_i h2 b11 (Int32.toNatClampNeg v6)) x0 h2))

def w_Machine_branch (x0 : Nat) (x1 : Int32) (h : xb_H) (Qr : xb_H → Prop) : Prop :=
    ((¬ x1 = ((-1) : Int32) → xb_k h x0 = 8 ∧ ∃ b3 : Nat, (xb_r h x0 14) = some b3 ∧ xb_k h b3 = 102 ∧ vp_in x1 (xb_n h b3) ∧ ∀ v6 : Int32, v6 = ((xb_i h x0 17) + (xb_i h b3 (Int32.toNatClampNeg x1))) → ∃ b7 : Nat, (xb_r h x0 13) = some b7 ∧ xb_k h b7 = 100 ∧ vp_in x1 (xb_n h b7) ∧ ((¬ (xb_i h b7 (Int32.toNatClampNeg x1)) = (3 : Int32) → ∃ b11 : Nat, (xb_r h x0 13) = some b11 ∧ xb_k h b11 = 100 ∧ vp_in (x1 + 1) (xb_n h b11) ∧ (((xb_i h b11 (Int32.toNatClampNeg (x1 + 1))) = (64 : Int32) → w_Machine_branch_L78 Qr x0 x1 v6 h) ∧ (¬ (xb_i h b11 (Int32.toNatClampNeg (x1 + 1))) = (64 : Int32) → ∃ b15 : Nat, (xb_r h x0 9) = some b15 ∧ ∃ b16 : Nat, (xb_r h x0 9) = some b16 ∧ xb_k h b16 = 103 ∧ vp_in ((xb_i h x0 10) - 1) (xb_n h b16) ∧ xb_k h b15 = 103 ∧ vp_in v6 (xb_n h b15) ∧ ∀ h21 : xb_H, h21 = xb_L h b15 (Int32.toNatClampNeg v6) (xb_l h b16 (Int32.toNatClampNeg ((xb_i h x0 10) - 1))) → w_Machine_branch_L78 Qr x0 x1 (v6 + 1) h21))) ∧ ((xb_i h b7 (Int32.toNatClampNeg x1)) = (3 : Int32) → ∀ h22 : xb_H, h22 = xb_I h x0 10 v6 → ∀ h23 : xb_H, h23 = xb_I h22 x0 15 (x1 + 2) → Qr h23))) ∧ (x1 = ((-1) : Int32) → xb_k h x0 = 8 ∧ w_Machine_endCall x0 h (fun (h25 : xb_H) => xb_ext h h25 → Qr h25)))

set_option maxHeartbeats 4000000 in
set_option maxRecDepth 100000 in
theorem am_Machine_branch_L113 (l : Launch) (hfl : l.flags = pinnedFlags ++ [noTraceFlag]) (D : va_G) (A : Nat → Prop) (σ MC MS : Nat) (h0 : xb_H) (Qr : xb_H → Prop) (y0 : Int32) (y1 : Nat) (h : xb_H) (hw : w_Machine_branch_L113 Qr y0 y1 h) : xb_am l D A σ 5 MC MS h0 (fun v h => v = none ∧ Qr h) (fun _ _ => False) y_Machine_branch.cls y_Machine_branch.name b_Machine_branch 4 ([] : List ExceptionTableEntry) none 113 [] [.int y0, .ref y1] h 0 0 := by
  unfold w_Machine_branch_L113 at hw
  intro p e s m args below meth c hC H locs ls k n hE hl hR hS hk hn
  obtain ⟨hx, hb, hown, hlocks, htab, hml, hr, hB, hA, hnm⟩ := id hC
  have hts := hB.1.1.at args
  refine lv_iconst (v := 1) hx hb (xb_d D_Machine_branch 72 rfl) (by decide) ?_
  refine lv_iadd hx hb (xb_d D_Machine_branch 73 rfl) ?_
  obtain ⟨hk1, hw⟩ := hw
  refine xb_putI (C := R_Machine) (T := F_Machine) (N := 18) (ty := .int) (x := (y0 + 1)) hx hb 7 15 hts fin_Machine t_Machine t_Machine_ok n_Machine hown hR hS hk1 (by decide) rfl (by decide) rfl (hts _ m_6a595805) (fun _ h9 => h9) rfl (by decide +kernel) rfl rfl (xb_d D_Machine_branch 74 rfl) (fun H locs hR hS => ?_)
  obtain ⟨h2, eh2⟩ : ∃ x : xb_H, x = xb_I h y1 15 (y0 + 1) := ⟨_, rfl⟩
  rw [← eh2] at hR
  have hw := hw h2 eh2
  have hE : xb_ext h0 h2 := by rw [eh2]; exact hE
  exact xb_vret hx hb hr hlocks (show k ≤ MC by omega) (show n ≤ MS by omega) hE hR hS (xb_d D_Machine_branch 75 rfl) hw

set_option maxHeartbeats 4000000 in
set_option maxRecDepth 100000 in
theorem am_Machine_branch_L78 (l : Launch) (hfl : l.flags = pinnedFlags ++ [noTraceFlag]) (D : va_G) (A : Nat → Prop) (σ MC MS : Nat) (h0 : xb_H) (Qr : xb_H → Prop) (x0 : Nat) (x1 : Int32) (x2 : Int32) (h : xb_H) (hw : w_Machine_branch_L78 Qr x0 x1 x2 h) : xb_am l D A σ 5 MC MS h0 (fun v h => v = none ∧ Qr h) (fun _ _ => False) y_Machine_branch.cls y_Machine_branch.name b_Machine_branch 4 ([] : List ExceptionTableEntry) none 78 [(0, .ref x0), (1, .int x1), (2, .int x2)] [] h 0 0 := by
  unfold w_Machine_branch_L78 at hw
  intro p e s m args below meth c hC H locs ls k n hE hl hR hS hk hn
  obtain ⟨hx, hb, hown, hlocks, htab, hml, hr, hB, hA, hnm⟩ := id hC
  have hts := hB.1.1.at args
  refine lv_aload_n hx hb (xb_d D_Machine_branch 49 rfl) rfl (lv_at hl 0 rfl) ?_
  refine lv_iload_n hx hb (xb_d D_Machine_branch 50 rfl) rfl (lv_at hl 2 rfl) ?_
  obtain ⟨hk1, hw⟩ := hw
  refine xb_putI (C := R_Machine) (T := F_Machine) (N := 18) (ty := .int) (x := x2) hx hb 7 10 hts fin_Machine t_Machine t_Machine_ok n_Machine hown hR hS hk1 (by decide) rfl (by decide) rfl (hts _ m_79cf62f6) (fun _ h9 => h9) rfl (by decide +kernel) rfl rfl (xb_d D_Machine_branch 51 rfl) (fun H locs hR hS => ?_)
  obtain ⟨h2, eh2⟩ : ∃ x : xb_H, x = xb_I h x0 10 x2 := ⟨_, rfl⟩
  rw [← eh2] at hR
  have hw := hw h2 eh2
  have hE : xb_ext h0 h2 := by rw [eh2]; exact hE
  refine lv_aload_n hx hb (xb_d D_Machine_branch 52 rfl) rfl (lv_at hl 0 rfl) ?_
  have hk1 : xb_k h2 x0 = 8 := by rw [eh2]; exact hk1
  refine xb_getP (C := R_Machine) (T := F_Machine) (N := 18) hx hb 7 14 hts fin_Machine hown hR hk1 (by decide) rfl (by decide) rfl (hts _ m_8f763f86) (fun _ h9 => h9) (xb_d D_Machine_branch 53 rfl) ?_
  obtain ⟨b3, eb3, hw⟩ := hw
  refine xb_some eb3 ?_
  refine lv_iload_n hx hb (xb_d D_Machine_branch 54 rfl) rfl (lv_at hl 1 rfl) ?_
  refine lv_iconst (v := 1) hx hb (xb_d D_Machine_branch 55 rfl) (by decide) ?_
  refine lv_iadd hx hb (xb_d D_Machine_branch 56 rfl) ?_
  obtain ⟨hk5, hw⟩ := hw
  obtain ⟨hi4, hw⟩ := hw
  refine xb_iald hx hb hR hk5 hi4 (xb_d D_Machine_branch 57 rfl) ?_
  obtain ⟨v6, ev6⟩ : ∃ x : Int32, x = (xb_i h2 b3 (Int32.toNatClampNeg (x1 + 1))) := ⟨_, rfl⟩
  have hw := hw v6 ev6
  refine xt_numi (y := v6) ev6.symm ?_
  refine lv_istore_n hx hb (xb_d D_Machine_branch 58 rfl) rfl hl (by decide) rfl (fun ls hl => ?_)
  have hl : lv_has ls 4 [(3, .int v6), (0, .ref x0), (1, .int x1), (2, .int x2)] := hl
  refine lv_aload_n hx hb (xb_d D_Machine_branch 59 rfl) rfl (lv_at hl 1 rfl) ?_
  refine lv_aload_n hx hb (xb_d D_Machine_branch 60 rfl) rfl (lv_at hl 1 rfl) ?_
  refine xb_getP (C := R_Machine) (T := F_Machine) (N := 18) hx hb 7 13 hts fin_Machine hown hR hk1 (by decide) rfl (by decide) rfl (hts _ m_a6a0f666) (fun _ h9 => h9) (xb_d D_Machine_branch 61 rfl) ?_
  obtain ⟨b7, eb7, hw⟩ := hw
  refine xb_some eb7 ?_
  refine lv_iload_n hx hb (xb_d D_Machine_branch 62 rfl) rfl (lv_at hl 0 rfl) ?_
  obtain ⟨hk9, hw⟩ := hw
  obtain ⟨hi8, hw⟩ := hw
  refine xb_bald hx hb hR hk9 hi8 (xb_d D_Machine_branch 63 rfl) ?_
  refine lv_iconst (v := 5) hx hb (xb_d D_Machine_branch 64 rfl) (by decide) ?_
  refine lv_icmp_ne (tgt := 112) hx hb (xb_d D_Machine_branch 65 rfl) rfl (fun hc10 => ?_) (fun hc10 => ?_)
  · have hw := hw.1 hc10
    refine lv_iload_n hx hb (xb_d D_Machine_branch 71 rfl) rfl (lv_at hl 0 rfl) ?_
    exact am_Machine_branch_L113 l hfl D A σ MC MS h0 Qr v6 x0 h2 hw p e s m args below meth c hC H locs ls k n hE (lv_sub hl [] rfl) hR hS (by omega) (by omega)
  · have hw := hw.2 hc10
    refine lv_aload_n hx hb (xb_d D_Machine_branch 66 rfl) rfl (lv_at hl 1 rfl) ?_
    refine xb_getP (C := R_Machine) (T := F_Machine) (N := 18) hx hb 7 14 hts fin_Machine hown hR hk1 (by decide) rfl (by decide) rfl (hts _ m_8f763f86) (fun _ h9 => h9) (xb_d D_Machine_branch 67 rfl) ?_
    obtain ⟨b11, eb11, hw⟩ := hw
    refine xb_some eb11 ?_
    refine lv_iload_n hx hb (xb_d D_Machine_branch 68 rfl) rfl (lv_at hl 0 rfl) ?_
    obtain ⟨hk13, hw⟩ := hw
    obtain ⟨hi12, hw⟩ := hw
    refine xb_iald hx hb hR hk13 hi12 (xb_d D_Machine_branch 69 rfl) ?_
    refine lv_goto (tgt := 113) hx hb (xb_d D_Machine_branch 70 rfl) rfl ?_
    exact am_Machine_branch_L113 l hfl D A σ MC MS h0 Qr (xb_i h2 b11 (Int32.toNatClampNeg v6)) x0 h2 hw p e s m args below meth c hC H locs ls k n hE (lv_sub hl [] rfl) hR hS (by omega) (by omega)

set_option maxHeartbeats 4000000 in
set_option maxRecDepth 100000 in
theorem ok_Machine_branch (l : Launch) (hfl : l.flags = pinnedFlags ++ [noTraceFlag]) (D : va_G) (A : Nat → Prop) (σ : Nat) (x0 : Nat) (x1 : Int32) (h : xb_H) (Qr : xb_H → Prop) (hw : w_Machine_branch x0 x1 h Qr) : xt_Met l y_Machine_branch [.code y_Machine_branch b_Machine_branch 4 none] (xb_rm 5 0 0) (xb_Pc D A σ h [.ref x0, .int x1]) (xb_Qc D A h (fun v h => v = none ∧ Qr h) (fun _ _ => False)) 0 0 A := by
  refine xb_ofAm (cc := b_Machine_branch) (by decide) (Nat.le_of_ble_eq_true rfl) ?_
  unfold w_Machine_branch at hw
  show xb_am l D A σ 5 0 0 h (fun v h => v = none ∧ Qr h) (fun _ _ => False) y_Machine_branch.cls y_Machine_branch.name b_Machine_branch 4 ([] : List ExceptionTableEntry) none 0 [(0, .ref x0), (1, .int x1)] [] h 0 0
  obtain ⟨MC, hMC⟩ : ∃ x, x = 0 := ⟨_, rfl⟩
  obtain ⟨MS, hMS⟩ : ∃ x, x = 0 := ⟨_, rfl⟩
  rw [show xb_am l D A σ 5 0 0 = xb_am l D A σ 5 MC MS by rw [hMC, hMS]]
  obtain ⟨h0, hh0⟩ : ∃ x, x = h := ⟨_, rfl⟩
  rw [show xb_am l D A σ 5 MC MS h = xb_am l D A σ 5 MC MS h0 by rw [hh0]]
  intro p e s m args below meth c hC H locs ls k n hE hl hR hS hk hn
  obtain ⟨hx, hb, hown, hlocks, htab, hml, hr, hB, hA, hnm⟩ := id hC
  have hts := hB.1.1.at args
  refine lv_iload_n hx hb (xb_d D_Machine_branch 0 rfl) rfl (lv_at hl 1 rfl) ?_
  refine lv_iconst (v := (-1)) hx hb (xb_d D_Machine_branch 1 rfl) (by decide) ?_
  refine lv_icmp_ne (tgt := 10) hx hb (xb_d D_Machine_branch 2 rfl) rfl (fun hc1 => ?_) (fun hc1 => ?_)
  · have hw := hw.1 hc1
    refine lv_aload_n hx hb (xb_d D_Machine_branch 6 rfl) rfl (lv_at hl 0 rfl) ?_
    obtain ⟨hk2, hw⟩ := hw
    refine xb_getI (C := R_Machine) (T := F_Machine) (N := 18) hx hb 7 17 hts fin_Machine hown hR hk2 (by decide) rfl (by decide) rfl (hts _ m_5027e2c0) (fun _ h9 => h9) (xb_d D_Machine_branch 7 rfl) ?_
    refine lv_aload_n hx hb (xb_d D_Machine_branch 8 rfl) rfl (lv_at hl 0 rfl) ?_
    refine xb_getP (C := R_Machine) (T := F_Machine) (N := 18) hx hb 7 14 hts fin_Machine hown hR hk2 (by decide) rfl (by decide) rfl (hts _ m_8f763f86) (fun _ h9 => h9) (xb_d D_Machine_branch 9 rfl) ?_
    obtain ⟨b3, eb3, hw⟩ := hw
    refine xb_some eb3 ?_
    refine lv_iload_n hx hb (xb_d D_Machine_branch 10 rfl) rfl (lv_at hl 1 rfl) ?_
    obtain ⟨hk5, hw⟩ := hw
    obtain ⟨hi4, hw⟩ := hw
    refine xb_iald hx hb hR hk5 hi4 (xb_d D_Machine_branch 11 rfl) ?_
    refine lv_iadd hx hb (xb_d D_Machine_branch 12 rfl) ?_
    obtain ⟨v6, ev6⟩ : ∃ x : Int32, x = ((xb_i h x0 17) + (xb_i h b3 (Int32.toNatClampNeg x1))) := ⟨_, rfl⟩
    have hw := hw v6 ev6
    refine xt_numi (y := v6) ev6.symm ?_
    refine lv_istore_n hx hb (xb_d D_Machine_branch 13 rfl) rfl hl (by decide) rfl (fun ls hl => ?_)
    have hl : lv_has ls 4 [(2, .int v6), (0, .ref x0), (1, .int x1)] := hl
    refine lv_aload_n hx hb (xb_d D_Machine_branch 14 rfl) rfl (lv_at hl 1 rfl) ?_
    refine xb_getP (C := R_Machine) (T := F_Machine) (N := 18) hx hb 7 13 hts fin_Machine hown hR hk2 (by decide) rfl (by decide) rfl (hts _ m_a6a0f666) (fun _ h9 => h9) (xb_d D_Machine_branch 15 rfl) ?_
    obtain ⟨b7, eb7, hw⟩ := hw
    refine xb_some eb7 ?_
    refine lv_iload_n hx hb (xb_d D_Machine_branch 16 rfl) rfl (lv_at hl 2 rfl) ?_
    obtain ⟨hk9, hw⟩ := hw
    obtain ⟨hi8, hw⟩ := hw
    refine xb_bald hx hb hR hk9 hi8 (xb_d D_Machine_branch 17 rfl) ?_
    refine lv_iconst (v := 3) hx hb (xb_d D_Machine_branch 18 rfl) (by decide) ?_
    refine lv_icmp_ne (tgt := 45) hx hb (xb_d D_Machine_branch 19 rfl) rfl (fun hc10 => ?_) (fun hc10 => ?_)
    · have hw := hw.1 hc10
      refine lv_aload_n hx hb (xb_d D_Machine_branch 29 rfl) rfl (lv_at hl 1 rfl) ?_
      refine xb_getP (C := R_Machine) (T := F_Machine) (N := 18) hx hb 7 13 hts fin_Machine hown hR hk2 (by decide) rfl (by decide) rfl (hts _ m_a6a0f666) (fun _ h9 => h9) (xb_d D_Machine_branch 30 rfl) ?_
      obtain ⟨b11, eb11, hw⟩ := hw
      refine xb_some eb11 ?_
      refine lv_iload_n hx hb (xb_d D_Machine_branch 31 rfl) rfl (lv_at hl 2 rfl) ?_
      refine lv_iconst (v := 1) hx hb (xb_d D_Machine_branch 32 rfl) (by decide) ?_
      refine lv_iadd hx hb (xb_d D_Machine_branch 33 rfl) ?_
      obtain ⟨hk13, hw⟩ := hw
      obtain ⟨hi12, hw⟩ := hw
      refine xb_bald hx hb hR hk13 hi12 (xb_d D_Machine_branch 34 rfl) ?_
      refine lv_bipush (v := 64) hx hb (xb_d D_Machine_branch 35 rfl) (by decide) ?_
      refine lv_icmp_eq (tgt := 78) hx hb (xb_d D_Machine_branch 36 rfl) rfl (fun hc14 => ?_) (fun hc14 => ?_)
      · have hw := hw.1 hc14
        exact am_Machine_branch_L78 l hfl D A σ MC MS h0 Qr x0 x1 v6 h hw p e s m args below meth c hC H locs ls k n hE (lv_sub hl [1, 2, 0] rfl) hR hS (by omega) (by omega)
      · have hw := hw.2 hc14
        refine lv_aload_n hx hb (xb_d D_Machine_branch 37 rfl) rfl (lv_at hl 1 rfl) ?_
        refine xb_getP (C := R_Machine) (T := F_Machine) (N := 18) hx hb 7 9 hts fin_Machine hown hR hk2 (by decide) rfl (by decide) rfl (hts _ m_6904195b) (fun _ h9 => h9) (xb_d D_Machine_branch 38 rfl) ?_
        obtain ⟨b15, eb15, hw⟩ := hw
        refine xb_some eb15 ?_
        refine lv_iload_n hx hb (xb_d D_Machine_branch 39 rfl) rfl (lv_at hl 0 rfl) ?_
        refine lv_aload_n hx hb (xb_d D_Machine_branch 40 rfl) rfl (lv_at hl 1 rfl) ?_
        refine xb_getP (C := R_Machine) (T := F_Machine) (N := 18) hx hb 7 9 hts fin_Machine hown hR hk2 (by decide) rfl (by decide) rfl (hts _ m_6904195b) (fun _ h9 => h9) (xb_d D_Machine_branch 41 rfl) ?_
        obtain ⟨b16, eb16, hw⟩ := hw
        refine xb_some eb16 ?_
        refine lv_aload_n hx hb (xb_d D_Machine_branch 42 rfl) rfl (lv_at hl 1 rfl) ?_
        refine xb_getI (C := R_Machine) (T := F_Machine) (N := 18) hx hb 7 10 hts fin_Machine hown hR hk2 (by decide) rfl (by decide) rfl (hts _ m_79cf62f6) (fun _ h9 => h9) (xb_d D_Machine_branch 43 rfl) ?_
        refine lv_iconst (v := 1) hx hb (xb_d D_Machine_branch 44 rfl) (by decide) ?_
        refine lv_isub hx hb (xb_d D_Machine_branch 45 rfl) ?_
        obtain ⟨hk18, hw⟩ := hw
        obtain ⟨hi17, hw⟩ := hw
        refine xb_lald hx hb hR hk18 hi17 (xb_d D_Machine_branch 46 rfl) ?_
        obtain ⟨hk19, hw⟩ := hw
        obtain ⟨hi20, hw⟩ := hw
        refine xb_last hx hb hR hS hk19 hi20 (xb_d D_Machine_branch 47 rfl) (fun H locs hR hS => ?_)
        obtain ⟨h21, eh21⟩ : ∃ x : xb_H, x = xb_L h b15 (Int32.toNatClampNeg v6) (xb_l h b16 (Int32.toNatClampNeg ((xb_i h x0 10) - 1))) := ⟨_, rfl⟩
        rw [← eh21] at hR
        have hw := hw h21 eh21
        have hE : xb_ext h0 h21 := by rw [eh21]; exact hE
        refine lv_iinc (v := (v6 + 1)) (k := 0) hx hb (xb_d D_Machine_branch 48 rfl) hl rfl (by first | rfl | decide) (by decide) rfl (fun ls hl => ?_)
        have hl : lv_has ls 4 [(2, .int (v6 + 1)), (0, .ref x0), (1, .int x1)] := hl
        exact am_Machine_branch_L78 l hfl D A σ MC MS h0 Qr x0 x1 (v6 + 1) h21 hw p e s m args below meth c hC H locs ls k n hE (lv_sub hl [1, 2, 0] rfl) hR hS (by omega) (by omega)
    · have hw := hw.2 hc10
      refine lv_aload_n hx hb (xb_d D_Machine_branch 20 rfl) rfl (lv_at hl 1 rfl) ?_
      refine lv_iload_n hx hb (xb_d D_Machine_branch 21 rfl) rfl (lv_at hl 0 rfl) ?_
      refine xb_putI (C := R_Machine) (T := F_Machine) (N := 18) (ty := .int) (x := v6) hx hb 7 10 hts fin_Machine t_Machine t_Machine_ok n_Machine hown hR hS hk2 (by decide) rfl (by decide) rfl (hts _ m_79cf62f6) (fun _ h9 => h9) rfl (by decide +kernel) rfl rfl (xb_d D_Machine_branch 22 rfl) (fun H locs hR hS => ?_)
      obtain ⟨h22, eh22⟩ : ∃ x : xb_H, x = xb_I h x0 10 v6 := ⟨_, rfl⟩
      rw [← eh22] at hR
      have hw := hw h22 eh22
      have hE : xb_ext h0 h22 := by rw [eh22]; exact hE
      refine lv_aload_n hx hb (xb_d D_Machine_branch 23 rfl) rfl (lv_at hl 1 rfl) ?_
      refine lv_iload_n hx hb (xb_d D_Machine_branch 24 rfl) rfl (lv_at hl 2 rfl) ?_
      refine lv_iconst (v := 2) hx hb (xb_d D_Machine_branch 25 rfl) (by decide) ?_
      refine lv_iadd hx hb (xb_d D_Machine_branch 26 rfl) ?_
      have hk2 : xb_k h22 x0 = 8 := by rw [eh22]; exact hk2
      refine xb_putI (C := R_Machine) (T := F_Machine) (N := 18) (ty := .int) (x := (x1 + 2)) hx hb 7 15 hts fin_Machine t_Machine t_Machine_ok n_Machine hown hR hS hk2 (by decide) rfl (by decide) rfl (hts _ m_6a595805) (fun _ h9 => h9) rfl (by decide +kernel) rfl rfl (xb_d D_Machine_branch 27 rfl) (fun H locs hR hS => ?_)
      obtain ⟨h23, eh23⟩ : ∃ x : xb_H, x = xb_I h22 x0 15 (x1 + 2) := ⟨_, rfl⟩
      rw [← eh23] at hR
      have hw := hw h23 eh23
      have hE : xb_ext h0 h23 := by rw [eh23]; exact hE
      exact xb_vret hx hb hr hlocks (show k ≤ MC by omega) (show n ≤ MS by omega) hE hR hS (xb_d D_Machine_branch 28 rfl) hw
  · have hw := hw.2 hc1
    refine lv_aload_n hx hb (xb_d D_Machine_branch 3 rfl) rfl (lv_at hl 0 rfl) ?_
    obtain ⟨hk24, hw⟩ := hw
    refine xb_call (D := D) (A := A) (σ := σ) (h := h) (d := 4) (mc := 0) (ms := 0) (maxL := 7) (rest := []) (av := [.ref x0]) (fun T hT X => by obtain ⟨cb, r1, r2, r3⟩ := xb_recv (ci := 7) hR rfl hk24 (by decide); exact xt_invV X hx hown (hts _ m_decb3334) (hts _ m_d830cba0) (hts _ m_0077867b) (xt_sigOf (hts _ m_d7f63aa1)) nm_Machine_endCall (by rw [hT]; exact r1) r2 r3 (g := F0 m 6 ls [.ref x0]) rfl (argsL := []) (rest := []) rfl rfl (by rw [hb]; exact (xb_d D_Machine_branch 4 rfl))) (ok_Machine_endCall l hfl D A σ x0 h _ hw) (hml.trans hl.1.symm) (by rw [hb]; exact (xb_d D_Machine_branch 4 rfl)) (Nat.le_of_ble_eq_true rfl) (Nat.le_of_ble_eq_true rfl) (Nat.le_of_ble_eq_true rfl) (show k + 0 ≤ MC by omega) (show n + 0 ≤ MS by omega) (xt_w1 hB.1 m_d7f63aa1) (xt_cdOf hB.1 m_d7f63aa1) (hts _ m_73451f9b) hB hR hS hA (fun vv h25 H locs hq hEh25 hR hS => ?_) (fun XX ax h25 H locs hq hEh25 hex hR hS => ?_)
    · obtain ⟨rfl, hw⟩ := hq
      have hw := hw hEh25
      have hE := hE.tr hEh25
      refine W.eq (g2 := F0 m 9 ls []) rfl ?_
      exact xb_vret hx hb hr hlocks (show k ≤ MC by omega) (show n ≤ MS by omega) hE hR hS (xb_d D_Machine_branch 5 rfl) hw
    · exact False.elim hq

theorem m_787d92a5 : (.fieldLink "StackHost$Machine" 172 "StackHost$World" "out" "LStackHost$Row;" : Cond) ∈ xt_tbl := xt_in (xt_t1 (List.mem_of_getElem? (i := 180) (by decide +kernel))) (by decide +kernel)
theorem m_ff376621 : (.methodLink "StackHost$Machine" 175 y_Row_add : Cond) ∈ xt_tbl := xt_in (xt_t7 (List.mem_of_getElem? (i := 219) (by decide +kernel))) (by decide +kernel)
set_option maxRecDepth 100000 in
def T_Machine_callHost : List (Nat × Instr × Nat) := [(0, .aload_n 0, 1), (1, .getfield 42, 3), (4, .getfield 172, 3), (7, .getfield 56, 3), (10, .sipush 4096, 3), (13, .if_icmp .lt 10, 3), (16, .aload_n 0, 1), (17, .bipush 10, 2), (19, .invokevirtual 156, 3), (22, .return_, 1), (23, .aload_n 0, 1), (24, .dup, 1), (25, .getfield 53, 3), (28, .iconst 1, 1), (29, .isub, 1), (30, .putfield 53, 3), (33, .aload_n 0, 1), (34, .getfield 42, 3), (37, .getfield 172, 3), (40, .aload_n 0, 1), (41, .getfield 35, 3), (44, .aload_n 0, 1), (45, .getfield 53, 3), (48, .laload, 1), (49, .invokevirtual 175, 3), (52, .aload_n 0, 1), (53, .iload_n 1, 1), (54, .putfield 108, 3), (57, .aload_n 0, 1), (58, .getfield 50, 3), (61, .ifCond .ne 8, 3), (64, .aload_n 0, 1), (65, .lconst 0, 1), (66, .invokevirtual 179, 3), (69, .return_, 1)]
theorem D_Machine_callHost : ∀ q ∈ T_Machine_callHost, decode b_Machine_callHost q.1 = .ok (q.2.1, q.2.2) := by decide +kernel
def w_Machine_callHost_L69 (Qr : xb_H → Prop) (h : xb_H) (bc : Nat) (bs : Nat) : Prop :=
    Qr h

def w_Machine_callHost (x0 : Nat) (x1 : Int32) (h : xb_H) (bc : Nat) (bs : Nat) (Qr : xb_H → Prop) : Prop :=
    xb_k h x0 = 8 ∧ ∃ b2 : Nat, (xb_r h x0 0) = some b2 ∧ xb_k h b2 = 7 ∧ ∃ b4 : Nat, (xb_r h b2 6) = some b4 ∧ xb_k h b4 = 2 ∧ (((xb_i h b4 1) < (4096 : Int32) → ∀ h7 : xb_H, h7 = xb_I h x0 10 ((xb_i h x0 10) - 1) → ∃ b8 : Nat, (xb_r h7 x0 0) = some b8 ∧ xb_k h7 b8 = 7 ∧ ∃ b10 : Nat, (xb_r h7 b8 6) = some b10 ∧ ∃ b11 : Nat, (xb_r h7 x0 9) = some b11 ∧ xb_k h7 b11 = 103 ∧ vp_in (xb_i h7 x0 10) (xb_n h7 b11) ∧ xb_k h7 b10 = 2 ∧ ∃ c17 sc17 : Nat, c17 ≤ bc ∧ sc17 ≤ bs ∧ w_Row_add b10 (xb_l h7 b11 (Int32.toNatClampNeg (xb_i h7 x0 10))) h7 c17 sc17 (fun (h15 : xb_H) => xb_ext h7 h15 → ∀ h18 : xb_H, h18 = xb_I h15 x0 15 x1 → ((¬ (xb_i h18 x0 4) = (0 : Int32) → w_Machine_callHost_L69 Qr h18 (bc - c17) (bs - sc17)) ∧ ((xb_i h18 x0 4) = (0 : Int32) → w_Machine_finish x0 0 h18 (fun (h20 : xb_H) => xb_ext h18 h20 → w_Machine_callHost_L69 Qr h20 (bc - c17) (bs - sc17)))))) ∧ (¬ (xb_i h b4 1) < (4096 : Int32) → w_Machine_fall x0 10 h (fun (h22 : xb_H) => xb_ext h h22 → Qr h22)))

set_option maxHeartbeats 4000000 in
set_option maxRecDepth 100000 in
theorem am_Machine_callHost_L69 (l : Launch) (hfl : l.flags = pinnedFlags ++ [noTraceFlag]) (D : va_G) (A : Nat → Prop) (σ MC MS : Nat) (h0 : xb_H) (Qr : xb_H → Prop) (h : xb_H) (bc : Nat) (bs : Nat) (hw : w_Machine_callHost_L69 Qr h bc bs) : xb_am l D A σ 5 MC MS h0 (fun v h => v = none ∧ Qr h) (fun _ _ => False) y_Machine_callHost.cls y_Machine_callHost.name b_Machine_callHost 2 ([] : List ExceptionTableEntry) none 69 [] [] h bc bs := by
  unfold w_Machine_callHost_L69 at hw
  intro p e s m args below meth c hC H locs ls k n hE hl hR hS hk hn
  obtain ⟨hx, hb, hown, hlocks, htab, hml, hr, hB, hA, hnm⟩ := id hC
  have hts := hB.1.1.at args
  exact xb_vret hx hb hr hlocks (show k ≤ MC by omega) (show n ≤ MS by omega) hE hR hS (xb_d D_Machine_callHost 34 rfl) hw

set_option maxHeartbeats 4000000 in
set_option maxRecDepth 100000 in
theorem ok_Machine_callHost (l : Launch) (hfl : l.flags = pinnedFlags ++ [noTraceFlag]) (D : va_G) (A : Nat → Prop) (σ : Nat) (x0 : Nat) (x1 : Int32) (h : xb_H) (bc : Nat) (bs : Nat) (Qr : xb_H → Prop) (hw : w_Machine_callHost x0 x1 h bc bs Qr) : xt_Met l y_Machine_callHost [.code y_Machine_callHost b_Machine_callHost 2 none] (xb_rm 5 bc bs) (xb_Pc D A σ h [.ref x0, .int x1]) (xb_Qc D A h (fun v h => v = none ∧ Qr h) (fun _ _ => False)) bc bs A := by
  refine xb_ofAm (cc := b_Machine_callHost) (by decide) (Nat.le_of_ble_eq_true rfl) ?_
  unfold w_Machine_callHost at hw
  show xb_am l D A σ 5 bc bs h (fun v h => v = none ∧ Qr h) (fun _ _ => False) y_Machine_callHost.cls y_Machine_callHost.name b_Machine_callHost 2 ([] : List ExceptionTableEntry) none 0 [(0, .ref x0), (1, .int x1)] [] h bc bs
  obtain ⟨MC, hMC⟩ : ∃ x, x = bc := ⟨_, rfl⟩
  obtain ⟨MS, hMS⟩ : ∃ x, x = bs := ⟨_, rfl⟩
  rw [show xb_am l D A σ 5 bc bs = xb_am l D A σ 5 MC MS by rw [hMC, hMS]]
  obtain ⟨h0, hh0⟩ : ∃ x, x = h := ⟨_, rfl⟩
  rw [show xb_am l D A σ 5 MC MS h = xb_am l D A σ 5 MC MS h0 by rw [hh0]]
  intro p e s m args below meth c hC H locs ls k n hE hl hR hS hk hn
  obtain ⟨hx, hb, hown, hlocks, htab, hml, hr, hB, hA, hnm⟩ := id hC
  have hts := hB.1.1.at args
  refine lv_aload_n hx hb (xb_d D_Machine_callHost 0 rfl) rfl (lv_at hl 0 rfl) ?_
  obtain ⟨hk1, hw⟩ := hw
  refine xb_getP (C := R_Machine) (T := F_Machine) (N := 18) hx hb 7 0 hts fin_Machine hown hR hk1 (by decide) rfl (by decide) rfl (hts _ m_436e7c8c) (fun _ h9 => h9) (xb_d D_Machine_callHost 1 rfl) ?_
  obtain ⟨b2, eb2, hw⟩ := hw
  refine xb_some eb2 ?_
  obtain ⟨hk3, hw⟩ := hw
  refine xb_getP (C := R_World) (T := F_World) (N := 16) hx hb 6 6 hts fin_World hown hR hk3 (by decide) rfl (by decide) rfl (hts _ m_787d92a5) (fun _ h9 => h9) (xb_d D_Machine_callHost 2 rfl) ?_
  obtain ⟨b4, eb4, hw⟩ := hw
  refine xb_some eb4 ?_
  obtain ⟨hk5, hw⟩ := hw
  refine xb_getI (C := R_Row) (T := F_Row) (N := 3) hx hb 1 1 hts fin_Row hown hR hk5 (by decide) rfl (by decide) rfl (hts _ m_7a6a28c3) (fun _ h9 => h9) (xb_d D_Machine_callHost 3 rfl) ?_
  refine lv_sipush (v := 4096) hx hb (xb_d D_Machine_callHost 4 rfl) (by decide) ?_
  refine lv_icmp_lt (tgt := 23) hx hb (xb_d D_Machine_callHost 5 rfl) rfl (fun hc6 => ?_) (fun hc6 => ?_)
  · have hw := hw.1 hc6
    refine lv_aload_n hx hb (xb_d D_Machine_callHost 10 rfl) rfl (lv_at hl 0 rfl) ?_
    refine lv_dup hx hb (xb_d D_Machine_callHost 11 rfl) rfl ?_
    refine xb_getI (C := R_Machine) (T := F_Machine) (N := 18) hx hb 7 10 hts fin_Machine hown hR hk1 (by decide) rfl (by decide) rfl (hts _ m_79cf62f6) (fun _ h9 => h9) (xb_d D_Machine_callHost 12 rfl) ?_
    refine lv_iconst (v := 1) hx hb (xb_d D_Machine_callHost 13 rfl) (by decide) ?_
    refine lv_isub hx hb (xb_d D_Machine_callHost 14 rfl) ?_
    refine xb_putI (C := R_Machine) (T := F_Machine) (N := 18) (ty := .int) (x := ((xb_i h x0 10) - 1)) hx hb 7 10 hts fin_Machine t_Machine t_Machine_ok n_Machine hown hR hS hk1 (by decide) rfl (by decide) rfl (hts _ m_79cf62f6) (fun _ h9 => h9) rfl (by decide +kernel) rfl rfl (xb_d D_Machine_callHost 15 rfl) (fun H locs hR hS => ?_)
    obtain ⟨h7, eh7⟩ : ∃ x : xb_H, x = xb_I h x0 10 ((xb_i h x0 10) - 1) := ⟨_, rfl⟩
    rw [← eh7] at hR
    have hw := hw h7 eh7
    have hE : xb_ext h0 h7 := by rw [eh7]; exact hE
    refine lv_aload_n hx hb (xb_d D_Machine_callHost 16 rfl) rfl (lv_at hl 0 rfl) ?_
    have hk1 : xb_k h7 x0 = 8 := by rw [eh7]; exact hk1
    refine xb_getP (C := R_Machine) (T := F_Machine) (N := 18) hx hb 7 0 hts fin_Machine hown hR hk1 (by decide) rfl (by decide) rfl (hts _ m_436e7c8c) (fun _ h9 => h9) (xb_d D_Machine_callHost 17 rfl) ?_
    obtain ⟨b8, eb8, hw⟩ := hw
    refine xb_some eb8 ?_
    obtain ⟨hk9, hw⟩ := hw
    refine xb_getP (C := R_World) (T := F_World) (N := 16) hx hb 6 6 hts fin_World hown hR hk9 (by decide) rfl (by decide) rfl (hts _ m_787d92a5) (fun _ h9 => h9) (xb_d D_Machine_callHost 18 rfl) ?_
    obtain ⟨b10, eb10, hw⟩ := hw
    refine xb_some eb10 ?_
    refine lv_aload_n hx hb (xb_d D_Machine_callHost 19 rfl) rfl (lv_at hl 0 rfl) ?_
    refine xb_getP (C := R_Machine) (T := F_Machine) (N := 18) hx hb 7 9 hts fin_Machine hown hR hk1 (by decide) rfl (by decide) rfl (hts _ m_6904195b) (fun _ h9 => h9) (xb_d D_Machine_callHost 20 rfl) ?_
    obtain ⟨b11, eb11, hw⟩ := hw
    refine xb_some eb11 ?_
    refine lv_aload_n hx hb (xb_d D_Machine_callHost 21 rfl) rfl (lv_at hl 0 rfl) ?_
    refine xb_getI (C := R_Machine) (T := F_Machine) (N := 18) hx hb 7 10 hts fin_Machine hown hR hk1 (by decide) rfl (by decide) rfl (hts _ m_79cf62f6) (fun _ h9 => h9) (xb_d D_Machine_callHost 22 rfl) ?_
    obtain ⟨hk13, hw⟩ := hw
    obtain ⟨hi12, hw⟩ := hw
    refine xb_lald hx hb hR hk13 hi12 (xb_d D_Machine_callHost 23 rfl) ?_
    obtain ⟨hk14, hw⟩ := hw
    obtain ⟨c17, sc17, hlc17, hlsc17, hw⟩ := hw
    refine xb_call (D := D) (A := A) (σ := σ) (h := h7) (d := 4) (mc := c17) (ms := sc17) (maxL := 3) (rest := []) (av := [.ref b10, .long (xb_l h7 b11 (Int32.toNatClampNeg (xb_i h7 x0 10)))]) (fun T hT X => by obtain ⟨cb, r1, r2, r3⟩ := xb_recv (ci := 1) hR rfl hk14 (by decide); exact xt_invV X hx hown (hts _ m_ff376621) (hts _ m_7e8d081f) (hts _ m_4e47f51a) (xt_sigOf (hts _ m_4f1bdc54)) nm_Row_add (by rw [hT]; exact r1) r2 r3 (g := F0 m 49 ls [.long (xb_l h7 b11 (Int32.toNatClampNeg (xb_i h7 x0 10))), .ref b10]) rfl (argsL := [.long (xb_l h7 b11 (Int32.toNatClampNeg (xb_i h7 x0 10)))]) (rest := []) rfl rfl (by rw [hb]; exact (xb_d D_Machine_callHost 24 rfl))) (ok_Row_add l hfl D A σ b10 (xb_l h7 b11 (Int32.toNatClampNeg (xb_i h7 x0 10))) h7 c17 sc17 _ hw) (hml.trans hl.1.symm) (by rw [hb]; exact (xb_d D_Machine_callHost 24 rfl)) (Nat.le_of_ble_eq_true rfl) (Nat.le_of_ble_eq_true rfl) (Nat.le_of_ble_eq_true rfl) (show k + c17 ≤ MC by omega) (show n + sc17 ≤ MS by omega) (xt_w1 hB.1 m_4f1bdc54) (xt_cdOf hB.1 m_4f1bdc54) (hts _ m_c1bef504) hB hR hS hA (fun vv h15 H locs hq hEh15 hR hS => ?_) (fun XX ax h15 H locs hq hEh15 hex hR hS => ?_)
    · obtain ⟨rfl, hw⟩ := hq
      have hw := hw hEh15
      have hE := hE.tr hEh15
      refine W.eq (g2 := F0 m 52 ls []) rfl ?_
      refine lv_aload_n hx hb (xb_d D_Machine_callHost 25 rfl) rfl (lv_at hl 0 rfl) ?_
      refine lv_iload_n hx hb (xb_d D_Machine_callHost 26 rfl) rfl (lv_at hl 1 rfl) ?_
      have hk1 : xb_k h15 x0 = 8 := hEh15.k hk1
      refine xb_putI (C := R_Machine) (T := F_Machine) (N := 18) (ty := .int) (x := x1) hx hb 7 15 hts fin_Machine t_Machine t_Machine_ok n_Machine hown hR hS hk1 (by decide) rfl (by decide) rfl (hts _ m_6a595805) (fun _ h9 => h9) rfl (by decide +kernel) rfl rfl (xb_d D_Machine_callHost 27 rfl) (fun H locs hR hS => ?_)
      obtain ⟨h18, eh18⟩ : ∃ x : xb_H, x = xb_I h15 x0 15 x1 := ⟨_, rfl⟩
      rw [← eh18] at hR
      have hw := hw h18 eh18
      have hE : xb_ext h0 h18 := by rw [eh18]; exact hE
      refine lv_aload_n hx hb (xb_d D_Machine_callHost 28 rfl) rfl (lv_at hl 0 rfl) ?_
      have hk1 : xb_k h18 x0 = 8 := by rw [eh18]; exact hk1
      refine xb_getI (C := R_Machine) (T := F_Machine) (N := 18) hx hb 7 4 hts fin_Machine hown hR hk1 (by decide) rfl (by decide) rfl (hts _ m_61f414b6) (fun _ h9 => h9) (xb_d D_Machine_callHost 29 rfl) ?_
      refine lv_if_ne (tgt := 69) hx hb (xb_d D_Machine_callHost 30 rfl) rfl (fun hc19 => ?_) (fun hc19 => ?_)
      · have hw := hw.1 hc19
        exact am_Machine_callHost_L69 l hfl D A σ MC MS h0 Qr h18 (bc - c17) (bs - sc17) hw p e s m args below meth c hC H locs ls (k + c17) (n + sc17) hE (lv_sub hl [] rfl) hR hS (by omega) (by omega)
      · have hw := hw.2 hc19
        refine lv_aload_n hx hb (xb_d D_Machine_callHost 31 rfl) rfl (lv_at hl 0 rfl) ?_
        refine lv_lconst (v := 0) hx hb (xb_d D_Machine_callHost 32 rfl) (by decide) ?_
        refine xb_call (D := D) (A := A) (σ := σ) (h := h18) (d := 2) (mc := 0) (ms := 0) (maxL := 3) (rest := []) (av := [.ref x0, .long 0]) (fun T hT X => by obtain ⟨cb, r1, r2, r3⟩ := xb_recv (ci := 7) hR rfl hk1 (by decide); exact xt_invV X hx hown (hts _ m_982264a8) (hts _ m_f9ad050c) (hts _ m_68070468) (xt_sigOf (hts _ m_3e244fcc)) nm_Machine_finish (by rw [hT]; exact r1) r2 r3 (g := F0 m 66 ls [.long 0, .ref x0]) rfl (argsL := [.long 0]) (rest := []) rfl rfl (by rw [hb]; exact (xb_d D_Machine_callHost 33 rfl))) (ok_Machine_finish l hfl D A σ x0 0 h18 _ hw) (hml.trans hl.1.symm) (by rw [hb]; exact (xb_d D_Machine_callHost 33 rfl)) (Nat.le_of_ble_eq_true rfl) (Nat.le_of_ble_eq_true rfl) (Nat.le_of_ble_eq_true rfl) (show (k + c17) + 0 ≤ MC by omega) (show (n + sc17) + 0 ≤ MS by omega) (xt_w1 hB.1 m_3e244fcc) (xt_cdOf hB.1 m_3e244fcc) (hts _ m_73451f9b) hB hR hS hA (fun vv h20 H locs hq hEh20 hR hS => ?_) (fun XX ax h20 H locs hq hEh20 hex hR hS => ?_)
        · obtain ⟨rfl, hw⟩ := hq
          have hw := hw hEh20
          have hE := hE.tr hEh20
          refine W.eq (g2 := F0 m 69 ls []) rfl ?_
          exact am_Machine_callHost_L69 l hfl D A σ MC MS h0 Qr h20 (bc - c17) (bs - sc17) hw p e s m args below meth c hC H locs ls (k + c17) (n + sc17) hE (lv_sub hl [] rfl) hR hS (by omega) (by omega)
        · exact False.elim hq
    · exact False.elim hq
  · have hw := hw.2 hc6
    refine lv_aload_n hx hb (xb_d D_Machine_callHost 6 rfl) rfl (lv_at hl 0 rfl) ?_
    refine lv_bipush (v := 10) hx hb (xb_d D_Machine_callHost 7 rfl) (by decide) ?_
    refine xb_call (D := D) (A := A) (σ := σ) (h := h) (d := 2) (mc := 0) (ms := 0) (maxL := 3) (rest := []) (av := [.ref x0, .int 10]) (fun T hT X => by obtain ⟨cb, r1, r2, r3⟩ := xb_recv (ci := 7) hR rfl hk1 (by decide); exact xt_invV X hx hown (hts _ m_8f5db99d) (hts _ m_0ddc8afe) (hts _ m_f5561462) (xt_sigOf (hts _ m_f0d4fd47)) nm_Machine_fall (by rw [hT]; exact r1) r2 r3 (g := F0 m 19 ls [.int 10, .ref x0]) rfl (argsL := [.int 10]) (rest := []) rfl rfl (by rw [hb]; exact (xb_d D_Machine_callHost 8 rfl))) (ok_Machine_fall l hfl D A σ x0 10 h _ hw) (hml.trans hl.1.symm) (by rw [hb]; exact (xb_d D_Machine_callHost 8 rfl)) (Nat.le_of_ble_eq_true rfl) (Nat.le_of_ble_eq_true rfl) (Nat.le_of_ble_eq_true rfl) (show k + 0 ≤ MC by omega) (show n + 0 ≤ MS by omega) (xt_w1 hB.1 m_f0d4fd47) (xt_cdOf hB.1 m_f0d4fd47) (hts _ m_73451f9b) hB hR hS hA (fun vv h22 H locs hq hEh22 hR hS => ?_) (fun XX ax h22 H locs hq hEh22 hex hR hS => ?_)
    · obtain ⟨rfl, hw⟩ := hq
      have hw := hw hEh22
      have hE := hE.tr hEh22
      refine W.eq (g2 := F0 m 22 ls []) rfl ?_
      exact xb_vret hx hb hr hlocks (show k ≤ MC by omega) (show n ≤ MS by omega) hE hR hS (xb_d D_Machine_callHost 9 rfl) hw
    · exact False.elim hq

theorem m_cc3e2345 : (.fieldLink "StackHost$Machine" 239 "StackHost$Instance" "table" "LStackHost$Table;" : Cond) ∈ xt_tbl := xt_in (xt_t7 (List.mem_of_getElem? (i := 14) (by decide +kernel))) (by decide +kernel)
theorem m_77b75e41 : (.fieldLink "StackHost$Machine" 243 "StackHost$Table" "size" "I" : Cond) ∈ xt_tbl := xt_in (xt_t7 (List.mem_of_getElem? (i := 56) (by decide +kernel))) (by decide +kernel)
theorem m_ea6ed739 : (.fieldLink "StackHost$Machine" 246 "StackHost$World" "elements" "LStackHost$Row;" : Cond) ∈ xt_tbl := xt_in (xt_t1 (List.mem_of_getElem? (i := 176) (by decide +kernel))) (by decide +kernel)
theorem m_622544a8 : (.fieldLink "StackHost$Machine" 249 "StackHost$Table" "from" "I" : Cond) ∈ xt_tbl := xt_in (xt_t7 (List.mem_of_getElem? (i := 51) (by decide +kernel))) (by decide +kernel)
theorem m_f57edc11 : (.methodLink "StackHost$Machine" 154 y_Row_at : Cond) ∈ xt_tbl := xt_in (xt_t7 (List.mem_of_getElem? (i := 226) (by decide +kernel))) (by decide +kernel)
theorem m_60d23c68 : (.methodLink "StackHost$Machine" 252 y_World_fits : Cond) ∈ xt_tbl := xt_in (xt_t9 (List.mem_of_getElem? (i := 22) (by decide +kernel))) (by decide +kernel)
theorem m_694f954f : (.instanceMethod y_World_fits : Cond) ∈ xt_tbl := xt_in (xt_t6 (List.mem_of_getElem? (i := 133) (by decide +kernel))) (by decide +kernel)
theorem m_d14fe5df : (.selects "StackHost$World" y_World_fits y_World_fits : Cond) ∈ xt_tbl := xt_in (xt_t6 (List.mem_of_getElem? (i := 134) (by decide +kernel))) (by decide +kernel)
theorem m_af77d148 : (.code y_World_fits b_World_fits 5 (some .boolean) : Cond) ∈ xt_tbl := xt_in (xt_t6 (List.mem_of_getElem? (i := 135) (by decide +kernel))) (by decide +kernel)
theorem nm_World_fits : xt_nm y_World_fits 3 := ⟨by decide +kernel, by decide +kernel⟩
set_option maxRecDepth 100000 in
def T_Machine_chosenElement : List (Nat × Instr × Nat) := [(0, .aload_n 0, 1), (1, .dup, 1), (2, .getfield 53, 3), (5, .iconst 1, 1), (6, .isub, 1), (7, .putfield 53, 3), (10, .aload_n 0, 1), (11, .getfield 117, 3), (14, .getfield 239, 3), (17, .astore_n 1, 1), (18, .aload_n 0, 1), (19, .getfield 35, 3), (22, .aload_n 0, 1), (23, .getfield 53, 3), (26, .laload, 1), (27, .aload_n 1, 1), (28, .getfield 243, 3), (31, .i2l, 1), (32, .lcmp, 1), (33, .ifCond .lt 11, 3), (36, .aload_n 0, 1), (37, .bipush 6, 2), (39, .invokevirtual 156, 3), (42, .iconst (-1), 1), (43, .ireturn, 1), (44, .aload_n 0, 1), (45, .getfield 42, 3), (48, .getfield 246, 3), (51, .aload_n 1, 1), (52, .getfield 249, 3), (55, .aload_n 0, 1), (56, .getfield 35, 3), (59, .aload_n 0, 1), (60, .getfield 53, 3), (63, .laload, 1), (64, .l2i, 1), (65, .iadd, 1), (66, .iconst 0, 1), (67, .invokevirtual 154, 3), (70, .istore_n 2, 1), (71, .iload_n 2, 1), (72, .iconst (-1), 1), (73, .if_icmp .ne 12, 3), (76, .aload_n 0, 1), (77, .bipush 7, 2), (79, .invokevirtual 156, 3), (82, .goto 40, 3), (85, .aload_n 0, 1), (86, .getfield 42, 3), (89, .iload_n 2, 1), (90, .aload_n 0, 1), (91, .getfield 117, 3), (94, .getfield 139, 3), (97, .aload_n 0, 1), (98, .getfield 111, 3), (101, .aload_n 0, 1), (102, .getfield 108, 3), (105, .iconst 1, 1), (106, .iadd, 1), (107, .iaload, 1), (108, .invokevirtual 252, 3), (111, .ifCond .ne 11, 3), (114, .aload_n 0, 1), (115, .bipush 8, 2), (117, .invokevirtual 156, 3), (120, .iconst (-1), 1), (121, .ireturn, 1), (122, .iload_n 2, 1), (123, .ireturn, 1)]
theorem D_Machine_chosenElement : ∀ q ∈ T_Machine_chosenElement, decode b_Machine_chosenElement q.1 = .ok (q.2.1, q.2.2) := by decide +kernel
def w_Machine_chosenElement_L122 (Qr : Int32 → xb_H → Prop) (x2 : Int32) (h : xb_H) : Prop :=
    Qr x2 h

def w_Machine_chosenElement (x0 : Nat) (h : xb_H) (Qr : Int32 → xb_H → Prop) : Prop :=
    xb_k h x0 = 8 ∧ ∀ h2 : xb_H, h2 = xb_I h x0 10 ((xb_i h x0 10) - 1) → ∃ b3 : Nat, (xb_r h2 x0 12) = some b3 ∧ xb_k h2 b3 = 11 ∧ (((xb_r h2 b3 6) = none → ∃ b6 : Nat, (xb_r h2 x0 9) = some b6 ∧ xb_k h2 b6 = 103 ∧ vp_in (xb_i h2 x0 10) (xb_n h2 b6) ∧ xb_k h2 None = 12 ∧ (((xb_l h2 b6 (Int32.toNatClampNeg (xb_i h2 x0 10))) < (Int32.toInt64 (xb_i h2 None 1)) → ∃ b11 : Nat, (xb_r h2 x0 0) = some b11 ∧ xb_k h2 b11 = 7 ∧ ∃ b13 : Nat, (xb_r h2 b11 4) = some b13 ∧ ∃ b14 : Nat, (xb_r h2 x0 9) = some b14 ∧ xb_k h2 b14 = 103 ∧ vp_in (xb_i h2 x0 10) (xb_n h2 b14) ∧ xb_k h2 b13 = 2 ∧ w_Row_at b13 ((xb_i h2 None 0) + (Int64.toInt32 (xb_l h2 b14 (Int32.toNatClampNeg (xb_i h2 x0 10))))) 0 h2 (fun (r19 : Int32) (h18 : xb_H) => xb_ext h2 h18 → ((¬ r19 = ((-1) : Int32) → ∃ b21 : Nat, (xb_r h18 x0 0) = some b21 ∧ ∃ b22 : Nat, (xb_r h18 x0 12) = some b22 ∧ xb_k h18 b22 = 11 ∧ ∃ b24 : Nat, (xb_r h18 b22 1) = some b24 ∧ ∃ b25 : Nat, (xb_r h18 x0 14) = some b25 ∧ xb_k h18 b25 = 102 ∧ vp_in ((xb_i h18 x0 15) + 1) (xb_n h18 b25) ∧ xb_k h18 b21 = 7 ∧ w_World_fits b21 r19 b24 (xb_i h18 b25 (Int32.toNatClampNeg ((xb_i h18 x0 15) + 1))) h18 (fun (r30 : Int32) (h29 : xb_H) => xb_ext h18 h29 → ((¬ r30 = (0 : Int32) → w_Machine_chosenElement_L122 Qr r19 h29) ∧ (r30 = (0 : Int32) → w_Machine_fall x0 8 h29 (fun (h32 : xb_H) => xb_ext h29 h32 → Qr (-1) h32))))) ∧ (r19 = ((-1) : Int32) → w_Machine_fall x0 7 h18 (fun (h34 : xb_H) => xb_ext h18 h34 → w_Machine_chosenElement_L122 Qr r19 h34))))) ∧ (¬ (xb_l h2 b6 (Int32.toNatClampNeg (xb_i h2 x0 10))) < (Int32.toInt64 (xb_i h2 None 1)) → w_Machine_fall x0 6 h2 (fun (h36 : xb_H) => xb_ext h2 h36 → Qr (-1) h36)))) ∧ (∀ b5 : Nat, (xb_r h2 b3 6) = some b5 → ∃ b38 : Nat, (xb_r h2 x0 9) = some b38 ∧ xb_k h2 b38 = 103 ∧ vp_in (xb_i h2 x0 10) (xb_n h2 b38) ∧ xb_k h2 b5 = 12 ∧ (((xb_l h2 b38 (Int32.toNatClampNeg (xb_i h2 x0 10))) < (Int32.toInt64 (xb_i h2 b5 1)) → ∃ b43 : Nat, (xb_r h2 x0 0) = some b43 ∧ xb_k h2 b43 = 7 ∧ ∃ b45 : Nat, (xb_r h2 b43 4) = some b45 ∧ ∃ b46 : Nat, (xb_r h2 x0 9) = some b46 ∧ xb_k h2 b46 = 103 ∧ vp_in (xb_i h2 x0 10) (xb_n h2 b46) ∧ xb_k h2 b45 = 2 ∧ w_Row_at b45 ((xb_i h2 b5 0) + (Int64.toInt32 (xb_l h2 b46 (Int32.toNatClampNeg (xb_i h2 x0 10))))) 0 h2 (fun (r51 : Int32) (h50 : xb_H) => xb_ext h2 h50 → ((¬ r51 = ((-1) : Int32) → ∃ b53 : Nat, (xb_r h50 x0 0) = some b53 ∧ ∃ b54 : Nat, (xb_r h50 x0 12) = some b54 ∧ xb_k h50 b54 = 11 ∧ ∃ b56 : Nat, (xb_r h50 b54 1) = some b56 ∧ ∃ b57 : Nat, (xb_r h50 x0 14) = some b57 ∧ xb_k h50 b57 = 102 ∧ vp_in ((xb_i h50 x0 15) + 1) (xb_n h50 b57) ∧ xb_k h50 b53 = 7 ∧ w_World_fits b53 r51 b56 (xb_i h50 b57 (Int32.toNatClampNeg ((xb_i h50 x0 15) + 1))) h50 (fun (r62 : Int32) (h61 : xb_H) => xb_ext h50 h61 → ((¬ r62 = (0 : Int32) → w_Machine_chosenElement_L122 Qr r51 h61) ∧ (r62 = (0 : Int32) → w_Machine_fall x0 8 h61 (fun (h64 : xb_H) => xb_ext h61 h64 → Qr (-1) h64))))) ∧ (r51 = ((-1) : Int32) → w_Machine_fall x0 7 h50 (fun (h66 : xb_H) => xb_ext h50 h66 → w_Machine_chosenElement_L122 Qr r51 h66))))) ∧ (¬ (xb_l h2 b38 (Int32.toNatClampNeg (xb_i h2 x0 10))) < (Int32.toInt64 (xb_i h2 b5 1)) → w_Machine_fall x0 6 h2 (fun (h68 : xb_H) => xb_ext h2 h68 → Qr (-1) h68)))))

set_option maxHeartbeats 4000000 in
set_option maxRecDepth 100000 in
theorem am_Machine_chosenElement_L122 (l : Launch) (hfl : l.flags = pinnedFlags ++ [noTraceFlag]) (D : va_G) (A : Nat → Prop) (σ MC MS : Nat) (h0 : xb_H) (Qr : Int32 → xb_H → Prop) (x2 : Int32) (h : xb_H) (hw : w_Machine_chosenElement_L122 Qr x2 h) : xb_am l D A σ 5 MC MS h0 (fun v h => ∃ r, v = some (.int r) ∧ Qr r h) (fun _ _ => False) y_Machine_chosenElement.cls y_Machine_chosenElement.name b_Machine_chosenElement 3 ([] : List ExceptionTableEntry) (some .int) 122 [(2, .int x2)] [] h 0 0 := by
  unfold w_Machine_chosenElement_L122 at hw
  intro p e s m args below meth c hC H locs ls k n hE hl hR hS hk hn
  obtain ⟨hx, hb, hown, hlocks, htab, hml, hr, hB, hA, hnm⟩ := id hC
  have hts := hB.1.1.at args
  refine lv_iload_n hx hb (xb_d D_Machine_chosenElement 67 rfl) rfl (lv_at hl 0 rfl) ?_
  exact xb_iret hx hb hr hlocks (show k ≤ MC by omega) (show n ≤ MS by omega) hE hR hS (xb_d D_Machine_chosenElement 68 rfl) hw

set_option maxHeartbeats 4000000 in
set_option maxRecDepth 100000 in
theorem ok_Machine_chosenElement (l : Launch) (hfl : l.flags = pinnedFlags ++ [noTraceFlag]) (D : va_G) (A : Nat → Prop) (σ : Nat) (x0 : Nat) (h : xb_H) (Qr : Int32 → xb_H → Prop) (hw : w_Machine_chosenElement x0 h Qr) : xt_Met l y_Machine_chosenElement [.code y_Machine_chosenElement b_Machine_chosenElement 3 (some .int)] (xb_rm 5 0 0) (xb_Pc D A σ h [.ref x0]) (xb_Qc D A h (fun v h => ∃ r, v = some (.int r) ∧ Qr r h) (fun _ _ => False)) 0 0 A := by
  refine xb_ofAm (cc := b_Machine_chosenElement) (by decide) (Nat.le_of_ble_eq_true rfl) ?_
  unfold w_Machine_chosenElement at hw
  show xb_am l D A σ 5 0 0 h (fun v h => ∃ r, v = some (.int r) ∧ Qr r h) (fun _ _ => False) y_Machine_chosenElement.cls y_Machine_chosenElement.name b_Machine_chosenElement 3 ([] : List ExceptionTableEntry) (some .int) 0 [(0, .ref x0)] [] h 0 0
  obtain ⟨MC, hMC⟩ : ∃ x, x = 0 := ⟨_, rfl⟩
  obtain ⟨MS, hMS⟩ : ∃ x, x = 0 := ⟨_, rfl⟩
  rw [show xb_am l D A σ 5 0 0 = xb_am l D A σ 5 MC MS by rw [hMC, hMS]]
  obtain ⟨h0, hh0⟩ : ∃ x, x = h := ⟨_, rfl⟩
  rw [show xb_am l D A σ 5 MC MS h = xb_am l D A σ 5 MC MS h0 by rw [hh0]]
  intro p e s m args below meth c hC H locs ls k n hE hl hR hS hk hn
  obtain ⟨hx, hb, hown, hlocks, htab, hml, hr, hB, hA, hnm⟩ := id hC
  have hts := hB.1.1.at args
  refine lv_aload_n hx hb (xb_d D_Machine_chosenElement 0 rfl) rfl (lv_at hl 0 rfl) ?_
  refine lv_dup hx hb (xb_d D_Machine_chosenElement 1 rfl) rfl ?_
  obtain ⟨hk1, hw⟩ := hw
  refine xb_getI (C := R_Machine) (T := F_Machine) (N := 18) hx hb 7 10 hts fin_Machine hown hR hk1 (by decide) rfl (by decide) rfl (hts _ m_79cf62f6) (fun _ h9 => h9) (xb_d D_Machine_chosenElement 2 rfl) ?_
  refine lv_iconst (v := 1) hx hb (xb_d D_Machine_chosenElement 3 rfl) (by decide) ?_
  refine lv_isub hx hb (xb_d D_Machine_chosenElement 4 rfl) ?_
  refine xb_putI (C := R_Machine) (T := F_Machine) (N := 18) (ty := .int) (x := ((xb_i h x0 10) - 1)) hx hb 7 10 hts fin_Machine t_Machine t_Machine_ok n_Machine hown hR hS hk1 (by decide) rfl (by decide) rfl (hts _ m_79cf62f6) (fun _ h9 => h9) rfl (by decide +kernel) rfl rfl (xb_d D_Machine_chosenElement 5 rfl) (fun H locs hR hS => ?_)
  obtain ⟨h2, eh2⟩ : ∃ x : xb_H, x = xb_I h x0 10 ((xb_i h x0 10) - 1) := ⟨_, rfl⟩
  rw [← eh2] at hR
  have hw := hw h2 eh2
  have hE : xb_ext h0 h2 := by rw [eh2]; exact hE
  refine lv_aload_n hx hb (xb_d D_Machine_chosenElement 6 rfl) rfl (lv_at hl 0 rfl) ?_
  have hk1 : xb_k h2 x0 = 8 := by rw [eh2]; exact hk1
  refine xb_getP (C := R_Machine) (T := F_Machine) (N := 18) hx hb 7 12 hts fin_Machine hown hR hk1 (by decide) rfl (by decide) rfl (hts _ m_a347cb26) (fun _ h9 => h9) (xb_d D_Machine_chosenElement 7 rfl) ?_
  obtain ⟨b3, eb3, hw⟩ := hw
  refine xb_some eb3 ?_
  obtain ⟨hk4, hw⟩ := hw
  refine xb_getP (C := R_Instance) (T := F_Instance) (N := 8) hx hb 10 6 hts fin_Instance hown hR hk4 (by decide) rfl (by decide) rfl (hts _ m_cc3e2345) (fun _ h9 => h9) (xb_d D_Machine_chosenElement 8 rfl) ?_
  refine xb_split (fun ho => ?_) (fun b5 ho => ?_)
  · have hw := hw.1 ho
    refine lv_astore_nN hx hb (xb_d D_Machine_chosenElement 9 rfl) rfl hl (by decide) rfl (fun ls hl => ?_)
    have hl : lv_has ls 3 [(1, .null), (0, .ref x0)] := hl
    refine lv_aload_n hx hb (xb_d D_Machine_chosenElement 10 rfl) rfl (lv_at hl 1 rfl) ?_
    refine xb_getP (C := R_Machine) (T := F_Machine) (N := 18) hx hb 7 9 hts fin_Machine hown hR hk1 (by decide) rfl (by decide) rfl (hts _ m_6904195b) (fun _ h9 => h9) (xb_d D_Machine_chosenElement 11 rfl) ?_
    obtain ⟨b6, eb6, hw⟩ := hw
    refine xb_some eb6 ?_
    refine lv_aload_n hx hb (xb_d D_Machine_chosenElement 12 rfl) rfl (lv_at hl 1 rfl) ?_
    refine xb_getI (C := R_Machine) (T := F_Machine) (N := 18) hx hb 7 10 hts fin_Machine hown hR hk1 (by decide) rfl (by decide) rfl (hts _ m_79cf62f6) (fun _ h9 => h9) (xb_d D_Machine_chosenElement 13 rfl) ?_
    obtain ⟨hk8, hw⟩ := hw
    obtain ⟨hi7, hw⟩ := hw
    refine xb_lald hx hb hR hk8 hi7 (xb_d D_Machine_chosenElement 14 rfl) ?_
    refine lv_aload_nN hx hb (xb_d D_Machine_chosenElement 15 rfl) rfl (lv_at hl 0 rfl) ?_
    obtain ⟨hk9, hw⟩ := hw
    refine xb_getI (C := R_Table) (T := F_Table) (N := 3) hx hb 11 1 hts fin_Table hown hR hk9 (by decide) rfl (by decide) rfl (hts _ m_77b75e41) (fun _ h9 => h9) (xb_d D_Machine_chosenElement 16 rfl) ?_
    refine lv_i2l hx hb (xb_d D_Machine_chosenElement 17 rfl) rfl ?_
    refine xb_lc_lt (tgt := 44) hx hb (xb_d D_Machine_chosenElement 18 rfl) (xb_d D_Machine_chosenElement 19 rfl) rfl (fun hc10 => ?_) (fun hc10 => ?_)
    · have hw := hw.1 hc10
      refine lv_aload_n hx hb (xb_d D_Machine_chosenElement 25 rfl) rfl (lv_at hl 1 rfl) ?_
      refine xb_getP (C := R_Machine) (T := F_Machine) (N := 18) hx hb 7 0 hts fin_Machine hown hR hk1 (by decide) rfl (by decide) rfl (hts _ m_436e7c8c) (fun _ h9 => h9) (xb_d D_Machine_chosenElement 26 rfl) ?_
      obtain ⟨b11, eb11, hw⟩ := hw
      refine xb_some eb11 ?_
      obtain ⟨hk12, hw⟩ := hw
      refine xb_getP (C := R_World) (T := F_World) (N := 16) hx hb 6 4 hts fin_World hown hR hk12 (by decide) rfl (by decide) rfl (hts _ m_ea6ed739) (fun _ h9 => h9) (xb_d D_Machine_chosenElement 27 rfl) ?_
      obtain ⟨b13, eb13, hw⟩ := hw
      refine xb_some eb13 ?_
      refine lv_aload_nN hx hb (xb_d D_Machine_chosenElement 28 rfl) rfl (lv_at hl 0 rfl) ?_
      refine xb_getI (C := R_Table) (T := F_Table) (N := 3) hx hb 11 0 hts fin_Table hown hR hk9 (by decide) rfl (by decide) rfl (hts _ m_622544a8) (fun _ h9 => h9) (xb_d D_Machine_chosenElement 29 rfl) ?_
      refine lv_aload_n hx hb (xb_d D_Machine_chosenElement 30 rfl) rfl (lv_at hl 1 rfl) ?_
      refine xb_getP (C := R_Machine) (T := F_Machine) (N := 18) hx hb 7 9 hts fin_Machine hown hR hk1 (by decide) rfl (by decide) rfl (hts _ m_6904195b) (fun _ h9 => h9) (xb_d D_Machine_chosenElement 31 rfl) ?_
      obtain ⟨b14, eb14, hw⟩ := hw
      refine xb_some eb14 ?_
      refine lv_aload_n hx hb (xb_d D_Machine_chosenElement 32 rfl) rfl (lv_at hl 1 rfl) ?_
      refine xb_getI (C := R_Machine) (T := F_Machine) (N := 18) hx hb 7 10 hts fin_Machine hown hR hk1 (by decide) rfl (by decide) rfl (hts _ m_79cf62f6) (fun _ h9 => h9) (xb_d D_Machine_chosenElement 33 rfl) ?_
      obtain ⟨hk16, hw⟩ := hw
      obtain ⟨hi15, hw⟩ := hw
      refine xb_lald hx hb hR hk16 hi15 (xb_d D_Machine_chosenElement 34 rfl) ?_
      refine lv_l2i hx hb (xb_d D_Machine_chosenElement 35 rfl) rfl ?_
      refine lv_iadd hx hb (xb_d D_Machine_chosenElement 36 rfl) ?_
      refine lv_iconst (v := 0) hx hb (xb_d D_Machine_chosenElement 37 rfl) (by decide) ?_
      obtain ⟨hk17, hw⟩ := hw
      refine xb_call (D := D) (A := A) (σ := σ) (h := h2) (d := 2) (mc := 0) (ms := 0) (maxL := 3) (rest := []) (av := [.ref b13, .int ((xb_i h2 None 0) + (Int64.toInt32 (xb_l h2 b14 (Int32.toNatClampNeg (xb_i h2 x0 10))))), .int 0]) (fun T hT X => by obtain ⟨cb, r1, r2, r3⟩ := xb_recv (ci := 1) hR rfl hk17 (by decide); exact xt_invV X hx hown (hts _ m_f57edc11) (hts _ m_8e233096) (hts _ m_27eed10c) (xt_sigOf (hts _ m_ff1c70ae)) nm_Row_at (by rw [hT]; exact r1) r2 r3 (g := F0 m 67 ls [.int 0, .int ((xb_i h2 None 0) + (Int64.toInt32 (xb_l h2 b14 (Int32.toNatClampNeg (xb_i h2 x0 10))))), .ref b13]) rfl (argsL := [.int ((xb_i h2 None 0) + (Int64.toInt32 (xb_l h2 b14 (Int32.toNatClampNeg (xb_i h2 x0 10))))), .int 0]) (rest := []) rfl rfl (by rw [hb]; exact (xb_d D_Machine_chosenElement 38 rfl))) (ok_Row_at l hfl D A σ b13 ((xb_i h2 None 0) + (Int64.toInt32 (xb_l h2 b14 (Int32.toNatClampNeg (xb_i h2 x0 10))))) 0 h2 _ hw) (hml.trans hl.1.symm) (by rw [hb]; exact (xb_d D_Machine_chosenElement 38 rfl)) (Nat.le_of_ble_eq_true rfl) (Nat.le_of_ble_eq_true rfl) (Nat.le_of_ble_eq_true rfl) (show k + 0 ≤ MC by omega) (show n + 0 ≤ MS by omega) (xt_w1 hB.1 m_ff1c70ae) (xt_cdOf hB.1 m_ff1c70ae) (hts _ m_c1bef504) hB hR hS hA (fun vv h18 H locs hq hEh18 hR hS => ?_) (fun XX ax h18 H locs hq hEh18 hex hR hS => ?_)
      · obtain ⟨r19, rfl, hw⟩ := hq
        have hw := hw hEh18
        have hE := hE.tr hEh18
        refine W.eq (g2 := F0 m 70 ls [.int r19]) rfl ?_
        refine lv_istore_n hx hb (xb_d D_Machine_chosenElement 39 rfl) rfl hl (by decide) rfl (fun ls hl => ?_)
        have hl : lv_has ls 3 [(2, .int r19), (1, .null), (0, .ref x0)] := hl
        refine lv_iload_n hx hb (xb_d D_Machine_chosenElement 40 rfl) rfl (lv_at hl 0 rfl) ?_
        refine lv_iconst (v := (-1)) hx hb (xb_d D_Machine_chosenElement 41 rfl) (by decide) ?_
        refine lv_icmp_ne (tgt := 85) hx hb (xb_d D_Machine_chosenElement 42 rfl) rfl (fun hc20 => ?_) (fun hc20 => ?_)
        · have hw := hw.1 hc20
          refine lv_aload_n hx hb (xb_d D_Machine_chosenElement 47 rfl) rfl (lv_at hl 2 rfl) ?_
          have hk1 : xb_k h18 x0 = 8 := hEh18.k hk1
          refine xb_getP (C := R_Machine) (T := F_Machine) (N := 18) hx hb 7 0 hts fin_Machine hown hR hk1 (by decide) rfl (by decide) rfl (hts _ m_436e7c8c) (fun _ h9 => h9) (xb_d D_Machine_chosenElement 48 rfl) ?_
          obtain ⟨b21, eb21, hw⟩ := hw
          refine xb_some eb21 ?_
          refine lv_iload_n hx hb (xb_d D_Machine_chosenElement 49 rfl) rfl (lv_at hl 0 rfl) ?_
          refine lv_aload_n hx hb (xb_d D_Machine_chosenElement 50 rfl) rfl (lv_at hl 2 rfl) ?_
          refine xb_getP (C := R_Machine) (T := F_Machine) (N := 18) hx hb 7 12 hts fin_Machine hown hR hk1 (by decide) rfl (by decide) rfl (hts _ m_a347cb26) (fun _ h9 => h9) (xb_d D_Machine_chosenElement 51 rfl) ?_
          obtain ⟨b22, eb22, hw⟩ := hw
          refine xb_some eb22 ?_
          obtain ⟨hk23, hw⟩ := hw
          refine xb_getP (C := R_Instance) (T := F_Instance) (N := 8) hx hb 10 1 hts fin_Instance hown hR hk23 (by decide) rfl (by decide) rfl (hts _ m_142b55ed) (fun _ h9 => h9) (xb_d D_Machine_chosenElement 52 rfl) ?_
          obtain ⟨b24, eb24, hw⟩ := hw
          refine xb_some eb24 ?_
          refine lv_aload_n hx hb (xb_d D_Machine_chosenElement 53 rfl) rfl (lv_at hl 2 rfl) ?_
          refine xb_getP (C := R_Machine) (T := F_Machine) (N := 18) hx hb 7 14 hts fin_Machine hown hR hk1 (by decide) rfl (by decide) rfl (hts _ m_8f763f86) (fun _ h9 => h9) (xb_d D_Machine_chosenElement 54 rfl) ?_
          obtain ⟨b25, eb25, hw⟩ := hw
          refine xb_some eb25 ?_
          refine lv_aload_n hx hb (xb_d D_Machine_chosenElement 55 rfl) rfl (lv_at hl 2 rfl) ?_
          refine xb_getI (C := R_Machine) (T := F_Machine) (N := 18) hx hb 7 15 hts fin_Machine hown hR hk1 (by decide) rfl (by decide) rfl (hts _ m_6a595805) (fun _ h9 => h9) (xb_d D_Machine_chosenElement 56 rfl) ?_
          refine lv_iconst (v := 1) hx hb (xb_d D_Machine_chosenElement 57 rfl) (by decide) ?_
          refine lv_iadd hx hb (xb_d D_Machine_chosenElement 58 rfl) ?_
          obtain ⟨hk27, hw⟩ := hw
          obtain ⟨hi26, hw⟩ := hw
          refine xb_iald hx hb hR hk27 hi26 (xb_d D_Machine_chosenElement 59 rfl) ?_
          obtain ⟨hk28, hw⟩ := hw
          refine xb_call (D := D) (A := A) (σ := σ) (h := h18) (d := 4) (mc := 0) (ms := 0) (maxL := 5) (rest := []) (av := [.ref b21, .int r19, .ref b24, .int (xb_i h18 b25 (Int32.toNatClampNeg ((xb_i h18 x0 15) + 1)))]) (fun T hT X => by obtain ⟨cb, r1, r2, r3⟩ := xb_recv (ci := 6) hR rfl hk28 (by decide); exact xt_invV X hx hown (hts _ m_60d23c68) (hts _ m_694f954f) (hts _ m_d14fe5df) (xt_sigOf (hts _ m_af77d148)) nm_World_fits (by rw [hT]; exact r1) r2 r3 (g := F0 m 108 ls [.int (xb_i h18 b25 (Int32.toNatClampNeg ((xb_i h18 x0 15) + 1))), .ref b24, .int r19, .ref b21]) rfl (argsL := [.int r19, .ref b24, .int (xb_i h18 b25 (Int32.toNatClampNeg ((xb_i h18 x0 15) + 1)))]) (rest := []) rfl rfl (by rw [hb]; exact (xb_d D_Machine_chosenElement 60 rfl))) (ok_World_fits l hfl D A σ b21 r19 b24 (xb_i h18 b25 (Int32.toNatClampNeg ((xb_i h18 x0 15) + 1))) h18 _ hw) (hml.trans hl.1.symm) (by rw [hb]; exact (xb_d D_Machine_chosenElement 60 rfl)) (Nat.le_of_ble_eq_true rfl) (Nat.le_of_ble_eq_true rfl) (Nat.le_of_ble_eq_true rfl) (show k + 0 ≤ MC by omega) (show n + 0 ≤ MS by omega) (xt_w1 hB.1 m_af77d148) (xt_cdOf hB.1 m_af77d148) (hts _ m_4534b440) hB hR hS hA (fun vv h29 H locs hq hEh29 hR hS => ?_) (fun XX ax h29 H locs hq hEh29 hex hR hS => ?_)
          · obtain ⟨r30, rfl, hw⟩ := hq
            have hw := hw hEh29
            have hE := hE.tr hEh29
            refine W.eq (g2 := F0 m 111 ls [.int r30]) rfl ?_
            refine lv_if_ne (tgt := 122) hx hb (xb_d D_Machine_chosenElement 61 rfl) rfl (fun hc31 => ?_) (fun hc31 => ?_)
            · have hw := hw.1 hc31
              exact am_Machine_chosenElement_L122 l hfl D A σ MC MS h0 Qr r19 h29 hw p e s m args below meth c hC H locs ls k n hE (lv_sub hl [0] rfl) hR hS (by omega) (by omega)
            · have hw := hw.2 hc31
              refine lv_aload_n hx hb (xb_d D_Machine_chosenElement 62 rfl) rfl (lv_at hl 2 rfl) ?_
              refine lv_bipush (v := 8) hx hb (xb_d D_Machine_chosenElement 63 rfl) (by decide) ?_
              have hk1 : xb_k h29 x0 = 8 := hEh29.k hk1
              refine xb_call (D := D) (A := A) (σ := σ) (h := h29) (d := 2) (mc := 0) (ms := 0) (maxL := 3) (rest := []) (av := [.ref x0, .int 8]) (fun T hT X => by obtain ⟨cb, r1, r2, r3⟩ := xb_recv (ci := 7) hR rfl hk1 (by decide); exact xt_invV X hx hown (hts _ m_8f5db99d) (hts _ m_0ddc8afe) (hts _ m_f5561462) (xt_sigOf (hts _ m_f0d4fd47)) nm_Machine_fall (by rw [hT]; exact r1) r2 r3 (g := F0 m 117 ls [.int 8, .ref x0]) rfl (argsL := [.int 8]) (rest := []) rfl rfl (by rw [hb]; exact (xb_d D_Machine_chosenElement 64 rfl))) (ok_Machine_fall l hfl D A σ x0 8 h29 _ hw) (hml.trans hl.1.symm) (by rw [hb]; exact (xb_d D_Machine_chosenElement 64 rfl)) (Nat.le_of_ble_eq_true rfl) (Nat.le_of_ble_eq_true rfl) (Nat.le_of_ble_eq_true rfl) (show k + 0 ≤ MC by omega) (show n + 0 ≤ MS by omega) (xt_w1 hB.1 m_f0d4fd47) (xt_cdOf hB.1 m_f0d4fd47) (hts _ m_73451f9b) hB hR hS hA (fun vv h32 H locs hq hEh32 hR hS => ?_) (fun XX ax h32 H locs hq hEh32 hex hR hS => ?_)
              · obtain ⟨rfl, hw⟩ := hq
                have hw := hw hEh32
                have hE := hE.tr hEh32
                refine W.eq (g2 := F0 m 120 ls []) rfl ?_
                refine lv_iconst (v := (-1)) hx hb (xb_d D_Machine_chosenElement 65 rfl) (by decide) ?_
                exact xb_iret hx hb hr hlocks (show k ≤ MC by omega) (show n ≤ MS by omega) hE hR hS (xb_d D_Machine_chosenElement 66 rfl) hw
              · exact False.elim hq
          · exact False.elim hq
        · have hw := hw.2 hc20
          refine lv_aload_n hx hb (xb_d D_Machine_chosenElement 43 rfl) rfl (lv_at hl 2 rfl) ?_
          refine lv_bipush (v := 7) hx hb (xb_d D_Machine_chosenElement 44 rfl) (by decide) ?_
          have hk1 : xb_k h18 x0 = 8 := hEh18.k hk1
          refine xb_call (D := D) (A := A) (σ := σ) (h := h18) (d := 2) (mc := 0) (ms := 0) (maxL := 3) (rest := []) (av := [.ref x0, .int 7]) (fun T hT X => by obtain ⟨cb, r1, r2, r3⟩ := xb_recv (ci := 7) hR rfl hk1 (by decide); exact xt_invV X hx hown (hts _ m_8f5db99d) (hts _ m_0ddc8afe) (hts _ m_f5561462) (xt_sigOf (hts _ m_f0d4fd47)) nm_Machine_fall (by rw [hT]; exact r1) r2 r3 (g := F0 m 79 ls [.int 7, .ref x0]) rfl (argsL := [.int 7]) (rest := []) rfl rfl (by rw [hb]; exact (xb_d D_Machine_chosenElement 45 rfl))) (ok_Machine_fall l hfl D A σ x0 7 h18 _ hw) (hml.trans hl.1.symm) (by rw [hb]; exact (xb_d D_Machine_chosenElement 45 rfl)) (Nat.le_of_ble_eq_true rfl) (Nat.le_of_ble_eq_true rfl) (Nat.le_of_ble_eq_true rfl) (show k + 0 ≤ MC by omega) (show n + 0 ≤ MS by omega) (xt_w1 hB.1 m_f0d4fd47) (xt_cdOf hB.1 m_f0d4fd47) (hts _ m_73451f9b) hB hR hS hA (fun vv h34 H locs hq hEh34 hR hS => ?_) (fun XX ax h34 H locs hq hEh34 hex hR hS => ?_)
          · obtain ⟨rfl, hw⟩ := hq
            have hw := hw hEh34
            have hE := hE.tr hEh34
            refine W.eq (g2 := F0 m 82 ls []) rfl ?_
            refine lv_goto (tgt := 122) hx hb (xb_d D_Machine_chosenElement 46 rfl) rfl ?_
            exact am_Machine_chosenElement_L122 l hfl D A σ MC MS h0 Qr r19 h34 hw p e s m args below meth c hC H locs ls k n hE (lv_sub hl [0] rfl) hR hS (by omega) (by omega)
          · exact False.elim hq
      · exact False.elim hq
    · have hw := hw.2 hc10
      refine lv_aload_n hx hb (xb_d D_Machine_chosenElement 20 rfl) rfl (lv_at hl 1 rfl) ?_
      refine lv_bipush (v := 6) hx hb (xb_d D_Machine_chosenElement 21 rfl) (by decide) ?_
      refine xb_call (D := D) (A := A) (σ := σ) (h := h2) (d := 2) (mc := 0) (ms := 0) (maxL := 3) (rest := []) (av := [.ref x0, .int 6]) (fun T hT X => by obtain ⟨cb, r1, r2, r3⟩ := xb_recv (ci := 7) hR rfl hk1 (by decide); exact xt_invV X hx hown (hts _ m_8f5db99d) (hts _ m_0ddc8afe) (hts _ m_f5561462) (xt_sigOf (hts _ m_f0d4fd47)) nm_Machine_fall (by rw [hT]; exact r1) r2 r3 (g := F0 m 39 ls [.int 6, .ref x0]) rfl (argsL := [.int 6]) (rest := []) rfl rfl (by rw [hb]; exact (xb_d D_Machine_chosenElement 22 rfl))) (ok_Machine_fall l hfl D A σ x0 6 h2 _ hw) (hml.trans hl.1.symm) (by rw [hb]; exact (xb_d D_Machine_chosenElement 22 rfl)) (Nat.le_of_ble_eq_true rfl) (Nat.le_of_ble_eq_true rfl) (Nat.le_of_ble_eq_true rfl) (show k + 0 ≤ MC by omega) (show n + 0 ≤ MS by omega) (xt_w1 hB.1 m_f0d4fd47) (xt_cdOf hB.1 m_f0d4fd47) (hts _ m_73451f9b) hB hR hS hA (fun vv h36 H locs hq hEh36 hR hS => ?_) (fun XX ax h36 H locs hq hEh36 hex hR hS => ?_)
      · obtain ⟨rfl, hw⟩ := hq
        have hw := hw hEh36
        have hE := hE.tr hEh36
        refine W.eq (g2 := F0 m 42 ls []) rfl ?_
        refine lv_iconst (v := (-1)) hx hb (xb_d D_Machine_chosenElement 23 rfl) (by decide) ?_
        exact xb_iret hx hb hr hlocks (show k ≤ MC by omega) (show n ≤ MS by omega) hE hR hS (xb_d D_Machine_chosenElement 24 rfl) hw
      · exact False.elim hq
  · have hw := hw.2 b5 ho
    refine lv_astore_n hx hb (xb_d D_Machine_chosenElement 9 rfl) rfl hl (by decide) rfl (fun ls hl => ?_)
    have hl : lv_has ls 3 [(1, .ref b5), (0, .ref x0)] := hl
    refine lv_aload_n hx hb (xb_d D_Machine_chosenElement 10 rfl) rfl (lv_at hl 1 rfl) ?_
    refine xb_getP (C := R_Machine) (T := F_Machine) (N := 18) hx hb 7 9 hts fin_Machine hown hR hk1 (by decide) rfl (by decide) rfl (hts _ m_6904195b) (fun _ h9 => h9) (xb_d D_Machine_chosenElement 11 rfl) ?_
    obtain ⟨b38, eb38, hw⟩ := hw
    refine xb_some eb38 ?_
    refine lv_aload_n hx hb (xb_d D_Machine_chosenElement 12 rfl) rfl (lv_at hl 1 rfl) ?_
    refine xb_getI (C := R_Machine) (T := F_Machine) (N := 18) hx hb 7 10 hts fin_Machine hown hR hk1 (by decide) rfl (by decide) rfl (hts _ m_79cf62f6) (fun _ h9 => h9) (xb_d D_Machine_chosenElement 13 rfl) ?_
    obtain ⟨hk40, hw⟩ := hw
    obtain ⟨hi39, hw⟩ := hw
    refine xb_lald hx hb hR hk40 hi39 (xb_d D_Machine_chosenElement 14 rfl) ?_
    refine lv_aload_n hx hb (xb_d D_Machine_chosenElement 15 rfl) rfl (lv_at hl 0 rfl) ?_
    obtain ⟨hk41, hw⟩ := hw
    refine xb_getI (C := R_Table) (T := F_Table) (N := 3) hx hb 11 1 hts fin_Table hown hR hk41 (by decide) rfl (by decide) rfl (hts _ m_77b75e41) (fun _ h9 => h9) (xb_d D_Machine_chosenElement 16 rfl) ?_
    refine lv_i2l hx hb (xb_d D_Machine_chosenElement 17 rfl) rfl ?_
    refine xb_lc_lt (tgt := 44) hx hb (xb_d D_Machine_chosenElement 18 rfl) (xb_d D_Machine_chosenElement 19 rfl) rfl (fun hc42 => ?_) (fun hc42 => ?_)
    · have hw := hw.1 hc42
      refine lv_aload_n hx hb (xb_d D_Machine_chosenElement 25 rfl) rfl (lv_at hl 1 rfl) ?_
      refine xb_getP (C := R_Machine) (T := F_Machine) (N := 18) hx hb 7 0 hts fin_Machine hown hR hk1 (by decide) rfl (by decide) rfl (hts _ m_436e7c8c) (fun _ h9 => h9) (xb_d D_Machine_chosenElement 26 rfl) ?_
      obtain ⟨b43, eb43, hw⟩ := hw
      refine xb_some eb43 ?_
      obtain ⟨hk44, hw⟩ := hw
      refine xb_getP (C := R_World) (T := F_World) (N := 16) hx hb 6 4 hts fin_World hown hR hk44 (by decide) rfl (by decide) rfl (hts _ m_ea6ed739) (fun _ h9 => h9) (xb_d D_Machine_chosenElement 27 rfl) ?_
      obtain ⟨b45, eb45, hw⟩ := hw
      refine xb_some eb45 ?_
      refine lv_aload_n hx hb (xb_d D_Machine_chosenElement 28 rfl) rfl (lv_at hl 0 rfl) ?_
      refine xb_getI (C := R_Table) (T := F_Table) (N := 3) hx hb 11 0 hts fin_Table hown hR hk41 (by decide) rfl (by decide) rfl (hts _ m_622544a8) (fun _ h9 => h9) (xb_d D_Machine_chosenElement 29 rfl) ?_
      refine lv_aload_n hx hb (xb_d D_Machine_chosenElement 30 rfl) rfl (lv_at hl 1 rfl) ?_
      refine xb_getP (C := R_Machine) (T := F_Machine) (N := 18) hx hb 7 9 hts fin_Machine hown hR hk1 (by decide) rfl (by decide) rfl (hts _ m_6904195b) (fun _ h9 => h9) (xb_d D_Machine_chosenElement 31 rfl) ?_
      obtain ⟨b46, eb46, hw⟩ := hw
      refine xb_some eb46 ?_
      refine lv_aload_n hx hb (xb_d D_Machine_chosenElement 32 rfl) rfl (lv_at hl 1 rfl) ?_
      refine xb_getI (C := R_Machine) (T := F_Machine) (N := 18) hx hb 7 10 hts fin_Machine hown hR hk1 (by decide) rfl (by decide) rfl (hts _ m_79cf62f6) (fun _ h9 => h9) (xb_d D_Machine_chosenElement 33 rfl) ?_
      obtain ⟨hk48, hw⟩ := hw
      obtain ⟨hi47, hw⟩ := hw
      refine xb_lald hx hb hR hk48 hi47 (xb_d D_Machine_chosenElement 34 rfl) ?_
      refine lv_l2i hx hb (xb_d D_Machine_chosenElement 35 rfl) rfl ?_
      refine lv_iadd hx hb (xb_d D_Machine_chosenElement 36 rfl) ?_
      refine lv_iconst (v := 0) hx hb (xb_d D_Machine_chosenElement 37 rfl) (by decide) ?_
      obtain ⟨hk49, hw⟩ := hw
      refine xb_call (D := D) (A := A) (σ := σ) (h := h2) (d := 2) (mc := 0) (ms := 0) (maxL := 3) (rest := []) (av := [.ref b45, .int ((xb_i h2 b5 0) + (Int64.toInt32 (xb_l h2 b46 (Int32.toNatClampNeg (xb_i h2 x0 10))))), .int 0]) (fun T hT X => by obtain ⟨cb, r1, r2, r3⟩ := xb_recv (ci := 1) hR rfl hk49 (by decide); exact xt_invV X hx hown (hts _ m_f57edc11) (hts _ m_8e233096) (hts _ m_27eed10c) (xt_sigOf (hts _ m_ff1c70ae)) nm_Row_at (by rw [hT]; exact r1) r2 r3 (g := F0 m 67 ls [.int 0, .int ((xb_i h2 b5 0) + (Int64.toInt32 (xb_l h2 b46 (Int32.toNatClampNeg (xb_i h2 x0 10))))), .ref b45]) rfl (argsL := [.int ((xb_i h2 b5 0) + (Int64.toInt32 (xb_l h2 b46 (Int32.toNatClampNeg (xb_i h2 x0 10))))), .int 0]) (rest := []) rfl rfl (by rw [hb]; exact (xb_d D_Machine_chosenElement 38 rfl))) (ok_Row_at l hfl D A σ b45 ((xb_i h2 b5 0) + (Int64.toInt32 (xb_l h2 b46 (Int32.toNatClampNeg (xb_i h2 x0 10))))) 0 h2 _ hw) (hml.trans hl.1.symm) (by rw [hb]; exact (xb_d D_Machine_chosenElement 38 rfl)) (Nat.le_of_ble_eq_true rfl) (Nat.le_of_ble_eq_true rfl) (Nat.le_of_ble_eq_true rfl) (show k + 0 ≤ MC by omega) (show n + 0 ≤ MS by omega) (xt_w1 hB.1 m_ff1c70ae) (xt_cdOf hB.1 m_ff1c70ae) (hts _ m_c1bef504) hB hR hS hA (fun vv h50 H locs hq hEh50 hR hS => ?_) (fun XX ax h50 H locs hq hEh50 hex hR hS => ?_)
      · obtain ⟨r51, rfl, hw⟩ := hq
        have hw := hw hEh50
        have hE := hE.tr hEh50
        refine W.eq (g2 := F0 m 70 ls [.int r51]) rfl ?_
        refine lv_istore_n hx hb (xb_d D_Machine_chosenElement 39 rfl) rfl hl (by decide) rfl (fun ls hl => ?_)
        have hl : lv_has ls 3 [(2, .int r51), (1, .ref b5), (0, .ref x0)] := hl
        refine lv_iload_n hx hb (xb_d D_Machine_chosenElement 40 rfl) rfl (lv_at hl 0 rfl) ?_
        refine lv_iconst (v := (-1)) hx hb (xb_d D_Machine_chosenElement 41 rfl) (by decide) ?_
        refine lv_icmp_ne (tgt := 85) hx hb (xb_d D_Machine_chosenElement 42 rfl) rfl (fun hc52 => ?_) (fun hc52 => ?_)
        · have hw := hw.1 hc52
          refine lv_aload_n hx hb (xb_d D_Machine_chosenElement 47 rfl) rfl (lv_at hl 2 rfl) ?_
          have hk1 : xb_k h50 x0 = 8 := hEh50.k hk1
          refine xb_getP (C := R_Machine) (T := F_Machine) (N := 18) hx hb 7 0 hts fin_Machine hown hR hk1 (by decide) rfl (by decide) rfl (hts _ m_436e7c8c) (fun _ h9 => h9) (xb_d D_Machine_chosenElement 48 rfl) ?_
          obtain ⟨b53, eb53, hw⟩ := hw
          refine xb_some eb53 ?_
          refine lv_iload_n hx hb (xb_d D_Machine_chosenElement 49 rfl) rfl (lv_at hl 0 rfl) ?_
          refine lv_aload_n hx hb (xb_d D_Machine_chosenElement 50 rfl) rfl (lv_at hl 2 rfl) ?_
          refine xb_getP (C := R_Machine) (T := F_Machine) (N := 18) hx hb 7 12 hts fin_Machine hown hR hk1 (by decide) rfl (by decide) rfl (hts _ m_a347cb26) (fun _ h9 => h9) (xb_d D_Machine_chosenElement 51 rfl) ?_
          obtain ⟨b54, eb54, hw⟩ := hw
          refine xb_some eb54 ?_
          obtain ⟨hk55, hw⟩ := hw
          refine xb_getP (C := R_Instance) (T := F_Instance) (N := 8) hx hb 10 1 hts fin_Instance hown hR hk55 (by decide) rfl (by decide) rfl (hts _ m_142b55ed) (fun _ h9 => h9) (xb_d D_Machine_chosenElement 52 rfl) ?_
          obtain ⟨b56, eb56, hw⟩ := hw
          refine xb_some eb56 ?_
          refine lv_aload_n hx hb (xb_d D_Machine_chosenElement 53 rfl) rfl (lv_at hl 2 rfl) ?_
          refine xb_getP (C := R_Machine) (T := F_Machine) (N := 18) hx hb 7 14 hts fin_Machine hown hR hk1 (by decide) rfl (by decide) rfl (hts _ m_8f763f86) (fun _ h9 => h9) (xb_d D_Machine_chosenElement 54 rfl) ?_
          obtain ⟨b57, eb57, hw⟩ := hw
          refine xb_some eb57 ?_
          refine lv_aload_n hx hb (xb_d D_Machine_chosenElement 55 rfl) rfl (lv_at hl 2 rfl) ?_
          refine xb_getI (C := R_Machine) (T := F_Machine) (N := 18) hx hb 7 15 hts fin_Machine hown hR hk1 (by decide) rfl (by decide) rfl (hts _ m_6a595805) (fun _ h9 => h9) (xb_d D_Machine_chosenElement 56 rfl) ?_
          refine lv_iconst (v := 1) hx hb (xb_d D_Machine_chosenElement 57 rfl) (by decide) ?_
          refine lv_iadd hx hb (xb_d D_Machine_chosenElement 58 rfl) ?_
          obtain ⟨hk59, hw⟩ := hw
          obtain ⟨hi58, hw⟩ := hw
          refine xb_iald hx hb hR hk59 hi58 (xb_d D_Machine_chosenElement 59 rfl) ?_
          obtain ⟨hk60, hw⟩ := hw
          refine xb_call (D := D) (A := A) (σ := σ) (h := h50) (d := 4) (mc := 0) (ms := 0) (maxL := 5) (rest := []) (av := [.ref b53, .int r51, .ref b56, .int (xb_i h50 b57 (Int32.toNatClampNeg ((xb_i h50 x0 15) + 1)))]) (fun T hT X => by obtain ⟨cb, r1, r2, r3⟩ := xb_recv (ci := 6) hR rfl hk60 (by decide); exact xt_invV X hx hown (hts _ m_60d23c68) (hts _ m_694f954f) (hts _ m_d14fe5df) (xt_sigOf (hts _ m_af77d148)) nm_World_fits (by rw [hT]; exact r1) r2 r3 (g := F0 m 108 ls [.int (xb_i h50 b57 (Int32.toNatClampNeg ((xb_i h50 x0 15) + 1))), .ref b56, .int r51, .ref b53]) rfl (argsL := [.int r51, .ref b56, .int (xb_i h50 b57 (Int32.toNatClampNeg ((xb_i h50 x0 15) + 1)))]) (rest := []) rfl rfl (by rw [hb]; exact (xb_d D_Machine_chosenElement 60 rfl))) (ok_World_fits l hfl D A σ b53 r51 b56 (xb_i h50 b57 (Int32.toNatClampNeg ((xb_i h50 x0 15) + 1))) h50 _ hw) (hml.trans hl.1.symm) (by rw [hb]; exact (xb_d D_Machine_chosenElement 60 rfl)) (Nat.le_of_ble_eq_true rfl) (Nat.le_of_ble_eq_true rfl) (Nat.le_of_ble_eq_true rfl) (show k + 0 ≤ MC by omega) (show n + 0 ≤ MS by omega) (xt_w1 hB.1 m_af77d148) (xt_cdOf hB.1 m_af77d148) (hts _ m_4534b440) hB hR hS hA (fun vv h61 H locs hq hEh61 hR hS => ?_) (fun XX ax h61 H locs hq hEh61 hex hR hS => ?_)
          · obtain ⟨r62, rfl, hw⟩ := hq
            have hw := hw hEh61
            have hE := hE.tr hEh61
            refine W.eq (g2 := F0 m 111 ls [.int r62]) rfl ?_
            refine lv_if_ne (tgt := 122) hx hb (xb_d D_Machine_chosenElement 61 rfl) rfl (fun hc63 => ?_) (fun hc63 => ?_)
            · have hw := hw.1 hc63
              exact am_Machine_chosenElement_L122 l hfl D A σ MC MS h0 Qr r51 h61 hw p e s m args below meth c hC H locs ls k n hE (lv_sub hl [0] rfl) hR hS (by omega) (by omega)
            · have hw := hw.2 hc63
              refine lv_aload_n hx hb (xb_d D_Machine_chosenElement 62 rfl) rfl (lv_at hl 2 rfl) ?_
              refine lv_bipush (v := 8) hx hb (xb_d D_Machine_chosenElement 63 rfl) (by decide) ?_
              have hk1 : xb_k h61 x0 = 8 := hEh61.k hk1
              refine xb_call (D := D) (A := A) (σ := σ) (h := h61) (d := 2) (mc := 0) (ms := 0) (maxL := 3) (rest := []) (av := [.ref x0, .int 8]) (fun T hT X => by obtain ⟨cb, r1, r2, r3⟩ := xb_recv (ci := 7) hR rfl hk1 (by decide); exact xt_invV X hx hown (hts _ m_8f5db99d) (hts _ m_0ddc8afe) (hts _ m_f5561462) (xt_sigOf (hts _ m_f0d4fd47)) nm_Machine_fall (by rw [hT]; exact r1) r2 r3 (g := F0 m 117 ls [.int 8, .ref x0]) rfl (argsL := [.int 8]) (rest := []) rfl rfl (by rw [hb]; exact (xb_d D_Machine_chosenElement 64 rfl))) (ok_Machine_fall l hfl D A σ x0 8 h61 _ hw) (hml.trans hl.1.symm) (by rw [hb]; exact (xb_d D_Machine_chosenElement 64 rfl)) (Nat.le_of_ble_eq_true rfl) (Nat.le_of_ble_eq_true rfl) (Nat.le_of_ble_eq_true rfl) (show k + 0 ≤ MC by omega) (show n + 0 ≤ MS by omega) (xt_w1 hB.1 m_f0d4fd47) (xt_cdOf hB.1 m_f0d4fd47) (hts _ m_73451f9b) hB hR hS hA (fun vv h64 H locs hq hEh64 hR hS => ?_) (fun XX ax h64 H locs hq hEh64 hex hR hS => ?_)
              · obtain ⟨rfl, hw⟩ := hq
                have hw := hw hEh64
                have hE := hE.tr hEh64
                refine W.eq (g2 := F0 m 120 ls []) rfl ?_
                refine lv_iconst (v := (-1)) hx hb (xb_d D_Machine_chosenElement 65 rfl) (by decide) ?_
                exact xb_iret hx hb hr hlocks (show k ≤ MC by omega) (show n ≤ MS by omega) hE hR hS (xb_d D_Machine_chosenElement 66 rfl) hw
              · exact False.elim hq
          · exact False.elim hq
        · have hw := hw.2 hc52
          refine lv_aload_n hx hb (xb_d D_Machine_chosenElement 43 rfl) rfl (lv_at hl 2 rfl) ?_
          refine lv_bipush (v := 7) hx hb (xb_d D_Machine_chosenElement 44 rfl) (by decide) ?_
          have hk1 : xb_k h50 x0 = 8 := hEh50.k hk1
          refine xb_call (D := D) (A := A) (σ := σ) (h := h50) (d := 2) (mc := 0) (ms := 0) (maxL := 3) (rest := []) (av := [.ref x0, .int 7]) (fun T hT X => by obtain ⟨cb, r1, r2, r3⟩ := xb_recv (ci := 7) hR rfl hk1 (by decide); exact xt_invV X hx hown (hts _ m_8f5db99d) (hts _ m_0ddc8afe) (hts _ m_f5561462) (xt_sigOf (hts _ m_f0d4fd47)) nm_Machine_fall (by rw [hT]; exact r1) r2 r3 (g := F0 m 79 ls [.int 7, .ref x0]) rfl (argsL := [.int 7]) (rest := []) rfl rfl (by rw [hb]; exact (xb_d D_Machine_chosenElement 45 rfl))) (ok_Machine_fall l hfl D A σ x0 7 h50 _ hw) (hml.trans hl.1.symm) (by rw [hb]; exact (xb_d D_Machine_chosenElement 45 rfl)) (Nat.le_of_ble_eq_true rfl) (Nat.le_of_ble_eq_true rfl) (Nat.le_of_ble_eq_true rfl) (show k + 0 ≤ MC by omega) (show n + 0 ≤ MS by omega) (xt_w1 hB.1 m_f0d4fd47) (xt_cdOf hB.1 m_f0d4fd47) (hts _ m_73451f9b) hB hR hS hA (fun vv h66 H locs hq hEh66 hR hS => ?_) (fun XX ax h66 H locs hq hEh66 hex hR hS => ?_)
          · obtain ⟨rfl, hw⟩ := hq
            have hw := hw hEh66
            have hE := hE.tr hEh66
            refine W.eq (g2 := F0 m 82 ls []) rfl ?_
            refine lv_goto (tgt := 122) hx hb (xb_d D_Machine_chosenElement 46 rfl) rfl ?_
            exact am_Machine_chosenElement_L122 l hfl D A σ MC MS h0 Qr r51 h66 hw p e s m args below meth c hC H locs ls k n hE (lv_sub hl [0] rfl) hR hS (by omega) (by omega)
          · exact False.elim hq
      · exact False.elim hq
    · have hw := hw.2 hc42
      refine lv_aload_n hx hb (xb_d D_Machine_chosenElement 20 rfl) rfl (lv_at hl 1 rfl) ?_
      refine lv_bipush (v := 6) hx hb (xb_d D_Machine_chosenElement 21 rfl) (by decide) ?_
      refine xb_call (D := D) (A := A) (σ := σ) (h := h2) (d := 2) (mc := 0) (ms := 0) (maxL := 3) (rest := []) (av := [.ref x0, .int 6]) (fun T hT X => by obtain ⟨cb, r1, r2, r3⟩ := xb_recv (ci := 7) hR rfl hk1 (by decide); exact xt_invV X hx hown (hts _ m_8f5db99d) (hts _ m_0ddc8afe) (hts _ m_f5561462) (xt_sigOf (hts _ m_f0d4fd47)) nm_Machine_fall (by rw [hT]; exact r1) r2 r3 (g := F0 m 39 ls [.int 6, .ref x0]) rfl (argsL := [.int 6]) (rest := []) rfl rfl (by rw [hb]; exact (xb_d D_Machine_chosenElement 22 rfl))) (ok_Machine_fall l hfl D A σ x0 6 h2 _ hw) (hml.trans hl.1.symm) (by rw [hb]; exact (xb_d D_Machine_chosenElement 22 rfl)) (Nat.le_of_ble_eq_true rfl) (Nat.le_of_ble_eq_true rfl) (Nat.le_of_ble_eq_true rfl) (show k + 0 ≤ MC by omega) (show n + 0 ≤ MS by omega) (xt_w1 hB.1 m_f0d4fd47) (xt_cdOf hB.1 m_f0d4fd47) (hts _ m_73451f9b) hB hR hS hA (fun vv h68 H locs hq hEh68 hR hS => ?_) (fun XX ax h68 H locs hq hEh68 hex hR hS => ?_)
      · obtain ⟨rfl, hw⟩ := hq
        have hw := hw hEh68
        have hE := hE.tr hEh68
        refine W.eq (g2 := F0 m 42 ls []) rfl ?_
        refine lv_iconst (v := (-1)) hx hb (xb_d D_Machine_chosenElement 23 rfl) (by decide) ?_
        exact xb_iret hx hb hr hlocks (show k ≤ MC by omega) (show n ≤ MS by omega) hE hR hS (xb_d D_Machine_chosenElement 24 rfl) hw
      · exact False.elim hq

