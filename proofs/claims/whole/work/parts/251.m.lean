theorem m_35d7e567 : (.methodLink "StackHostModel" 278 y_M_note : Cond) ∈ xt_tbl := xt_in (xt_t10 (List.mem_of_getElem? (i := 237) (by decide +kernel))) (by decide +kernel)
theorem m_b3ce2bdc : (.instanceMethod y_M_note : Cond) ∈ xt_tbl := xt_in (xt_t10 (List.mem_of_getElem? (i := 239) (by decide +kernel))) (by decide +kernel)
theorem m_b2673fc8 : (.selects "StackHostModel" y_M_note y_M_note : Cond) ∈ xt_tbl := xt_in (xt_v9 (q := (⟨"StackHostModel", "note", "(I)V"⟩, 97)) (List.mem_of_getElem? (i := 9) (by decide +kernel))) (by decide +kernel)
theorem m_1dbf8488 : (.code y_M_note b_M_note 5 none : Cond) ∈ xt_tbl := xt_in (xt_t11 (List.mem_of_getElem? (i := 0) (by decide +kernel))) (by decide +kernel)
theorem m_e7c863cf : (.methodLink "StackHostModel" 281 y_M_importEntry : Cond) ∈ xt_tbl := xt_in (xt_t11 (List.mem_of_getElem? (i := 20) (by decide +kernel))) (by decide +kernel)
theorem m_ba28eb00 : (.instanceMethod y_M_importEntry : Cond) ∈ xt_tbl := xt_in (xt_t11 (List.mem_of_getElem? (i := 22) (by decide +kernel))) (by decide +kernel)
theorem m_d1bca475 : (.selects "StackHostModel" y_M_importEntry y_M_importEntry : Cond) ∈ xt_tbl := xt_in (xt_v9 (q := (⟨"StackHostModel", "importEntry", "()V"⟩, 97)) (List.mem_of_getElem? (i := 14) (by decide +kernel))) (by decide +kernel)
theorem m_02aaae69 : (.code y_M_importEntry b_M_importEntry 2 none : Cond) ∈ xt_tbl := xt_in (xt_t11 (List.mem_of_getElem? (i := 23) (by decide +kernel))) (by decide +kernel)
theorem m_14b1b20f : (.methodLink "StackHostModel" 296 y_M_body : Cond) ∈ xt_tbl := xt_in (xt_t11 (List.mem_of_getElem? (i := 55) (by decide +kernel))) (by decide +kernel)
theorem m_a733c60c : (.instanceMethod y_M_body : Cond) ∈ xt_tbl := xt_in (xt_t11 (List.mem_of_getElem? (i := 57) (by decide +kernel))) (by decide +kernel)
theorem m_fa7d877a : (.selects "StackHostModel" y_M_body y_M_body : Cond) ∈ xt_tbl := xt_in (xt_v10 (q := (⟨"StackHostModel", "body", "()V"⟩, 97)) (List.mem_of_getElem? (i := 6) (by decide +kernel))) (by decide +kernel)
theorem m_5ef6c972 : (.code y_M_body b_M_body 11 none : Cond) ∈ xt_tbl := xt_in (xt_t11 (List.mem_of_getElem? (i := 58) (by decide +kernel))) (by decide +kernel)
theorem nm_M_note : xt_nm y_M_note 1 := ⟨by decide +kernel, by decide +kernel⟩
theorem nm_M_importEntry : xt_nm y_M_importEntry 0 := ⟨by decide +kernel, by decide +kernel⟩
theorem nm_M_body : xt_nm y_M_body 0 := ⟨by decide +kernel, by decide +kernel⟩
set_option maxRecDepth 100000 in
def T_M_sectionEntry : List (Nat × Instr × Nat) := [(0, .aload_n 0, 1), (1, .iload_n 1, 1), (2, .invokevirtual 278, 3), (5, .iload_n 1, 1), (6, .tableswitch 157 1 10 #[54, 75, 82, 90, 97, 104, 115, 157, 133, 150], 54), (60, .aload_n 0, 1), (61, .bipush 96, 2), (63, .bipush 96, 2), (65, .invokevirtual 234, 3), (68, .aload_n 0, 1), (69, .iconst 1, 1), (70, .invokevirtual 243, 3), (73, .aload_n 0, 1), (74, .iconst 1, 1), (75, .invokevirtual 243, 3), (78, .goto 102, 3), (81, .aload_n 0, 1), (82, .invokevirtual 281, 3), (85, .goto 95, 3), (88, .aload_n 0, 1), (89, .invokevirtual 218, 3), (92, .pop2, 1), (93, .goto 87, 3), (96, .aload_n 0, 1), (97, .invokevirtual 284, 3), (100, .goto 80, 3), (103, .aload_n 0, 1), (104, .invokevirtual 237, 3), (107, .goto 73, 3), (110, .aload_n 0, 1), (111, .invokevirtual 287, 3), (114, .aload_n 0, 1), (115, .invokevirtual 290, 3), (118, .goto 62, 3), (121, .aload_n 0, 1), (122, .invokevirtual 293, 3), (125, .aload_n 0, 1), (126, .iconst 0, 1), (127, .iconst 3, 1), (128, .invokevirtual 234, 3), (131, .aload_n 0, 1), (132, .invokevirtual 218, 3), (135, .pop2, 1), (136, .goto 44, 3), (139, .aload_n 0, 1), (140, .invokevirtual 218, 3), (143, .pop2, 1), (144, .aload_n 0, 1), (145, .invokevirtual 290, 3), (148, .aload_n 0, 1), (149, .iconst 0, 1), (150, .invokevirtual 243, 3), (153, .goto 27, 3), (156, .aload_n 0, 1), (157, .invokevirtual 296, 3), (160, .goto 20, 3), (163, .aload_n 0, 1), (164, .invokevirtual 218, 3), (167, .pop2, 1), (168, .aload_n 0, 1), (169, .invokevirtual 290, 3), (172, .aload_n 0, 1), (173, .aload_n 0, 1), (174, .invokevirtual 218, 3), (177, .invokevirtual 255, 3), (180, .return_, 1)]
theorem D_M_sectionEntry : ∀ q ∈ T_M_sectionEntry, decode b_M_sectionEntry q.1 = .ok (q.2.1, q.2.2) := by decide +kernel
def w_M_sectionEntry_L180 (Qr : xb_H → Prop) (h : xb_H) (bc : Nat) (bs : Nat) : Prop :=
    Qr h

def w_M_sectionEntry_L163 (Qr : xb_H → Prop) (x0 : Nat) (h : xb_H) (bc : Nat) (bs : Nat) : Prop :=
    xb_k h x0 = 9 ∧ w_M_count x0 h (fun (r3 : Int64) (h2 : xb_H) => xb_ext h h2 → w_M_expression x0 h2 (fun (h4 : xb_H) => xb_ext h2 h4 → w_M_count x0 h4 (fun (r7 : Int64) (h6 : xb_H) => xb_ext h4 h6 → w_M_skip x0 r7 h6 (fun (h8 : xb_H) => xb_ext h6 h8 → w_M_sectionEntry_L180 Qr h8 bc bs))))

def w_M_sectionEntry (x0 : Nat) (x1 : Int32) (h : xb_H) (bc : Nat) (bs : Nat) (Qr : xb_H → Prop) : Prop :=
    xb_k h x0 = 9 ∧ ∃ c4 sc4 : Nat, c4 ≤ bc ∧ sc4 ≤ bs ∧ w_M_note x0 x1 h c4 sc4 (fun (h2 : xb_H) => xb_ext h h2 → ((x1 = 1 → w_M_wanted x0 96 96 h2 (fun (h6 : xb_H) => xb_ext h2 h6 → w_M_row x0 1 h6 (fun (h8 : xb_H) => xb_ext h6 h8 → w_M_row x0 1 h8 (fun (h10 : xb_H) => xb_ext h8 h10 → w_M_sectionEntry_L180 Qr h10 (bc - c4) (bs - sc4))))) ∧ (x1 = 2 → w_M_importEntry x0 h2 (fun (h13 : xb_H) => xb_ext h2 h13 → w_M_sectionEntry_L180 Qr h13 (bc - c4) (bs - sc4))) ∧ (x1 = 3 → w_M_count x0 h2 (fun (r17 : Int64) (h16 : xb_H) => xb_ext h2 h16 → w_M_sectionEntry_L180 Qr h16 (bc - c4) (bs - sc4))) ∧ (x1 = 4 → w_M_tableType x0 h2 (fun (h19 : xb_H) => xb_ext h2 h19 → w_M_sectionEntry_L180 Qr h19 (bc - c4) (bs - sc4))) ∧ (x1 = 5 → w_M_limits x0 h2 (fun (h22 : xb_H) => xb_ext h2 h22 → w_M_sectionEntry_L180 Qr h22 (bc - c4) (bs - sc4))) ∧ (x1 = 6 → w_M_variableKind x0 h2 (fun (h25 : xb_H) => xb_ext h2 h25 → w_M_expression x0 h25 (fun (h27 : xb_H) => xb_ext h25 h27 → w_M_sectionEntry_L180 Qr h27 (bc - c4) (bs - sc4)))) ∧ (x1 = 7 → w_M_name0 x0 h2 (fun (h30 : xb_H) => xb_ext h2 h30 → w_M_wanted x0 0 3 h30 (fun (h32 : xb_H) => xb_ext h30 h32 → w_M_count x0 h32 (fun (r35 : Int64) (h34 : xb_H) => xb_ext h32 h34 → w_M_sectionEntry_L180 Qr h34 (bc - c4) (bs - sc4))))) ∧ (x1 = 8 → w_M_sectionEntry_L163 Qr x0 h2 (bc - c4) (bs - sc4)) ∧ (x1 = 9 → w_M_count x0 h2 (fun (r39 : Int64) (h38 : xb_H) => xb_ext h2 h38 → w_M_expression x0 h38 (fun (h40 : xb_H) => xb_ext h38 h40 → w_M_row x0 0 h40 (fun (h42 : xb_H) => xb_ext h40 h42 → w_M_sectionEntry_L180 Qr h42 (bc - c4) (bs - sc4))))) ∧ (x1 = 10 → w_M_body x0 h2 (fun (h45 : xb_H) => xb_ext h2 h45 → w_M_sectionEntry_L180 Qr h45 (bc - c4) (bs - sc4))) ∧ (¬ x1 = 1 → ¬ x1 = 2 → ¬ x1 = 3 → ¬ x1 = 4 → ¬ x1 = 5 → ¬ x1 = 6 → ¬ x1 = 7 → ¬ x1 = 8 → ¬ x1 = 9 → ¬ x1 = 10 → w_M_sectionEntry_L163 Qr x0 h2 (bc - c4) (bs - sc4))))

set_option maxHeartbeats 4000000 in
set_option maxRecDepth 100000 in
theorem am_M_sectionEntry_L180 (l : Launch) (hfl : l.flags = pinnedFlags ++ [noTraceFlag]) (D : va_G) (A : Nat → Prop) (σ MC MS : Nat) (h0 : xb_H) (Qr : xb_H → Prop) (h : xb_H) (bc : Nat) (bs : Nat) (hw : w_M_sectionEntry_L180 Qr h bc bs) : xb_am l D A σ 9 MC MS h0 (fun v h => v = none ∧ Qr h) (fun _ _ => False) y_M_sectionEntry.cls y_M_sectionEntry.name b_M_sectionEntry 2 ([] : List ExceptionTableEntry) none 180 [] [] h bc bs := by
  unfold w_M_sectionEntry_L180 at hw
  intro p e s m args below meth c hC H locs ls k n hE hl hR hS hk hn
  obtain ⟨hx, hb, hown, hlocks, htab, hml, hr, hB, hA, hnm⟩ := id hC
  have hts := hB.1.1.at args
  exact xb_vret hx hb hr hlocks (show k ≤ MC by omega) (show n ≤ MS by omega) hE hR hS (xb_d D_M_sectionEntry 65 rfl) hw

set_option maxHeartbeats 4000000 in
set_option maxRecDepth 100000 in
theorem am_M_sectionEntry_L163 (l : Launch) (hfl : l.flags = pinnedFlags ++ [noTraceFlag]) (D : va_G) (A : Nat → Prop) (σ MC MS : Nat) (h0 : xb_H) (Qr : xb_H → Prop) (x0 : Nat) (h : xb_H) (bc : Nat) (bs : Nat) (hw : w_M_sectionEntry_L163 Qr x0 h bc bs) : xb_am l D A σ 9 MC MS h0 (fun v h => v = none ∧ Qr h) (fun _ _ => False) y_M_sectionEntry.cls y_M_sectionEntry.name b_M_sectionEntry 2 ([] : List ExceptionTableEntry) none 163 [(0, .ref x0)] [] h bc bs := by
  unfold w_M_sectionEntry_L163 at hw
  intro p e s m args below meth c hC H locs ls k n hE hl hR hS hk hn
  obtain ⟨hx, hb, hown, hlocks, htab, hml, hr, hB, hA, hnm⟩ := id hC
  have hts := hB.1.1.at args
  refine lv_aload_n hx hb (xb_d D_M_sectionEntry 56 rfl) rfl (lv_at hl 0 rfl) ?_
  obtain ⟨hk1, hw⟩ := hw
  refine xb_call (D := D) (A := A) (σ := σ) (h := h) (d := 4) (mc := 0) (ms := 0) (maxL := 5) (rest := []) (av := [.ref x0]) (fun T hT X => by obtain ⟨cb, r1, r2, r3⟩ := xb_recv (ci := 8) hR rfl hk1 (by decide); exact xt_invV X hx hown (hts _ m_e991293f) (hts _ m_385a74b3) (hts _ m_c9fbcd02) (xt_sigOf (hts _ m_1f53f210)) nm_M_count (by rw [hT]; exact r1) r2 r3 (g := F0 m 164 ls [.ref x0]) rfl (argsL := []) (rest := []) rfl rfl (by rw [hb]; exact (xb_d D_M_sectionEntry 57 rfl))) (ok_M_count l hfl D A σ x0 h _ hw) (hml.trans hl.1.symm) (by rw [hb]; exact (xb_d D_M_sectionEntry 57 rfl)) (Nat.le_of_ble_eq_true rfl) (Nat.le_of_ble_eq_true rfl) (Nat.le_of_ble_eq_true rfl) (show k + 0 ≤ MC by omega) (show n + 0 ≤ MS by omega) (xt_w1 hB.1 m_1f53f210) (xt_cdOf hB.1 m_1f53f210) (hts _ m_d5ed7bed) hB hR hS hA (fun vv h2 H locs hq hEh2 hR hS => ?_) (fun XX ax h2 H locs hq hEh2 hex hR hS => ?_)
  · obtain ⟨r3, rfl, hw⟩ := hq
    have hw := hw hEh2
    have hE := hE.tr hEh2
    refine W.eq (g2 := F0 m 167 ls [.long r3]) rfl ?_
    refine lv_pop2_2 hx hb (xb_d D_M_sectionEntry 58 rfl) rfl ?_
    refine lv_aload_n hx hb (xb_d D_M_sectionEntry 59 rfl) rfl (lv_at hl 0 rfl) ?_
    have hk1 : xb_k h2 x0 = 9 := hEh2.k hk1
    refine xb_call (D := D) (A := A) (σ := σ) (h := h2) (d := 7) (mc := 0) (ms := 0) (maxL := 5) (rest := []) (av := [.ref x0]) (fun T hT X => by obtain ⟨cb, r1, r2, r3⟩ := xb_recv (ci := 8) hR rfl hk1 (by decide); exact xt_invV X hx hown (hts _ m_4644df8e) (hts _ m_2230da74) (hts _ m_7fd46769) (xt_sigOf (hts _ m_ed213729)) nm_M_expression (by rw [hT]; exact r1) r2 r3 (g := F0 m 169 ls [.ref x0]) rfl (argsL := []) (rest := []) rfl rfl (by rw [hb]; exact (xb_d D_M_sectionEntry 60 rfl))) (ok_M_expression l hfl D A σ x0 h2 _ hw) (hml.trans hl.1.symm) (by rw [hb]; exact (xb_d D_M_sectionEntry 60 rfl)) (Nat.le_of_ble_eq_true rfl) (Nat.le_of_ble_eq_true rfl) (Nat.le_of_ble_eq_true rfl) (show k + 0 ≤ MC by omega) (show n + 0 ≤ MS by omega) (xt_w1 hB.1 m_ed213729) (xt_cdOf hB.1 m_ed213729) (hts _ m_d5ed7bed) hB hR hS hA (fun vv h4 H locs hq hEh4 hR hS => ?_) (fun XX ax h4 H locs hq hEh4 hex hR hS => ?_)
    · obtain ⟨rfl, hw⟩ := hq
      have hw := hw hEh4
      have hE := hE.tr hEh4
      refine W.eq (g2 := F0 m 172 ls []) rfl ?_
      refine lv_aload_n hx hb (xb_d D_M_sectionEntry 61 rfl) rfl (lv_at hl 0 rfl) ?_
      refine lv_aload_n hx hb (xb_d D_M_sectionEntry 62 rfl) rfl (lv_at hl 0 rfl) ?_
      have hk1 : xb_k h4 x0 = 9 := hEh4.k hk1
      refine xb_call (D := D) (A := A) (σ := σ) (h := h4) (d := 4) (mc := 0) (ms := 0) (maxL := 5) (rest := [.ref x0]) (av := [.ref x0]) (fun T hT X => by obtain ⟨cb, r1, r2, r3⟩ := xb_recv (ci := 8) hR rfl hk1 (by decide); exact xt_invV X hx hown (hts _ m_e991293f) (hts _ m_385a74b3) (hts _ m_c9fbcd02) (xt_sigOf (hts _ m_1f53f210)) nm_M_count (by rw [hT]; exact r1) r2 r3 (g := F0 m 174 ls [.ref x0, .ref x0]) rfl (argsL := []) (rest := [.ref x0]) rfl rfl (by rw [hb]; exact (xb_d D_M_sectionEntry 63 rfl))) (ok_M_count l hfl D A σ x0 h4 _ hw) (hml.trans hl.1.symm) (by rw [hb]; exact (xb_d D_M_sectionEntry 63 rfl)) (Nat.le_of_ble_eq_true rfl) (Nat.le_of_ble_eq_true rfl) (Nat.le_of_ble_eq_true rfl) (show k + 0 ≤ MC by omega) (show n + 0 ≤ MS by omega) (xt_w1 hB.1 m_1f53f210) (xt_cdOf hB.1 m_1f53f210) (hts _ m_d5ed7bed) hB hR hS hA (fun vv h6 H locs hq hEh6 hR hS => ?_) (fun XX ax h6 H locs hq hEh6 hex hR hS => ?_)
      · obtain ⟨r7, rfl, hw⟩ := hq
        have hw := hw hEh6
        have hE := hE.tr hEh6
        refine W.eq (g2 := F0 m 177 ls [.long r7, .ref x0]) rfl ?_
        have hk1 : xb_k h6 x0 = 9 := hEh6.k hk1
        refine xb_call (D := D) (A := A) (σ := σ) (h := h6) (d := 3) (mc := 0) (ms := 0) (maxL := 3) (rest := []) (av := [.ref x0, .long r7]) (fun T hT X => by obtain ⟨cb, r1, r2, r3⟩ := xb_recv (ci := 8) hR rfl hk1 (by decide); exact xt_invV X hx hown (hts _ m_dbba3a05) (hts _ m_5f0e3dde) (hts _ m_3b85804e) (xt_sigOf (hts _ m_d537edcb)) nm_M_skip (by rw [hT]; exact r1) r2 r3 (g := F0 m 177 ls [.long r7, .ref x0]) rfl (argsL := [.long r7]) (rest := []) rfl rfl (by rw [hb]; exact (xb_d D_M_sectionEntry 64 rfl))) (ok_M_skip l hfl D A σ x0 r7 h6 _ hw) (hml.trans hl.1.symm) (by rw [hb]; exact (xb_d D_M_sectionEntry 64 rfl)) (Nat.le_of_ble_eq_true rfl) (Nat.le_of_ble_eq_true rfl) (Nat.le_of_ble_eq_true rfl) (show k + 0 ≤ MC by omega) (show n + 0 ≤ MS by omega) (xt_w1 hB.1 m_d537edcb) (xt_cdOf hB.1 m_d537edcb) (hts _ m_d5ed7bed) hB hR hS hA (fun vv h8 H locs hq hEh8 hR hS => ?_) (fun XX ax h8 H locs hq hEh8 hex hR hS => ?_)
        · obtain ⟨rfl, hw⟩ := hq
          have hw := hw hEh8
          have hE := hE.tr hEh8
          refine W.eq (g2 := F0 m 180 ls []) rfl ?_
          exact am_M_sectionEntry_L180 l hfl D A σ MC MS h0 Qr h8 bc bs hw p e s m args below meth c hC H locs ls k n hE (lv_sub hl [] rfl) hR hS (by omega) (by omega)
        · exact False.elim hq
      · exact False.elim hq
    · exact False.elim hq
  · exact False.elim hq

set_option maxHeartbeats 4000000 in
set_option maxRecDepth 100000 in
theorem ok_M_sectionEntry (l : Launch) (hfl : l.flags = pinnedFlags ++ [noTraceFlag]) (D : va_G) (A : Nat → Prop) (σ : Nat) (x0 : Nat) (x1 : Int32) (h : xb_H) (bc : Nat) (bs : Nat) (Qr : xb_H → Prop) (hw : w_M_sectionEntry x0 x1 h bc bs Qr) : xt_Met l y_M_sectionEntry [.code y_M_sectionEntry b_M_sectionEntry 2 none] (xb_rm 9 bc bs) (xb_Pc D A σ h [.ref x0, .int x1]) (xb_Qc D A h (fun v h => v = none ∧ Qr h) (fun _ _ => False)) bc bs A := by
  refine xb_ofAm (cc := b_M_sectionEntry) (by decide) (Nat.le_of_ble_eq_true rfl) ?_
  unfold w_M_sectionEntry at hw
  show xb_am l D A σ 9 bc bs h (fun v h => v = none ∧ Qr h) (fun _ _ => False) y_M_sectionEntry.cls y_M_sectionEntry.name b_M_sectionEntry 2 ([] : List ExceptionTableEntry) none 0 [(0, .ref x0), (1, .int x1)] [] h bc bs
  obtain ⟨MC, hMC⟩ : ∃ x, x = bc := ⟨_, rfl⟩
  obtain ⟨MS, hMS⟩ : ∃ x, x = bs := ⟨_, rfl⟩
  rw [show xb_am l D A σ 9 bc bs = xb_am l D A σ 9 MC MS by rw [hMC, hMS]]
  obtain ⟨h0, hh0⟩ : ∃ x, x = h := ⟨_, rfl⟩
  rw [show xb_am l D A σ 9 MC MS h = xb_am l D A σ 9 MC MS h0 by rw [hh0]]
  intro p e s m args below meth c hC H locs ls k n hE hl hR hS hk hn
  obtain ⟨hx, hb, hown, hlocks, htab, hml, hr, hB, hA, hnm⟩ := id hC
  have hts := hB.1.1.at args
  refine lv_aload_n hx hb (xb_d D_M_sectionEntry 0 rfl) rfl (lv_at hl 0 rfl) ?_
  refine lv_iload_n hx hb (xb_d D_M_sectionEntry 1 rfl) rfl (lv_at hl 1 rfl) ?_
  obtain ⟨hk1, hw⟩ := hw
  obtain ⟨c4, sc4, hlc4, hlsc4, hw⟩ := hw
  refine xb_call (D := D) (A := A) (σ := σ) (h := h) (d := 2) (mc := c4) (ms := sc4) (maxL := 5) (rest := []) (av := [.ref x0, .int x1]) (fun T hT X => by obtain ⟨cb, r1, r2, r3⟩ := xb_recv (ci := 8) hR rfl hk1 (by decide); exact xt_invV X hx hown (hts _ m_35d7e567) (hts _ m_b3ce2bdc) (hts _ m_b2673fc8) (xt_sigOf (hts _ m_1dbf8488)) nm_M_note (by rw [hT]; exact r1) r2 r3 (g := F0 m 2 ls [.int x1, .ref x0]) rfl (argsL := [.int x1]) (rest := []) rfl rfl (by rw [hb]; exact (xb_d D_M_sectionEntry 2 rfl))) (ok_M_note l hfl D A σ x0 x1 h c4 sc4 _ hw) (hml.trans hl.1.symm) (by rw [hb]; exact (xb_d D_M_sectionEntry 2 rfl)) (Nat.le_of_ble_eq_true rfl) (Nat.le_of_ble_eq_true rfl) (Nat.le_of_ble_eq_true rfl) (show k + c4 ≤ MC by omega) (show n + sc4 ≤ MS by omega) (xt_w1 hB.1 m_1dbf8488) (xt_cdOf hB.1 m_1dbf8488) (hts _ m_d5ed7bed) hB hR hS hA (fun vv h2 H locs hq hEh2 hR hS => ?_) (fun XX ax h2 H locs hq hEh2 hex hR hS => ?_)
  · obtain ⟨rfl, hw⟩ := hq
    have hw := hw hEh2
    have hE := hE.tr hEh2
    refine W.eq (g2 := F0 m 5 ls []) rfl ?_
    refine lv_iload_n hx hb (xb_d D_M_sectionEntry 3 rfl) rfl (lv_at hl 1 rfl) ?_
    by_cases hc5 : x1 = 1
    · have hw := hw.1 hc5
      refine xt_numi hc5 ?_
      refine lv_tableIn (off := 54) (tgt := 60) hx hb (xb_d D_M_sectionEntry 4 rfl) (by decide +kernel) (by decide +kernel) (by decide +kernel) (by decide) ?_
      refine lv_aload_n hx hb (xb_d D_M_sectionEntry 5 rfl) rfl (lv_at hl 0 rfl) ?_
      refine lv_bipush (v := 96) hx hb (xb_d D_M_sectionEntry 6 rfl) (by decide) ?_
      refine lv_bipush (v := 96) hx hb (xb_d D_M_sectionEntry 7 rfl) (by decide) ?_
      have hk1 : xb_k h2 x0 = 9 := hEh2.k hk1
      refine xb_call (D := D) (A := A) (σ := σ) (h := h2) (d := 4) (mc := 0) (ms := 0) (maxL := 4) (rest := []) (av := [.ref x0, .int 96, .int 96]) (fun T hT X => by obtain ⟨cb, r1, r2, r3⟩ := xb_recv (ci := 8) hR rfl hk1 (by decide); exact xt_invV X hx hown (hts _ m_8f6f4626) (hts _ m_01caba2f) (hts _ m_4616b4d4) (xt_sigOf (hts _ m_6db7f9f9)) nm_M_wanted (by rw [hT]; exact r1) r2 r3 (g := F0 m 65 ls [.int 96, .int 96, .ref x0]) rfl (argsL := [.int 96, .int 96]) (rest := []) rfl rfl (by rw [hb]; exact (xb_d D_M_sectionEntry 8 rfl))) (ok_M_wanted l hfl D A σ x0 96 96 h2 _ hw) (hml.trans hl.1.symm) (by rw [hb]; exact (xb_d D_M_sectionEntry 8 rfl)) (Nat.le_of_ble_eq_true rfl) (Nat.le_of_ble_eq_true rfl) (Nat.le_of_ble_eq_true rfl) (show (k + c4) + 0 ≤ MC by omega) (show (n + sc4) + 0 ≤ MS by omega) (xt_w1 hB.1 m_6db7f9f9) (xt_cdOf hB.1 m_6db7f9f9) (hts _ m_d5ed7bed) hB hR hS hA (fun vv h6 H locs hq hEh6 hR hS => ?_) (fun XX ax h6 H locs hq hEh6 hex hR hS => ?_)
      · obtain ⟨rfl, hw⟩ := hq
        have hw := hw hEh6
        have hE := hE.tr hEh6
        refine W.eq (g2 := F0 m 68 ls []) rfl ?_
        refine lv_aload_n hx hb (xb_d D_M_sectionEntry 9 rfl) rfl (lv_at hl 0 rfl) ?_
        refine lv_iconst (v := 1) hx hb (xb_d D_M_sectionEntry 10 rfl) (by decide) ?_
        have hk1 : xb_k h6 x0 = 9 := hEh6.k hk1
        refine xb_call (D := D) (A := A) (σ := σ) (h := h6) (d := 5) (mc := 0) (ms := 0) (maxL := 6) (rest := []) (av := [.ref x0, .int 1]) (fun T hT X => by obtain ⟨cb, r1, r2, r3⟩ := xb_recv (ci := 8) hR rfl hk1 (by decide); exact xt_invV X hx hown (hts _ m_065c51a0) (hts _ m_29bd5f42) (hts _ m_39b260c0) (xt_sigOf (hts _ m_f669d6ca)) nm_M_row (by rw [hT]; exact r1) r2 r3 (g := F0 m 70 ls [.int 1, .ref x0]) rfl (argsL := [.int 1]) (rest := []) rfl rfl (by rw [hb]; exact (xb_d D_M_sectionEntry 11 rfl))) (ok_M_row l hfl D A σ x0 1 h6 _ hw) (hml.trans hl.1.symm) (by rw [hb]; exact (xb_d D_M_sectionEntry 11 rfl)) (Nat.le_of_ble_eq_true rfl) (Nat.le_of_ble_eq_true rfl) (Nat.le_of_ble_eq_true rfl) (show (k + c4) + 0 ≤ MC by omega) (show (n + sc4) + 0 ≤ MS by omega) (xt_w1 hB.1 m_f669d6ca) (xt_cdOf hB.1 m_f669d6ca) (hts _ m_d5ed7bed) hB hR hS hA (fun vv h8 H locs hq hEh8 hR hS => ?_) (fun XX ax h8 H locs hq hEh8 hex hR hS => ?_)
        · obtain ⟨rfl, hw⟩ := hq
          have hw := hw hEh8
          have hE := hE.tr hEh8
          refine W.eq (g2 := F0 m 73 ls []) rfl ?_
          refine lv_aload_n hx hb (xb_d D_M_sectionEntry 12 rfl) rfl (lv_at hl 0 rfl) ?_
          refine lv_iconst (v := 1) hx hb (xb_d D_M_sectionEntry 13 rfl) (by decide) ?_
          have hk1 : xb_k h8 x0 = 9 := hEh8.k hk1
          refine xb_call (D := D) (A := A) (σ := σ) (h := h8) (d := 5) (mc := 0) (ms := 0) (maxL := 6) (rest := []) (av := [.ref x0, .int 1]) (fun T hT X => by obtain ⟨cb, r1, r2, r3⟩ := xb_recv (ci := 8) hR rfl hk1 (by decide); exact xt_invV X hx hown (hts _ m_065c51a0) (hts _ m_29bd5f42) (hts _ m_39b260c0) (xt_sigOf (hts _ m_f669d6ca)) nm_M_row (by rw [hT]; exact r1) r2 r3 (g := F0 m 75 ls [.int 1, .ref x0]) rfl (argsL := [.int 1]) (rest := []) rfl rfl (by rw [hb]; exact (xb_d D_M_sectionEntry 14 rfl))) (ok_M_row l hfl D A σ x0 1 h8 _ hw) (hml.trans hl.1.symm) (by rw [hb]; exact (xb_d D_M_sectionEntry 14 rfl)) (Nat.le_of_ble_eq_true rfl) (Nat.le_of_ble_eq_true rfl) (Nat.le_of_ble_eq_true rfl) (show (k + c4) + 0 ≤ MC by omega) (show (n + sc4) + 0 ≤ MS by omega) (xt_w1 hB.1 m_f669d6ca) (xt_cdOf hB.1 m_f669d6ca) (hts _ m_d5ed7bed) hB hR hS hA (fun vv h10 H locs hq hEh10 hR hS => ?_) (fun XX ax h10 H locs hq hEh10 hex hR hS => ?_)
          · obtain ⟨rfl, hw⟩ := hq
            have hw := hw hEh10
            have hE := hE.tr hEh10
            refine W.eq (g2 := F0 m 78 ls []) rfl ?_
            refine lv_goto (tgt := 180) hx hb (xb_d D_M_sectionEntry 15 rfl) rfl ?_
            exact am_M_sectionEntry_L180 l hfl D A σ MC MS h0 Qr h10 (bc - c4) (bs - sc4) hw p e s m args below meth c hC H locs ls (k + c4) (n + sc4) hE (lv_sub hl [] rfl) hR hS (by omega) (by omega)
          · exact False.elim hq
        · exact False.elim hq
      · exact False.elim hq
    have hw := hw.2
    by_cases hc12 : x1 = 2
    · have hw := hw.1 hc12
      refine xt_numi hc12 ?_
      refine lv_tableIn (off := 75) (tgt := 81) hx hb (xb_d D_M_sectionEntry 4 rfl) (by decide +kernel) (by decide +kernel) (by decide +kernel) (by decide) ?_
      refine lv_aload_n hx hb (xb_d D_M_sectionEntry 16 rfl) rfl (lv_at hl 0 rfl) ?_
      have hk1 : xb_k h2 x0 = 9 := hEh2.k hk1
      refine xb_call (D := D) (A := A) (σ := σ) (h := h2) (d := 7) (mc := 0) (ms := 0) (maxL := 2) (rest := []) (av := [.ref x0]) (fun T hT X => by obtain ⟨cb, r1, r2, r3⟩ := xb_recv (ci := 8) hR rfl hk1 (by decide); exact xt_invV X hx hown (hts _ m_e7c863cf) (hts _ m_ba28eb00) (hts _ m_d1bca475) (xt_sigOf (hts _ m_02aaae69)) nm_M_importEntry (by rw [hT]; exact r1) r2 r3 (g := F0 m 82 ls [.ref x0]) rfl (argsL := []) (rest := []) rfl rfl (by rw [hb]; exact (xb_d D_M_sectionEntry 17 rfl))) (ok_M_importEntry l hfl D A σ x0 h2 _ hw) (hml.trans hl.1.symm) (by rw [hb]; exact (xb_d D_M_sectionEntry 17 rfl)) (Nat.le_of_ble_eq_true rfl) (Nat.le_of_ble_eq_true rfl) (Nat.le_of_ble_eq_true rfl) (show (k + c4) + 0 ≤ MC by omega) (show (n + sc4) + 0 ≤ MS by omega) (xt_w1 hB.1 m_02aaae69) (xt_cdOf hB.1 m_02aaae69) (hts _ m_d5ed7bed) hB hR hS hA (fun vv h13 H locs hq hEh13 hR hS => ?_) (fun XX ax h13 H locs hq hEh13 hex hR hS => ?_)
      · obtain ⟨rfl, hw⟩ := hq
        have hw := hw hEh13
        have hE := hE.tr hEh13
        refine W.eq (g2 := F0 m 85 ls []) rfl ?_
        refine lv_goto (tgt := 180) hx hb (xb_d D_M_sectionEntry 18 rfl) rfl ?_
        exact am_M_sectionEntry_L180 l hfl D A σ MC MS h0 Qr h13 (bc - c4) (bs - sc4) hw p e s m args below meth c hC H locs ls (k + c4) (n + sc4) hE (lv_sub hl [] rfl) hR hS (by omega) (by omega)
      · exact False.elim hq
    have hw := hw.2
    by_cases hc15 : x1 = 3
    · have hw := hw.1 hc15
      refine xt_numi hc15 ?_
      refine lv_tableIn (off := 82) (tgt := 88) hx hb (xb_d D_M_sectionEntry 4 rfl) (by decide +kernel) (by decide +kernel) (by decide +kernel) (by decide) ?_
      refine lv_aload_n hx hb (xb_d D_M_sectionEntry 19 rfl) rfl (lv_at hl 0 rfl) ?_
      have hk1 : xb_k h2 x0 = 9 := hEh2.k hk1
      refine xb_call (D := D) (A := A) (σ := σ) (h := h2) (d := 4) (mc := 0) (ms := 0) (maxL := 5) (rest := []) (av := [.ref x0]) (fun T hT X => by obtain ⟨cb, r1, r2, r3⟩ := xb_recv (ci := 8) hR rfl hk1 (by decide); exact xt_invV X hx hown (hts _ m_e991293f) (hts _ m_385a74b3) (hts _ m_c9fbcd02) (xt_sigOf (hts _ m_1f53f210)) nm_M_count (by rw [hT]; exact r1) r2 r3 (g := F0 m 89 ls [.ref x0]) rfl (argsL := []) (rest := []) rfl rfl (by rw [hb]; exact (xb_d D_M_sectionEntry 20 rfl))) (ok_M_count l hfl D A σ x0 h2 _ hw) (hml.trans hl.1.symm) (by rw [hb]; exact (xb_d D_M_sectionEntry 20 rfl)) (Nat.le_of_ble_eq_true rfl) (Nat.le_of_ble_eq_true rfl) (Nat.le_of_ble_eq_true rfl) (show (k + c4) + 0 ≤ MC by omega) (show (n + sc4) + 0 ≤ MS by omega) (xt_w1 hB.1 m_1f53f210) (xt_cdOf hB.1 m_1f53f210) (hts _ m_d5ed7bed) hB hR hS hA (fun vv h16 H locs hq hEh16 hR hS => ?_) (fun XX ax h16 H locs hq hEh16 hex hR hS => ?_)
      · obtain ⟨r17, rfl, hw⟩ := hq
        have hw := hw hEh16
        have hE := hE.tr hEh16
        refine W.eq (g2 := F0 m 92 ls [.long r17]) rfl ?_
        refine lv_pop2_2 hx hb (xb_d D_M_sectionEntry 21 rfl) rfl ?_
        refine lv_goto (tgt := 180) hx hb (xb_d D_M_sectionEntry 22 rfl) rfl ?_
        exact am_M_sectionEntry_L180 l hfl D A σ MC MS h0 Qr h16 (bc - c4) (bs - sc4) hw p e s m args below meth c hC H locs ls (k + c4) (n + sc4) hE (lv_sub hl [] rfl) hR hS (by omega) (by omega)
      · exact False.elim hq
    have hw := hw.2
    by_cases hc18 : x1 = 4
    · have hw := hw.1 hc18
      refine xt_numi hc18 ?_
      refine lv_tableIn (off := 90) (tgt := 96) hx hb (xb_d D_M_sectionEntry 4 rfl) (by decide +kernel) (by decide +kernel) (by decide +kernel) (by decide) ?_
      refine lv_aload_n hx hb (xb_d D_M_sectionEntry 23 rfl) rfl (lv_at hl 0 rfl) ?_
      have hk1 : xb_k h2 x0 = 9 := hEh2.k hk1
      refine xb_call (D := D) (A := A) (σ := σ) (h := h2) (d := 6) (mc := 0) (ms := 0) (maxL := 1) (rest := []) (av := [.ref x0]) (fun T hT X => by obtain ⟨cb, r1, r2, r3⟩ := xb_recv (ci := 8) hR rfl hk1 (by decide); exact xt_invV X hx hown (hts _ m_649f8fdd) (hts _ m_5adfa267) (hts _ m_d7022070) (xt_sigOf (hts _ m_11c8eedd)) nm_M_tableType (by rw [hT]; exact r1) r2 r3 (g := F0 m 97 ls [.ref x0]) rfl (argsL := []) (rest := []) rfl rfl (by rw [hb]; exact (xb_d D_M_sectionEntry 24 rfl))) (ok_M_tableType l hfl D A σ x0 h2 _ hw) (hml.trans hl.1.symm) (by rw [hb]; exact (xb_d D_M_sectionEntry 24 rfl)) (Nat.le_of_ble_eq_true rfl) (Nat.le_of_ble_eq_true rfl) (Nat.le_of_ble_eq_true rfl) (show (k + c4) + 0 ≤ MC by omega) (show (n + sc4) + 0 ≤ MS by omega) (xt_w1 hB.1 m_11c8eedd) (xt_cdOf hB.1 m_11c8eedd) (hts _ m_d5ed7bed) hB hR hS hA (fun vv h19 H locs hq hEh19 hR hS => ?_) (fun XX ax h19 H locs hq hEh19 hex hR hS => ?_)
      · obtain ⟨rfl, hw⟩ := hq
        have hw := hw hEh19
        have hE := hE.tr hEh19
        refine W.eq (g2 := F0 m 100 ls []) rfl ?_
        refine lv_goto (tgt := 180) hx hb (xb_d D_M_sectionEntry 25 rfl) rfl ?_
        exact am_M_sectionEntry_L180 l hfl D A σ MC MS h0 Qr h19 (bc - c4) (bs - sc4) hw p e s m args below meth c hC H locs ls (k + c4) (n + sc4) hE (lv_sub hl [] rfl) hR hS (by omega) (by omega)
      · exact False.elim hq
    have hw := hw.2
    by_cases hc21 : x1 = 5
    · have hw := hw.1 hc21
      refine xt_numi hc21 ?_
      refine lv_tableIn (off := 97) (tgt := 103) hx hb (xb_d D_M_sectionEntry 4 rfl) (by decide +kernel) (by decide +kernel) (by decide +kernel) (by decide) ?_
      refine lv_aload_n hx hb (xb_d D_M_sectionEntry 26 rfl) rfl (lv_at hl 0 rfl) ?_
      have hk1 : xb_k h2 x0 = 9 := hEh2.k hk1
      refine xb_call (D := D) (A := A) (σ := σ) (h := h2) (d := 5) (mc := 0) (ms := 0) (maxL := 3) (rest := []) (av := [.ref x0]) (fun T hT X => by obtain ⟨cb, r1, r2, r3⟩ := xb_recv (ci := 8) hR rfl hk1 (by decide); exact xt_invV X hx hown (hts _ m_27918af5) (hts _ m_8f0ce704) (hts _ m_1c9ac27d) (xt_sigOf (hts _ m_c998ef6e)) nm_M_limits (by rw [hT]; exact r1) r2 r3 (g := F0 m 104 ls [.ref x0]) rfl (argsL := []) (rest := []) rfl rfl (by rw [hb]; exact (xb_d D_M_sectionEntry 27 rfl))) (ok_M_limits l hfl D A σ x0 h2 _ hw) (hml.trans hl.1.symm) (by rw [hb]; exact (xb_d D_M_sectionEntry 27 rfl)) (Nat.le_of_ble_eq_true rfl) (Nat.le_of_ble_eq_true rfl) (Nat.le_of_ble_eq_true rfl) (show (k + c4) + 0 ≤ MC by omega) (show (n + sc4) + 0 ≤ MS by omega) (xt_w1 hB.1 m_c998ef6e) (xt_cdOf hB.1 m_c998ef6e) (hts _ m_d5ed7bed) hB hR hS hA (fun vv h22 H locs hq hEh22 hR hS => ?_) (fun XX ax h22 H locs hq hEh22 hex hR hS => ?_)
      · obtain ⟨rfl, hw⟩ := hq
        have hw := hw hEh22
        have hE := hE.tr hEh22
        refine W.eq (g2 := F0 m 107 ls []) rfl ?_
        refine lv_goto (tgt := 180) hx hb (xb_d D_M_sectionEntry 28 rfl) rfl ?_
        exact am_M_sectionEntry_L180 l hfl D A σ MC MS h0 Qr h22 (bc - c4) (bs - sc4) hw p e s m args below meth c hC H locs ls (k + c4) (n + sc4) hE (lv_sub hl [] rfl) hR hS (by omega) (by omega)
      · exact False.elim hq
    have hw := hw.2
    by_cases hc24 : x1 = 6
    · have hw := hw.1 hc24
      refine xt_numi hc24 ?_
      refine lv_tableIn (off := 104) (tgt := 110) hx hb (xb_d D_M_sectionEntry 4 rfl) (by decide +kernel) (by decide +kernel) (by decide +kernel) (by decide) ?_
      refine lv_aload_n hx hb (xb_d D_M_sectionEntry 29 rfl) rfl (lv_at hl 0 rfl) ?_
      have hk1 : xb_k h2 x0 = 9 := hEh2.k hk1
      refine xb_call (D := D) (A := A) (σ := σ) (h := h2) (d := 5) (mc := 0) (ms := 0) (maxL := 1) (rest := []) (av := [.ref x0]) (fun T hT X => by obtain ⟨cb, r1, r2, r3⟩ := xb_recv (ci := 8) hR rfl hk1 (by decide); exact xt_invV X hx hown (hts _ m_d7224fd9) (hts _ m_4ba67653) (hts _ m_0264d432) (xt_sigOf (hts _ m_db18be48)) nm_M_variableKind (by rw [hT]; exact r1) r2 r3 (g := F0 m 111 ls [.ref x0]) rfl (argsL := []) (rest := []) rfl rfl (by rw [hb]; exact (xb_d D_M_sectionEntry 30 rfl))) (ok_M_variableKind l hfl D A σ x0 h2 _ hw) (hml.trans hl.1.symm) (by rw [hb]; exact (xb_d D_M_sectionEntry 30 rfl)) (Nat.le_of_ble_eq_true rfl) (Nat.le_of_ble_eq_true rfl) (Nat.le_of_ble_eq_true rfl) (show (k + c4) + 0 ≤ MC by omega) (show (n + sc4) + 0 ≤ MS by omega) (xt_w1 hB.1 m_db18be48) (xt_cdOf hB.1 m_db18be48) (hts _ m_d5ed7bed) hB hR hS hA (fun vv h25 H locs hq hEh25 hR hS => ?_) (fun XX ax h25 H locs hq hEh25 hex hR hS => ?_)
      · obtain ⟨rfl, hw⟩ := hq
        have hw := hw hEh25
        have hE := hE.tr hEh25
        refine W.eq (g2 := F0 m 114 ls []) rfl ?_
        refine lv_aload_n hx hb (xb_d D_M_sectionEntry 31 rfl) rfl (lv_at hl 0 rfl) ?_
        have hk1 : xb_k h25 x0 = 9 := hEh25.k hk1
        refine xb_call (D := D) (A := A) (σ := σ) (h := h25) (d := 7) (mc := 0) (ms := 0) (maxL := 5) (rest := []) (av := [.ref x0]) (fun T hT X => by obtain ⟨cb, r1, r2, r3⟩ := xb_recv (ci := 8) hR rfl hk1 (by decide); exact xt_invV X hx hown (hts _ m_4644df8e) (hts _ m_2230da74) (hts _ m_7fd46769) (xt_sigOf (hts _ m_ed213729)) nm_M_expression (by rw [hT]; exact r1) r2 r3 (g := F0 m 115 ls [.ref x0]) rfl (argsL := []) (rest := []) rfl rfl (by rw [hb]; exact (xb_d D_M_sectionEntry 32 rfl))) (ok_M_expression l hfl D A σ x0 h25 _ hw) (hml.trans hl.1.symm) (by rw [hb]; exact (xb_d D_M_sectionEntry 32 rfl)) (Nat.le_of_ble_eq_true rfl) (Nat.le_of_ble_eq_true rfl) (Nat.le_of_ble_eq_true rfl) (show (k + c4) + 0 ≤ MC by omega) (show (n + sc4) + 0 ≤ MS by omega) (xt_w1 hB.1 m_ed213729) (xt_cdOf hB.1 m_ed213729) (hts _ m_d5ed7bed) hB hR hS hA (fun vv h27 H locs hq hEh27 hR hS => ?_) (fun XX ax h27 H locs hq hEh27 hex hR hS => ?_)
        · obtain ⟨rfl, hw⟩ := hq
          have hw := hw hEh27
          have hE := hE.tr hEh27
          refine W.eq (g2 := F0 m 118 ls []) rfl ?_
          refine lv_goto (tgt := 180) hx hb (xb_d D_M_sectionEntry 33 rfl) rfl ?_
          exact am_M_sectionEntry_L180 l hfl D A σ MC MS h0 Qr h27 (bc - c4) (bs - sc4) hw p e s m args below meth c hC H locs ls (k + c4) (n + sc4) hE (lv_sub hl [] rfl) hR hS (by omega) (by omega)
        · exact False.elim hq
      · exact False.elim hq
    have hw := hw.2
    by_cases hc29 : x1 = 7
    · have hw := hw.1 hc29
      refine xt_numi hc29 ?_
      refine lv_tableIn (off := 115) (tgt := 121) hx hb (xb_d D_M_sectionEntry 4 rfl) (by decide +kernel) (by decide +kernel) (by decide +kernel) (by decide) ?_
      refine lv_aload_n hx hb (xb_d D_M_sectionEntry 34 rfl) rfl (lv_at hl 0 rfl) ?_
      have hk1 : xb_k h2 x0 = 9 := hEh2.k hk1
      refine xb_call (D := D) (A := A) (σ := σ) (h := h2) (d := 5) (mc := 0) (ms := 0) (maxL := 5) (rest := []) (av := [.ref x0]) (fun T hT X => by obtain ⟨cb, r1, r2, r3⟩ := xb_recv (ci := 8) hR rfl hk1 (by decide); exact xt_invV X hx hown (hts _ m_32411888) (hts _ m_1909bcad) (hts _ m_471efb70) (xt_sigOf (hts _ m_06b9cb5d)) nm_M_name0 (by rw [hT]; exact r1) r2 r3 (g := F0 m 122 ls [.ref x0]) rfl (argsL := []) (rest := []) rfl rfl (by rw [hb]; exact (xb_d D_M_sectionEntry 35 rfl))) (ok_M_name0 l hfl D A σ x0 h2 _ hw) (hml.trans hl.1.symm) (by rw [hb]; exact (xb_d D_M_sectionEntry 35 rfl)) (Nat.le_of_ble_eq_true rfl) (Nat.le_of_ble_eq_true rfl) (Nat.le_of_ble_eq_true rfl) (show (k + c4) + 0 ≤ MC by omega) (show (n + sc4) + 0 ≤ MS by omega) (xt_w1 hB.1 m_06b9cb5d) (xt_cdOf hB.1 m_06b9cb5d) (hts _ m_d5ed7bed) hB hR hS hA (fun vv h30 H locs hq hEh30 hR hS => ?_) (fun XX ax h30 H locs hq hEh30 hex hR hS => ?_)
      · obtain ⟨rfl, hw⟩ := hq
        have hw := hw hEh30
        have hE := hE.tr hEh30
        refine W.eq (g2 := F0 m 125 ls []) rfl ?_
        refine lv_aload_n hx hb (xb_d D_M_sectionEntry 36 rfl) rfl (lv_at hl 0 rfl) ?_
        refine lv_iconst (v := 0) hx hb (xb_d D_M_sectionEntry 37 rfl) (by decide) ?_
        refine lv_iconst (v := 3) hx hb (xb_d D_M_sectionEntry 38 rfl) (by decide) ?_
        have hk1 : xb_k h30 x0 = 9 := hEh30.k hk1
        refine xb_call (D := D) (A := A) (σ := σ) (h := h30) (d := 4) (mc := 0) (ms := 0) (maxL := 4) (rest := []) (av := [.ref x0, .int 0, .int 3]) (fun T hT X => by obtain ⟨cb, r1, r2, r3⟩ := xb_recv (ci := 8) hR rfl hk1 (by decide); exact xt_invV X hx hown (hts _ m_8f6f4626) (hts _ m_01caba2f) (hts _ m_4616b4d4) (xt_sigOf (hts _ m_6db7f9f9)) nm_M_wanted (by rw [hT]; exact r1) r2 r3 (g := F0 m 128 ls [.int 3, .int 0, .ref x0]) rfl (argsL := [.int 0, .int 3]) (rest := []) rfl rfl (by rw [hb]; exact (xb_d D_M_sectionEntry 39 rfl))) (ok_M_wanted l hfl D A σ x0 0 3 h30 _ hw) (hml.trans hl.1.symm) (by rw [hb]; exact (xb_d D_M_sectionEntry 39 rfl)) (Nat.le_of_ble_eq_true rfl) (Nat.le_of_ble_eq_true rfl) (Nat.le_of_ble_eq_true rfl) (show (k + c4) + 0 ≤ MC by omega) (show (n + sc4) + 0 ≤ MS by omega) (xt_w1 hB.1 m_6db7f9f9) (xt_cdOf hB.1 m_6db7f9f9) (hts _ m_d5ed7bed) hB hR hS hA (fun vv h32 H locs hq hEh32 hR hS => ?_) (fun XX ax h32 H locs hq hEh32 hex hR hS => ?_)
        · obtain ⟨rfl, hw⟩ := hq
          have hw := hw hEh32
          have hE := hE.tr hEh32
          refine W.eq (g2 := F0 m 131 ls []) rfl ?_
          refine lv_aload_n hx hb (xb_d D_M_sectionEntry 40 rfl) rfl (lv_at hl 0 rfl) ?_
          have hk1 : xb_k h32 x0 = 9 := hEh32.k hk1
          refine xb_call (D := D) (A := A) (σ := σ) (h := h32) (d := 4) (mc := 0) (ms := 0) (maxL := 5) (rest := []) (av := [.ref x0]) (fun T hT X => by obtain ⟨cb, r1, r2, r3⟩ := xb_recv (ci := 8) hR rfl hk1 (by decide); exact xt_invV X hx hown (hts _ m_e991293f) (hts _ m_385a74b3) (hts _ m_c9fbcd02) (xt_sigOf (hts _ m_1f53f210)) nm_M_count (by rw [hT]; exact r1) r2 r3 (g := F0 m 132 ls [.ref x0]) rfl (argsL := []) (rest := []) rfl rfl (by rw [hb]; exact (xb_d D_M_sectionEntry 41 rfl))) (ok_M_count l hfl D A σ x0 h32 _ hw) (hml.trans hl.1.symm) (by rw [hb]; exact (xb_d D_M_sectionEntry 41 rfl)) (Nat.le_of_ble_eq_true rfl) (Nat.le_of_ble_eq_true rfl) (Nat.le_of_ble_eq_true rfl) (show (k + c4) + 0 ≤ MC by omega) (show (n + sc4) + 0 ≤ MS by omega) (xt_w1 hB.1 m_1f53f210) (xt_cdOf hB.1 m_1f53f210) (hts _ m_d5ed7bed) hB hR hS hA (fun vv h34 H locs hq hEh34 hR hS => ?_) (fun XX ax h34 H locs hq hEh34 hex hR hS => ?_)
          · obtain ⟨r35, rfl, hw⟩ := hq
            have hw := hw hEh34
            have hE := hE.tr hEh34
            refine W.eq (g2 := F0 m 135 ls [.long r35]) rfl ?_
            refine lv_pop2_2 hx hb (xb_d D_M_sectionEntry 42 rfl) rfl ?_
            refine lv_goto (tgt := 180) hx hb (xb_d D_M_sectionEntry 43 rfl) rfl ?_
            exact am_M_sectionEntry_L180 l hfl D A σ MC MS h0 Qr h34 (bc - c4) (bs - sc4) hw p e s m args below meth c hC H locs ls (k + c4) (n + sc4) hE (lv_sub hl [] rfl) hR hS (by omega) (by omega)
          · exact False.elim hq
        · exact False.elim hq
      · exact False.elim hq
    have hw := hw.2
    by_cases hc36 : x1 = 8
    · have hw := hw.1 hc36
      refine xt_numi hc36 ?_
      refine lv_tableIn (off := 157) (tgt := 163) hx hb (xb_d D_M_sectionEntry 4 rfl) (by decide +kernel) (by decide +kernel) (by decide +kernel) (by decide) ?_
      exact am_M_sectionEntry_L163 l hfl D A σ MC MS h0 Qr x0 h2 (bc - c4) (bs - sc4) hw p e s m args below meth c hC H locs ls (k + c4) (n + sc4) hE (lv_sub hl [0] rfl) hR hS (by omega) (by omega)
    have hw := hw.2
    by_cases hc37 : x1 = 9
    · have hw := hw.1 hc37
      refine xt_numi hc37 ?_
      refine lv_tableIn (off := 133) (tgt := 139) hx hb (xb_d D_M_sectionEntry 4 rfl) (by decide +kernel) (by decide +kernel) (by decide +kernel) (by decide) ?_
      refine lv_aload_n hx hb (xb_d D_M_sectionEntry 44 rfl) rfl (lv_at hl 0 rfl) ?_
      have hk1 : xb_k h2 x0 = 9 := hEh2.k hk1
      refine xb_call (D := D) (A := A) (σ := σ) (h := h2) (d := 4) (mc := 0) (ms := 0) (maxL := 5) (rest := []) (av := [.ref x0]) (fun T hT X => by obtain ⟨cb, r1, r2, r3⟩ := xb_recv (ci := 8) hR rfl hk1 (by decide); exact xt_invV X hx hown (hts _ m_e991293f) (hts _ m_385a74b3) (hts _ m_c9fbcd02) (xt_sigOf (hts _ m_1f53f210)) nm_M_count (by rw [hT]; exact r1) r2 r3 (g := F0 m 140 ls [.ref x0]) rfl (argsL := []) (rest := []) rfl rfl (by rw [hb]; exact (xb_d D_M_sectionEntry 45 rfl))) (ok_M_count l hfl D A σ x0 h2 _ hw) (hml.trans hl.1.symm) (by rw [hb]; exact (xb_d D_M_sectionEntry 45 rfl)) (Nat.le_of_ble_eq_true rfl) (Nat.le_of_ble_eq_true rfl) (Nat.le_of_ble_eq_true rfl) (show (k + c4) + 0 ≤ MC by omega) (show (n + sc4) + 0 ≤ MS by omega) (xt_w1 hB.1 m_1f53f210) (xt_cdOf hB.1 m_1f53f210) (hts _ m_d5ed7bed) hB hR hS hA (fun vv h38 H locs hq hEh38 hR hS => ?_) (fun XX ax h38 H locs hq hEh38 hex hR hS => ?_)
      · obtain ⟨r39, rfl, hw⟩ := hq
        have hw := hw hEh38
        have hE := hE.tr hEh38
        refine W.eq (g2 := F0 m 143 ls [.long r39]) rfl ?_
        refine lv_pop2_2 hx hb (xb_d D_M_sectionEntry 46 rfl) rfl ?_
        refine lv_aload_n hx hb (xb_d D_M_sectionEntry 47 rfl) rfl (lv_at hl 0 rfl) ?_
        have hk1 : xb_k h38 x0 = 9 := hEh38.k hk1
        refine xb_call (D := D) (A := A) (σ := σ) (h := h38) (d := 7) (mc := 0) (ms := 0) (maxL := 5) (rest := []) (av := [.ref x0]) (fun T hT X => by obtain ⟨cb, r1, r2, r3⟩ := xb_recv (ci := 8) hR rfl hk1 (by decide); exact xt_invV X hx hown (hts _ m_4644df8e) (hts _ m_2230da74) (hts _ m_7fd46769) (xt_sigOf (hts _ m_ed213729)) nm_M_expression (by rw [hT]; exact r1) r2 r3 (g := F0 m 145 ls [.ref x0]) rfl (argsL := []) (rest := []) rfl rfl (by rw [hb]; exact (xb_d D_M_sectionEntry 48 rfl))) (ok_M_expression l hfl D A σ x0 h38 _ hw) (hml.trans hl.1.symm) (by rw [hb]; exact (xb_d D_M_sectionEntry 48 rfl)) (Nat.le_of_ble_eq_true rfl) (Nat.le_of_ble_eq_true rfl) (Nat.le_of_ble_eq_true rfl) (show (k + c4) + 0 ≤ MC by omega) (show (n + sc4) + 0 ≤ MS by omega) (xt_w1 hB.1 m_ed213729) (xt_cdOf hB.1 m_ed213729) (hts _ m_d5ed7bed) hB hR hS hA (fun vv h40 H locs hq hEh40 hR hS => ?_) (fun XX ax h40 H locs hq hEh40 hex hR hS => ?_)
        · obtain ⟨rfl, hw⟩ := hq
          have hw := hw hEh40
          have hE := hE.tr hEh40
          refine W.eq (g2 := F0 m 148 ls []) rfl ?_
          refine lv_aload_n hx hb (xb_d D_M_sectionEntry 49 rfl) rfl (lv_at hl 0 rfl) ?_
          refine lv_iconst (v := 0) hx hb (xb_d D_M_sectionEntry 50 rfl) (by decide) ?_
          have hk1 : xb_k h40 x0 = 9 := hEh40.k hk1
          refine xb_call (D := D) (A := A) (σ := σ) (h := h40) (d := 5) (mc := 0) (ms := 0) (maxL := 6) (rest := []) (av := [.ref x0, .int 0]) (fun T hT X => by obtain ⟨cb, r1, r2, r3⟩ := xb_recv (ci := 8) hR rfl hk1 (by decide); exact xt_invV X hx hown (hts _ m_065c51a0) (hts _ m_29bd5f42) (hts _ m_39b260c0) (xt_sigOf (hts _ m_f669d6ca)) nm_M_row (by rw [hT]; exact r1) r2 r3 (g := F0 m 150 ls [.int 0, .ref x0]) rfl (argsL := [.int 0]) (rest := []) rfl rfl (by rw [hb]; exact (xb_d D_M_sectionEntry 51 rfl))) (ok_M_row l hfl D A σ x0 0 h40 _ hw) (hml.trans hl.1.symm) (by rw [hb]; exact (xb_d D_M_sectionEntry 51 rfl)) (Nat.le_of_ble_eq_true rfl) (Nat.le_of_ble_eq_true rfl) (Nat.le_of_ble_eq_true rfl) (show (k + c4) + 0 ≤ MC by omega) (show (n + sc4) + 0 ≤ MS by omega) (xt_w1 hB.1 m_f669d6ca) (xt_cdOf hB.1 m_f669d6ca) (hts _ m_d5ed7bed) hB hR hS hA (fun vv h42 H locs hq hEh42 hR hS => ?_) (fun XX ax h42 H locs hq hEh42 hex hR hS => ?_)
          · obtain ⟨rfl, hw⟩ := hq
            have hw := hw hEh42
            have hE := hE.tr hEh42
            refine W.eq (g2 := F0 m 153 ls []) rfl ?_
            refine lv_goto (tgt := 180) hx hb (xb_d D_M_sectionEntry 52 rfl) rfl ?_
            exact am_M_sectionEntry_L180 l hfl D A σ MC MS h0 Qr h42 (bc - c4) (bs - sc4) hw p e s m args below meth c hC H locs ls (k + c4) (n + sc4) hE (lv_sub hl [] rfl) hR hS (by omega) (by omega)
          · exact False.elim hq
        · exact False.elim hq
      · exact False.elim hq
    have hw := hw.2
    by_cases hc44 : x1 = 10
    · have hw := hw.1 hc44
      refine xt_numi hc44 ?_
      refine lv_tableIn (off := 150) (tgt := 156) hx hb (xb_d D_M_sectionEntry 4 rfl) (by decide +kernel) (by decide +kernel) (by decide +kernel) (by decide) ?_
      refine lv_aload_n hx hb (xb_d D_M_sectionEntry 53 rfl) rfl (lv_at hl 0 rfl) ?_
      have hk1 : xb_k h2 x0 = 9 := hEh2.k hk1
      refine xb_call (D := D) (A := A) (σ := σ) (h := h2) (d := 8) (mc := 0) (ms := 0) (maxL := 11) (rest := []) (av := [.ref x0]) (fun T hT X => by obtain ⟨cb, r1, r2, r3⟩ := xb_recv (ci := 8) hR rfl hk1 (by decide); exact xt_invV X hx hown (hts _ m_14b1b20f) (hts _ m_a733c60c) (hts _ m_fa7d877a) (xt_sigOf (hts _ m_5ef6c972)) nm_M_body (by rw [hT]; exact r1) r2 r3 (g := F0 m 157 ls [.ref x0]) rfl (argsL := []) (rest := []) rfl rfl (by rw [hb]; exact (xb_d D_M_sectionEntry 54 rfl))) (ok_M_body l hfl D A σ x0 h2 _ hw) (hml.trans hl.1.symm) (by rw [hb]; exact (xb_d D_M_sectionEntry 54 rfl)) (Nat.le_of_ble_eq_true rfl) (Nat.le_of_ble_eq_true rfl) (Nat.le_of_ble_eq_true rfl) (show (k + c4) + 0 ≤ MC by omega) (show (n + sc4) + 0 ≤ MS by omega) (xt_w1 hB.1 m_5ef6c972) (xt_cdOf hB.1 m_5ef6c972) (hts _ m_d5ed7bed) hB hR hS hA (fun vv h45 H locs hq hEh45 hR hS => ?_) (fun XX ax h45 H locs hq hEh45 hex hR hS => ?_)
      · obtain ⟨rfl, hw⟩ := hq
        have hw := hw hEh45
        have hE := hE.tr hEh45
        refine W.eq (g2 := F0 m 160 ls []) rfl ?_
        refine lv_goto (tgt := 180) hx hb (xb_d D_M_sectionEntry 55 rfl) rfl ?_
        exact am_M_sectionEntry_L180 l hfl D A σ MC MS h0 Qr h45 (bc - c4) (bs - sc4) hw p e s m args below meth c hC H locs ls (k + c4) (n + sc4) hE (lv_sub hl [] rfl) hR hS (by omega) (by omega)
      · exact False.elim hq
    have hw := hw.2
    have hw := hw hc5 hc12 hc15 hc18 hc21 hc24 hc29 hc36 hc37 hc44
    refine lv_tableOut (tgt := 163) hx hb (xb_d D_M_sectionEntry 4 rfl) (by have a0 := xb_nl (1) 1 (by decide) hc5; have a1 := xb_nl (2) 2 (by decide) hc12; have a2 := xb_nl (3) 3 (by decide) hc15; have a3 := xb_nl (4) 4 (by decide) hc18; have a4 := xb_nl (5) 5 (by decide) hc21; have a5 := xb_nl (6) 6 (by decide) hc24; have a6 := xb_nl (7) 7 (by decide) hc29; have a7 := xb_nl (8) 8 (by decide) hc36; have a8 := xb_nl (9) 9 (by decide) hc37; have a9 := xb_nl (10) 10 (by decide) hc44; omega) (by decide) ?_
    exact am_M_sectionEntry_L163 l hfl D A σ MC MS h0 Qr x0 h2 (bc - c4) (bs - sc4) hw p e s m args below meth c hC H locs ls (k + c4) (n + sc4) hE (lv_sub hl [0] rfl) hR hS (by omega) (by omega)
  · exact False.elim hq

set_option maxRecDepth 100000 in
def T_M_variable : List (Nat × Instr × Nat) := [(0, .aload_n 0, 1), (1, .aload_n 0, 1), (2, .iload_n 1, 1), (3, .invokevirtual 592, 3), (6, .ifCond .eq 28, 3), (9, .iload_n 2, 1), (10, .ifCond .lt 24, 3), (13, .iload_n 2, 1), (14, .i2l, 1), (15, .aload_n 0, 1), (16, .aload_n 0, 1), (17, .getfield 62, 3), (20, .iload_n 1, 1), (21, .iaload, 1), (22, .iconst 3, 1), (23, .invokevirtual 362, 3), (26, .lcmp, 1), (27, .ifCond .ge 7, 3), (30, .iconst 0, 1), (31, .goto 4, 3), (34, .iconst 1, 1), (35, .putfield 189, 3), (38, .aload_n 0, 1), (39, .getfield 189, 3), (42, .ifCond .le 7, 3), (45, .lconst 0, 1), (46, .goto 15, 3), (49, .aload_n 0, 1), (50, .getfield 130, 3), (53, .aload_n 0, 1), (54, .iload_n 1, 1), (55, .iconst 3, 1), (56, .iload_n 2, 1), (57, .invokevirtual 479, 3), (60, .laload, 1), (61, .lreturn, 1)]
theorem D_M_variable : ∀ q ∈ T_M_variable, decode b_M_variable q.1 = .ok (q.2.1, q.2.2) := by decide +kernel
def w_M_variable_L61 (Qr : Int64 → xb_H → Prop) (y0 : Int64) (h : xb_H) : Prop :=
    Qr y0 h

def w_M_variable_L35 (Qr : Int64 → xb_H → Prop) (x0 : Nat) (x1 : Int32) (x2 : Int32) (y0 : Int32) (y1 : Nat) (h : xb_H) : Prop :=
    xb_k h y1 = 9 ∧ ∀ h2 : xb_H, h2 = xb_I h y1 0 y0 → xb_k h2 x0 = 9 ∧ (((xb_i h2 x0 0) ≤ (0 : Int32) → ∃ b5 : Nat, (xb_r h2 x0 61) = some b5 ∧ w_M_meant x0 x1 3 x2 h2 (fun (r7 : Int32) (h6 : xb_H) => xb_ext h2 h6 → xb_k h6 b5 = 103 ∧ vp_in r7 (xb_n h6 b5) ∧ w_M_variable_L61 Qr (xb_l h6 b5 (Int32.toNatClampNeg r7)) h6)) ∧ (¬ (xb_i h2 x0 0) ≤ (0 : Int32) → w_M_variable_L61 Qr 0 h2))

def w_M_variable_L34 (Qr : Int64 → xb_H → Prop) (x0 : Nat) (x1 : Int32) (x2 : Int32) (y0 : Nat) (h : xb_H) : Prop :=
    w_M_variable_L35 Qr x0 x1 x2 1 y0 h

def w_M_variable (x0 : Nat) (x1 : Int32) (x2 : Int32) (h : xb_H) (Qr : Int64 → xb_H → Prop) : Prop :=
    xb_k h x0 = 9 ∧ w_M_isInstance x0 x1 h (fun (r3 : Int32) (h2 : xb_H) => xb_ext h h2 → ((r3 = (0 : Int32) → w_M_variable_L34 Qr x0 x1 x2 x0 h2) ∧ (¬ r3 = (0 : Int32) → ((x2 < (0 : Int32) → w_M_variable_L34 Qr x0 x1 x2 x0 h2) ∧ (¬ x2 < (0 : Int32) → ∃ b6 : Nat, (xb_r h2 x0 31) = some b6 ∧ xb_k h2 b6 = 102 ∧ vp_in x1 (xb_n h2 b6) ∧ w_M_total x0 (xb_i h2 b6 (Int32.toNatClampNeg x1)) 3 h2 (fun (r10 : Int64) (h9 : xb_H) => xb_ext h2 h9 → ((r10 ≤ (Int32.toInt64 x2) → w_M_variable_L34 Qr x0 x1 x2 x0 h9) ∧ (¬ r10 ≤ (Int32.toInt64 x2) → w_M_variable_L35 Qr x0 x1 x2 0 x0 h9))))))))

set_option maxHeartbeats 4000000 in
set_option maxRecDepth 100000 in
theorem am_M_variable_L61 (l : Launch) (hfl : l.flags = pinnedFlags ++ [noTraceFlag]) (D : va_G) (A : Nat → Prop) (σ MC MS : Nat) (h0 : xb_H) (Qr : Int64 → xb_H → Prop) (y0 : Int64) (h : xb_H) (hw : w_M_variable_L61 Qr y0 h) : xb_am l D A σ 9 MC MS h0 (fun v h => ∃ r, v = some (.long r) ∧ Qr r h) (fun _ _ => False) y_M_variable.cls y_M_variable.name b_M_variable 3 ([] : List ExceptionTableEntry) (some .long) 61 [] [.long y0] h 0 0 := by
  unfold w_M_variable_L61 at hw
  intro p e s m args below meth c hC H locs ls k n hE hl hR hS hk hn
  obtain ⟨hx, hb, hown, hlocks, htab, hml, hr, hB, hA, hnm⟩ := id hC
  have hts := hB.1.1.at args
  exact xb_lret hx hb hr hlocks (show k ≤ MC by omega) (show n ≤ MS by omega) hE hR hS (xb_d D_M_variable 35 rfl) hw

set_option maxHeartbeats 4000000 in
set_option maxRecDepth 100000 in
theorem am_M_variable_L35 (l : Launch) (hfl : l.flags = pinnedFlags ++ [noTraceFlag]) (D : va_G) (A : Nat → Prop) (σ MC MS : Nat) (h0 : xb_H) (Qr : Int64 → xb_H → Prop) (x0 : Nat) (x1 : Int32) (x2 : Int32) (y0 : Int32) (y1 : Nat) (h : xb_H) (hw : w_M_variable_L35 Qr x0 x1 x2 y0 y1 h) : xb_am l D A σ 9 MC MS h0 (fun v h => ∃ r, v = some (.long r) ∧ Qr r h) (fun _ _ => False) y_M_variable.cls y_M_variable.name b_M_variable 3 ([] : List ExceptionTableEntry) (some .long) 35 [(0, .ref x0), (1, .int x1), (2, .int x2)] [.int y0, .ref y1] h 0 0 := by
  unfold w_M_variable_L35 at hw
  intro p e s m args below meth c hC H locs ls k n hE hl hR hS hk hn
  obtain ⟨hx, hb, hown, hlocks, htab, hml, hr, hB, hA, hnm⟩ := id hC
  have hts := hB.1.1.at args
  obtain ⟨hk1, hw⟩ := hw
  refine xb_putI (C := R_M) (T := F_M) (N := 97) (ty := .int) (x := y0) hx hb 8 0 hts fin_M t_M t_M_ok n_M hown hR hS hk1 (by decide) rfl (by decide) rfl (hts _ m_afabd6a0) (fun _ h9 => h9) rfl (by decide +kernel) rfl rfl (xb_d D_M_variable 21 rfl) (fun H locs hR hS => ?_)
  obtain ⟨h2, eh2⟩ : ∃ x : xb_H, x = xb_I h y1 0 y0 := ⟨_, rfl⟩
  rw [← eh2] at hR
  have hw := hw h2 eh2
  have hE : xb_ext h0 h2 := by rw [eh2]; exact hE
  refine lv_aload_n hx hb (xb_d D_M_variable 22 rfl) rfl (lv_at hl 0 rfl) ?_
  obtain ⟨hk3, hw⟩ := hw
  refine xb_getI (C := R_M) (T := F_M) (N := 97) hx hb 8 0 hts fin_M hown hR hk3 (by decide) rfl (by decide) rfl (hts _ m_afabd6a0) (fun _ h9 => h9) (xb_d D_M_variable 23 rfl) ?_
  refine lv_if_le (tgt := 49) hx hb (xb_d D_M_variable 24 rfl) rfl (fun hc4 => ?_) (fun hc4 => ?_)
  · have hw := hw.1 hc4
    refine lv_aload_n hx hb (xb_d D_M_variable 27 rfl) rfl (lv_at hl 0 rfl) ?_
    refine xb_getP (C := R_M) (T := F_M) (N := 97) hx hb 8 61 hts fin_M hown hR hk3 (by decide) rfl (by decide) rfl (hts _ m_418ce3a7) (fun _ h9 => h9) (xb_d D_M_variable 28 rfl) ?_
    obtain ⟨b5, eb5, hw⟩ := hw
    refine xb_some eb5 ?_
    refine lv_aload_n hx hb (xb_d D_M_variable 29 rfl) rfl (lv_at hl 0 rfl) ?_
    refine lv_iload_n hx hb (xb_d D_M_variable 30 rfl) rfl (lv_at hl 1 rfl) ?_
    refine lv_iconst (v := 3) hx hb (xb_d D_M_variable 31 rfl) (by decide) ?_
    refine lv_iload_n hx hb (xb_d D_M_variable 32 rfl) rfl (lv_at hl 2 rfl) ?_
    refine xb_call (D := D) (A := A) (σ := σ) (h := h2) (d := 8) (mc := 0) (ms := 0) (maxL := 6) (rest := [.ref b5]) (av := [.ref x0, .int x1, .int 3, .int x2]) (fun T hT X => by obtain ⟨cb, r1, r2, r3⟩ := xb_recv (ci := 8) hR rfl hk3 (by decide); exact xt_invV X hx hown (hts _ m_5ec466f2) (hts _ m_f0f1d102) (hts _ m_cfa25922) (xt_sigOf (hts _ m_59347bba)) nm_M_meant (by rw [hT]; exact r1) r2 r3 (g := F0 m 57 ls [.int x2, .int 3, .int x1, .ref x0, .ref b5]) rfl (argsL := [.int x1, .int 3, .int x2]) (rest := [.ref b5]) rfl rfl (by rw [hb]; exact (xb_d D_M_variable 33 rfl))) (ok_M_meant l hfl D A σ x0 x1 3 x2 h2 _ hw) (hml.trans hl.1.symm) (by rw [hb]; exact (xb_d D_M_variable 33 rfl)) (Nat.le_of_ble_eq_true rfl) (Nat.le_of_ble_eq_true rfl) (Nat.le_of_ble_eq_true rfl) (show k + 0 ≤ MC by omega) (show n + 0 ≤ MS by omega) (xt_w1 hB.1 m_59347bba) (xt_cdOf hB.1 m_59347bba) (hts _ m_d5ed7bed) hB hR hS hA (fun vv h6 H locs hq hEh6 hR hS => ?_) (fun XX ax h6 H locs hq hEh6 hex hR hS => ?_)
    · obtain ⟨r7, rfl, hw⟩ := hq
      have hw := hw hEh6
      have hE := hE.tr hEh6
      refine W.eq (g2 := F0 m 60 ls [.int r7, .ref b5]) rfl ?_
      obtain ⟨hk9, hw⟩ := hw
      obtain ⟨hi8, hw⟩ := hw
      refine xb_lald hx hb hR hk9 hi8 (xb_d D_M_variable 34 rfl) ?_
      exact am_M_variable_L61 l hfl D A σ MC MS h0 Qr (xb_l h6 b5 (Int32.toNatClampNeg r7)) h6 hw p e s m args below meth c hC H locs ls k n hE (lv_sub hl [] rfl) hR hS (by omega) (by omega)
    · exact False.elim hq
  · have hw := hw.2 hc4
    refine lv_lconst (v := 0) hx hb (xb_d D_M_variable 25 rfl) (by decide) ?_
    refine lv_goto (tgt := 61) hx hb (xb_d D_M_variable 26 rfl) rfl ?_
    exact am_M_variable_L61 l hfl D A σ MC MS h0 Qr 0 h2 hw p e s m args below meth c hC H locs ls k n hE (lv_sub hl [] rfl) hR hS (by omega) (by omega)

set_option maxHeartbeats 4000000 in
set_option maxRecDepth 100000 in
theorem am_M_variable_L34 (l : Launch) (hfl : l.flags = pinnedFlags ++ [noTraceFlag]) (D : va_G) (A : Nat → Prop) (σ MC MS : Nat) (h0 : xb_H) (Qr : Int64 → xb_H → Prop) (x0 : Nat) (x1 : Int32) (x2 : Int32) (y0 : Nat) (h : xb_H) (hw : w_M_variable_L34 Qr x0 x1 x2 y0 h) : xb_am l D A σ 9 MC MS h0 (fun v h => ∃ r, v = some (.long r) ∧ Qr r h) (fun _ _ => False) y_M_variable.cls y_M_variable.name b_M_variable 3 ([] : List ExceptionTableEntry) (some .long) 34 [(0, .ref x0), (1, .int x1), (2, .int x2)] [.ref y0] h 0 0 := by
  unfold w_M_variable_L34 at hw
  intro p e s m args below meth c hC H locs ls k n hE hl hR hS hk hn
  obtain ⟨hx, hb, hown, hlocks, htab, hml, hr, hB, hA, hnm⟩ := id hC
  have hts := hB.1.1.at args
  refine lv_iconst (v := 1) hx hb (xb_d D_M_variable 20 rfl) (by decide) ?_
  exact am_M_variable_L35 l hfl D A σ MC MS h0 Qr x0 x1 x2 1 y0 h hw p e s m args below meth c hC H locs ls k n hE (lv_sub hl [0, 1, 2] rfl) hR hS (by omega) (by omega)

set_option maxHeartbeats 4000000 in
set_option maxRecDepth 100000 in
theorem ok_M_variable (l : Launch) (hfl : l.flags = pinnedFlags ++ [noTraceFlag]) (D : va_G) (A : Nat → Prop) (σ : Nat) (x0 : Nat) (x1 : Int32) (x2 : Int32) (h : xb_H) (Qr : Int64 → xb_H → Prop) (hw : w_M_variable x0 x1 x2 h Qr) : xt_Met l y_M_variable [.code y_M_variable b_M_variable 3 (some .long)] (xb_rm 9 0 0) (xb_Pc D A σ h [.ref x0, .int x1, .int x2]) (xb_Qc D A h (fun v h => ∃ r, v = some (.long r) ∧ Qr r h) (fun _ _ => False)) 0 0 A := by
  refine xb_ofAm (cc := b_M_variable) (by decide) (Nat.le_of_ble_eq_true rfl) ?_
  unfold w_M_variable at hw
  show xb_am l D A σ 9 0 0 h (fun v h => ∃ r, v = some (.long r) ∧ Qr r h) (fun _ _ => False) y_M_variable.cls y_M_variable.name b_M_variable 3 ([] : List ExceptionTableEntry) (some .long) 0 [(0, .ref x0), (1, .int x1), (2, .int x2)] [] h 0 0
  obtain ⟨MC, hMC⟩ : ∃ x, x = 0 := ⟨_, rfl⟩
  obtain ⟨MS, hMS⟩ : ∃ x, x = 0 := ⟨_, rfl⟩
  rw [show xb_am l D A σ 9 0 0 = xb_am l D A σ 9 MC MS by rw [hMC, hMS]]
  obtain ⟨h0, hh0⟩ : ∃ x, x = h := ⟨_, rfl⟩
  rw [show xb_am l D A σ 9 MC MS h = xb_am l D A σ 9 MC MS h0 by rw [hh0]]
  intro p e s m args below meth c hC H locs ls k n hE hl hR hS hk hn
  obtain ⟨hx, hb, hown, hlocks, htab, hml, hr, hB, hA, hnm⟩ := id hC
  have hts := hB.1.1.at args
  refine lv_aload_n hx hb (xb_d D_M_variable 0 rfl) rfl (lv_at hl 0 rfl) ?_
  refine lv_aload_n hx hb (xb_d D_M_variable 1 rfl) rfl (lv_at hl 0 rfl) ?_
  refine lv_iload_n hx hb (xb_d D_M_variable 2 rfl) rfl (lv_at hl 1 rfl) ?_
  obtain ⟨hk1, hw⟩ := hw
  refine xb_call (D := D) (A := A) (σ := σ) (h := h) (d := 2) (mc := 0) (ms := 0) (maxL := 2) (rest := [.ref x0]) (av := [.ref x0, .int x1]) (fun T hT X => by obtain ⟨cb, r1, r2, r3⟩ := xb_recv (ci := 8) hR rfl hk1 (by decide); exact xt_invV X hx hown (hts _ m_ec7c79cd) (hts _ m_cefd1701) (hts _ m_d2ca0421) (xt_sigOf (hts _ m_5aaa69eb)) nm_M_isInstance (by rw [hT]; exact r1) r2 r3 (g := F0 m 3 ls [.int x1, .ref x0, .ref x0]) rfl (argsL := [.int x1]) (rest := [.ref x0]) rfl rfl (by rw [hb]; exact (xb_d D_M_variable 3 rfl))) (ok_M_isInstance l hfl D A σ x0 x1 h _ hw) (hml.trans hl.1.symm) (by rw [hb]; exact (xb_d D_M_variable 3 rfl)) (Nat.le_of_ble_eq_true rfl) (Nat.le_of_ble_eq_true rfl) (Nat.le_of_ble_eq_true rfl) (show k + 0 ≤ MC by omega) (show n + 0 ≤ MS by omega) (xt_w1 hB.1 m_5aaa69eb) (xt_cdOf hB.1 m_5aaa69eb) (hts _ m_d5ed7bed) hB hR hS hA (fun vv h2 H locs hq hEh2 hR hS => ?_) (fun XX ax h2 H locs hq hEh2 hex hR hS => ?_)
  · obtain ⟨r3, rfl, hw⟩ := hq
    have hw := hw hEh2
    have hE := hE.tr hEh2
    refine W.eq (g2 := F0 m 6 ls [.int r3, .ref x0]) rfl ?_
    refine lv_if_eq (tgt := 34) hx hb (xb_d D_M_variable 4 rfl) rfl (fun hc4 => ?_) (fun hc4 => ?_)
    · have hw := hw.1 hc4
      exact am_M_variable_L34 l hfl D A σ MC MS h0 Qr x0 x1 x2 x0 h2 hw p e s m args below meth c hC H locs ls k n hE (lv_sub hl [0, 1, 2] rfl) hR hS (by omega) (by omega)
    · have hw := hw.2 hc4
      refine lv_iload_n hx hb (xb_d D_M_variable 5 rfl) rfl (lv_at hl 2 rfl) ?_
      refine lv_if_lt (tgt := 34) hx hb (xb_d D_M_variable 6 rfl) rfl (fun hc5 => ?_) (fun hc5 => ?_)
      · have hw := hw.1 hc5
        exact am_M_variable_L34 l hfl D A σ MC MS h0 Qr x0 x1 x2 x0 h2 hw p e s m args below meth c hC H locs ls k n hE (lv_sub hl [0, 1, 2] rfl) hR hS (by omega) (by omega)
      · have hw := hw.2 hc5
        refine lv_iload_n hx hb (xb_d D_M_variable 7 rfl) rfl (lv_at hl 2 rfl) ?_
        refine lv_i2l hx hb (xb_d D_M_variable 8 rfl) rfl ?_
        refine lv_aload_n hx hb (xb_d D_M_variable 9 rfl) rfl (lv_at hl 0 rfl) ?_
        refine lv_aload_n hx hb (xb_d D_M_variable 10 rfl) rfl (lv_at hl 0 rfl) ?_
        have hk1 : xb_k h2 x0 = 9 := hEh2.k hk1
        refine xb_getP (C := R_M) (T := F_M) (N := 97) hx hb 8 31 hts fin_M hown hR hk1 (by decide) rfl (by decide) rfl (hts _ m_691d5f47) (fun _ h9 => h9) (xb_d D_M_variable 11 rfl) ?_
        obtain ⟨b6, eb6, hw⟩ := hw
        refine xb_some eb6 ?_
        refine lv_iload_n hx hb (xb_d D_M_variable 12 rfl) rfl (lv_at hl 1 rfl) ?_
        obtain ⟨hk8, hw⟩ := hw
        obtain ⟨hi7, hw⟩ := hw
        refine xb_iald hx hb hR hk8 hi7 (xb_d D_M_variable 13 rfl) ?_
        refine lv_iconst (v := 3) hx hb (xb_d D_M_variable 14 rfl) (by decide) ?_
        refine xb_call (D := D) (A := A) (σ := σ) (h := h2) (d := 3) (mc := 0) (ms := 0) (maxL := 3) (rest := [.long (Int32.toInt64 x2), .ref x0]) (av := [.ref x0, .int (xb_i h2 b6 (Int32.toNatClampNeg x1)), .int 3]) (fun T hT X => by obtain ⟨cb, r1, r2, r3⟩ := xb_recv (ci := 8) hR rfl hk1 (by decide); exact xt_invV X hx hown (hts _ m_940fb65e) (hts _ m_342c0f16) (hts _ m_c0324d76) (xt_sigOf (hts _ m_feaaa075)) nm_M_total (by rw [hT]; exact r1) r2 r3 (g := F0 m 23 ls [.int 3, .int (xb_i h2 b6 (Int32.toNatClampNeg x1)), .ref x0, .long (Int32.toInt64 x2), .ref x0]) rfl (argsL := [.int (xb_i h2 b6 (Int32.toNatClampNeg x1)), .int 3]) (rest := [.long (Int32.toInt64 x2), .ref x0]) rfl rfl (by rw [hb]; exact (xb_d D_M_variable 15 rfl))) (ok_M_total l hfl D A σ x0 (xb_i h2 b6 (Int32.toNatClampNeg x1)) 3 h2 _ hw) (hml.trans hl.1.symm) (by rw [hb]; exact (xb_d D_M_variable 15 rfl)) (Nat.le_of_ble_eq_true rfl) (Nat.le_of_ble_eq_true rfl) (Nat.le_of_ble_eq_true rfl) (show k + 0 ≤ MC by omega) (show n + 0 ≤ MS by omega) (xt_w1 hB.1 m_feaaa075) (xt_cdOf hB.1 m_feaaa075) (hts _ m_d5ed7bed) hB hR hS hA (fun vv h9 H locs hq hEh9 hR hS => ?_) (fun XX ax h9 H locs hq hEh9 hex hR hS => ?_)
        · obtain ⟨r10, rfl, hw⟩ := hq
          have hw := hw hEh9
          have hE := hE.tr hEh9
          refine W.eq (g2 := F0 m 26 ls [.long r10, .long (Int32.toInt64 x2), .ref x0]) rfl ?_
          refine xb_lc_ge (tgt := 34) hx hb (xb_d D_M_variable 16 rfl) (xb_d D_M_variable 17 rfl) rfl (fun hc11 => ?_) (fun hc11 => ?_)
          · have hw := hw.1 hc11
            exact am_M_variable_L34 l hfl D A σ MC MS h0 Qr x0 x1 x2 x0 h9 hw p e s m args below meth c hC H locs ls k n hE (lv_sub hl [0, 1, 2] rfl) hR hS (by omega) (by omega)
          · have hw := hw.2 hc11
            refine lv_iconst (v := 0) hx hb (xb_d D_M_variable 18 rfl) (by decide) ?_
            refine lv_goto (tgt := 35) hx hb (xb_d D_M_variable 19 rfl) rfl ?_
            exact am_M_variable_L35 l hfl D A σ MC MS h0 Qr x0 x1 x2 0 x0 h9 hw p e s m args below meth c hC H locs ls k n hE (lv_sub hl [0, 1, 2] rfl) hR hS (by omega) (by omega)
        · exact False.elim hq
  · exact False.elim hq

theorem m_29588ef4 : (.constant "StackHost" 259 1000000 : Cond) ∈ xt_tbl := xt_in (xt_t7 (List.mem_of_getElem? (i := 200) (by decide +kernel))) (by decide +kernel)
theorem m_285fb5f3 : (.methodLink "StackHost" 264 y_Machine_go : Cond) ∈ xt_tbl := xt_in (xt_t7 (List.mem_of_getElem? (i := 203) (by decide +kernel))) (by decide +kernel)
theorem m_860e7091 : (.instanceMethod y_Machine_go : Cond) ∈ xt_tbl := xt_in (xt_t7 (List.mem_of_getElem? (i := 204) (by decide +kernel))) (by decide +kernel)
theorem m_57801612 : (.selects "StackHost$Machine" y_Machine_go y_Machine_go : Cond) ∈ xt_tbl := xt_in (xt_t7 (List.mem_of_getElem? (i := 205) (by decide +kernel))) (by decide +kernel)
theorem m_13a2fd19 : (.code y_Machine_go b_Machine_go 3 (some .int) : Cond) ∈ xt_tbl := xt_in (xt_t7 (List.mem_of_getElem? (i := 206) (by decide +kernel))) (by decide +kernel)
theorem nm_Machine_go : xt_nm y_Machine_go 1 := ⟨by decide +kernel, by decide +kernel⟩
set_option maxRecDepth 100000 in
def T_H_run : List (Nat × Instr × Nat) := [(0, .iload_n 1, 1), (1, .ifCond .lt 10, 3), (4, .iload_n 1, 1), (5, .ldc_w 259, 3), (8, .if_icmp .le 14, 3), (11, .new 86, 3), (14, .dup, 1), (15, .ldc_w 260, 3), (18, .invokespecial 90, 3), (21, .athrow, 1), (22, .aload_n 0, 1), (23, .getfield 45, 3), (26, .getfield 194, 3), (29, .ifCond .ne 14, 3), (32, .new 63, 3), (35, .dup, 1), (36, .ldc_w 262, 3), (39, .invokespecial 67, 3), (42, .athrow, 1), (43, .aload_n 0, 1), (44, .getfield 45, 3), (47, .iload_n 1, 1), (48, .invokevirtual 264, 3), (51, .ireturn, 1)]
theorem D_H_run : ∀ q ∈ T_H_run, decode b_H_run q.1 = .ok (q.2.1, q.2.2) := by decide +kernel
def w_H_run_L11 (Qr : Int32 → xb_H → Prop) (Qt : String → xb_H → Prop) (h : xb_H) (bc : Nat) (bs : Nat) : Prop :=
    1 ≤ bc ∧ 6 ≤ bs ∧ Qt "java/lang/IllegalArgumentException" h

def w_H_run (x0 : Nat) (x1 : Int32) (h : xb_H) (bc : Nat) (bs : Nat) (Qr : Int32 → xb_H → Prop) (Qt : String → xb_H → Prop) : Prop :=
    ((x1 < (0 : Int32) → w_H_run_L11 Qr Qt h bc bs) ∧ (¬ x1 < (0 : Int32) → ((x1 ≤ (1000000 : Int32) → xb_k h x0 = 1 ∧ ∃ b4 : Nat, (xb_r h x0 7) = some b4 ∧ xb_k h b4 = 8 ∧ ((¬ (xb_i h b4 3) = (0 : Int32) → ∃ b7 : Nat, (xb_r h x0 7) = some b7 ∧ xb_k h b7 = 8 ∧ ∃ c11 sc11 : Nat, c11 ≤ bc ∧ sc11 ≤ bs ∧ w_Machine_go b7 x1 h c11 sc11 (fun (r10 : Int32) (h9 : xb_H) => xb_ext h h9 → Qr r10 h9)) ∧ ((xb_i h b4 3) = (0 : Int32) → 1 ≤ bc ∧ 6 ≤ bs ∧ Qt "java/lang/IllegalStateException" h))) ∧ (¬ x1 ≤ (1000000 : Int32) → w_H_run_L11 Qr Qt h bc bs))))

set_option maxHeartbeats 4000000 in
set_option maxRecDepth 100000 in
theorem am_H_run_L11 (l : Launch) (hfl : l.flags = pinnedFlags ++ [noTraceFlag]) (D : va_G) (A : Nat → Prop) (σ MC MS : Nat) (h0 : xb_H) (Qr : Int32 → xb_H → Prop) (Qt : String → xb_H → Prop) (h : xb_H) (bc : Nat) (bs : Nat) (hw : w_H_run_L11 Qr Qt h bc bs) : xb_am l D A σ 10 MC MS h0 (fun v h => ∃ r, v = some (.int r) ∧ Qr r h) Qt y_H_run.cls y_H_run.name b_H_run 2 ([] : List ExceptionTableEntry) (some .int) 11 [] [] h bc bs := by
  unfold w_H_run_L11 at hw
  intro p e s m args below meth c hC H locs ls k n hE hl hR hS hk hn
  obtain ⟨hx, hb, hown, hlocks, htab, hml, hr, hB, hA, hnm⟩ := id hC
  have hts := hB.1.1.at args
  obtain ⟨hc9, hs9, hw⟩ := hw
  exact xb_throw (names := ["java/lang/RuntimeException", "java/lang/Exception"]) hx hb (hml.trans hl.1.symm) hlocks hfl hown xsite_07fd36 hB hS (show k + 1 ≤ MC by omega) (show n + 6 ≤ MS by omega) (by decide) (Nat.le_of_ble_eq_true rfl) htab (xb_d D_H_run 5 rfl) (xb_d D_H_run 6 rfl) xt_l3 (xb_d D_H_run 7 rfl) (xb_d D_H_run 8 rfl) (xb_d D_H_run 9 rfl) hE hR hw

set_option maxHeartbeats 4000000 in
set_option maxRecDepth 100000 in
theorem ok_H_run (l : Launch) (hfl : l.flags = pinnedFlags ++ [noTraceFlag]) (D : va_G) (A : Nat → Prop) (σ : Nat) (x0 : Nat) (x1 : Int32) (h : xb_H) (bc : Nat) (bs : Nat) (Qr : Int32 → xb_H → Prop) (Qt : String → xb_H → Prop) (hw : w_H_run x0 x1 h bc bs Qr Qt) : xt_Met l y_H_run [.code y_H_run b_H_run 2 (some .int)] (xb_rm 10 bc bs) (xb_Pc D A σ h [.ref x0, .int x1]) (xb_Qc D A h (fun v h => ∃ r, v = some (.int r) ∧ Qr r h) Qt) bc bs A := by
  refine xb_ofAm (cc := b_H_run) (by decide) (Nat.le_of_ble_eq_true rfl) ?_
  unfold w_H_run at hw
  show xb_am l D A σ 10 bc bs h (fun v h => ∃ r, v = some (.int r) ∧ Qr r h) Qt y_H_run.cls y_H_run.name b_H_run 2 ([] : List ExceptionTableEntry) (some .int) 0 [(0, .ref x0), (1, .int x1)] [] h bc bs
  obtain ⟨MC, hMC⟩ : ∃ x, x = bc := ⟨_, rfl⟩
  obtain ⟨MS, hMS⟩ : ∃ x, x = bs := ⟨_, rfl⟩
  rw [show xb_am l D A σ 10 bc bs = xb_am l D A σ 10 MC MS by rw [hMC, hMS]]
  obtain ⟨h0, hh0⟩ : ∃ x, x = h := ⟨_, rfl⟩
  rw [show xb_am l D A σ 10 MC MS h = xb_am l D A σ 10 MC MS h0 by rw [hh0]]
  intro p e s m args below meth c hC H locs ls k n hE hl hR hS hk hn
  obtain ⟨hx, hb, hown, hlocks, htab, hml, hr, hB, hA, hnm⟩ := id hC
  have hts := hB.1.1.at args
  refine lv_iload_n hx hb (xb_d D_H_run 0 rfl) rfl (lv_at hl 1 rfl) ?_
  refine lv_if_lt (tgt := 11) hx hb (xb_d D_H_run 1 rfl) rfl (fun hc1 => ?_) (fun hc1 => ?_)
  · have hw := hw.1 hc1
    exact am_H_run_L11 l hfl D A σ MC MS h0 Qr Qt h bc bs hw p e s m args below meth c hC H locs ls k n hE (lv_sub hl [] rfl) hR hS (by omega) (by omega)
  · have hw := hw.2 hc1
    refine lv_iload_n hx hb (xb_d D_H_run 2 rfl) rfl (lv_at hl 1 rfl) ?_
    refine lv_ldcw (v := 1000000) hx hb hown (hts _ m_29588ef4) (xb_d D_H_run 3 rfl) ?_
    refine lv_icmp_le (tgt := 22) hx hb (xb_d D_H_run 4 rfl) rfl (fun hc2 => ?_) (fun hc2 => ?_)
    · have hw := hw.1 hc2
      refine lv_aload_n hx hb (xb_d D_H_run 10 rfl) rfl (lv_at hl 0 rfl) ?_
      obtain ⟨hk3, hw⟩ := hw
      refine xb_getP (C := R_H) (T := F_H) (N := 11) hx hb 0 7 hts fin_H hown hR hk3 (by decide) rfl (by decide) rfl (hts _ m_ab10058e) (fun _ h9 => h9) (xb_d D_H_run 11 rfl) ?_
      obtain ⟨b4, eb4, hw⟩ := hw
      refine xb_some eb4 ?_
      obtain ⟨hk5, hw⟩ := hw
      refine xb_getI (C := R_Machine) (T := F_Machine) (N := 18) hx hb 7 3 hts fin_Machine hown hR hk5 (by decide) rfl (by decide) rfl (hts _ m_de837f39) (fun _ h9 => h9) (xb_d D_H_run 12 rfl) ?_
      refine lv_if_ne (tgt := 43) hx hb (xb_d D_H_run 13 rfl) rfl (fun hc6 => ?_) (fun hc6 => ?_)
      · have hw := hw.1 hc6
        refine lv_aload_n hx hb (xb_d D_H_run 19 rfl) rfl (lv_at hl 0 rfl) ?_
        refine xb_getP (C := R_H) (T := F_H) (N := 11) hx hb 0 7 hts fin_H hown hR hk3 (by decide) rfl (by decide) rfl (hts _ m_ab10058e) (fun _ h9 => h9) (xb_d D_H_run 20 rfl) ?_
        obtain ⟨b7, eb7, hw⟩ := hw
        refine xb_some eb7 ?_
        refine lv_iload_n hx hb (xb_d D_H_run 21 rfl) rfl (lv_at hl 1 rfl) ?_
        obtain ⟨hk8, hw⟩ := hw
        obtain ⟨c11, sc11, hlc11, hlsc11, hw⟩ := hw
        refine xb_call (D := D) (A := A) (σ := σ) (h := h) (d := 9) (mc := c11) (ms := sc11) (maxL := 3) (rest := []) (av := [.ref b7, .int x1]) (fun T hT X => by obtain ⟨cb, r1, r2, r3⟩ := xb_recv (ci := 7) hR rfl hk8 (by decide); exact xt_invV X hx hown (hts _ m_285fb5f3) (hts _ m_860e7091) (hts _ m_57801612) (xt_sigOf (hts _ m_13a2fd19)) nm_Machine_go (by rw [hT]; exact r1) r2 r3 (g := F0 m 48 ls [.int x1, .ref b7]) rfl (argsL := [.int x1]) (rest := []) rfl rfl (by rw [hb]; exact (xb_d D_H_run 22 rfl))) (ok_Machine_go l hfl D A σ b7 x1 h c11 sc11 _ hw) (hml.trans hl.1.symm) (by rw [hb]; exact (xb_d D_H_run 22 rfl)) (Nat.le_of_ble_eq_true rfl) (Nat.le_of_ble_eq_true rfl) (Nat.le_of_ble_eq_true rfl) (show k + c11 ≤ MC by omega) (show n + sc11 ≤ MS by omega) (xt_w1 hB.1 m_13a2fd19) (xt_cdOf hB.1 m_13a2fd19) (hts _ m_73451f9b) hB hR hS hA (fun vv h9 H locs hq hEh9 hR hS => ?_) (fun XX ax h9 H locs hq hEh9 hex hR hS => ?_)
        · obtain ⟨r10, rfl, hw⟩ := hq
          have hw := hw hEh9
          have hE := hE.tr hEh9
          refine W.eq (g2 := F0 m 51 ls [.int r10]) rfl ?_
          exact xb_iret hx hb hr hlocks (show (k + c11) ≤ MC by omega) (show (n + sc11) ≤ MS by omega) hE hR hS (xb_d D_H_run 23 rfl) hw
        · exact False.elim hq
      · have hw := hw.2 hc6
        obtain ⟨hc9, hs9, hw⟩ := hw
        exact xb_throw (names := ["java/lang/RuntimeException", "java/lang/Exception"]) hx hb (hml.trans hl.1.symm) hlocks hfl hown xsite_533e0f hB hS (show k + 1 ≤ MC by omega) (show n + 6 ≤ MS by omega) (by decide) (Nat.le_of_ble_eq_true rfl) htab (xb_d D_H_run 14 rfl) (xb_d D_H_run 15 rfl) xt_l3 (xb_d D_H_run 16 rfl) (xb_d D_H_run 17 rfl) (xb_d D_H_run 18 rfl) hE hR hw
    · have hw := hw.2 hc2
      exact am_H_run_L11 l hfl D A σ MC MS h0 Qr Qt h bc bs hw p e s m args below meth c hC H locs ls k n hE (lv_sub hl [] rfl) hR hS (by omega) (by omega)

theorem m_99343911 : (.methodLink "StackHostLaw" 21 y_H_load : Cond) ∈ xt_tbl := xt_in (xt_t3 (List.mem_of_getElem? (i := 30) (by decide +kernel))) (by decide +kernel)
theorem m_824d9955 : (.instanceMethod y_H_load : Cond) ∈ xt_tbl := xt_in (xt_t3 (List.mem_of_getElem? (i := 31) (by decide +kernel))) (by decide +kernel)
theorem m_f5861a72 : (.selects "StackHost" y_H_load y_H_load : Cond) ∈ xt_tbl := xt_in (xt_t3 (List.mem_of_getElem? (i := 32) (by decide +kernel))) (by decide +kernel)
theorem m_2468cc82 : (.codeWith y_H_load b_H_load 3 (some .int) [(38, 54, 57, 86)] : Cond) ∈ xt_tbl := xt_in (xt_t3 (List.mem_of_getElem? (i := 33) (by decide +kernel))) (by decide +kernel)
theorem nm_H_load : xt_nm y_H_load 0 := ⟨by decide +kernel, by decide +kernel⟩
set_option maxRecDepth 100000 in
def T_Law_load : List (Nat × Instr × Nat) := [(0, .aload_n 1, 1), (1, .iconst 0, 1), (2, .aload_n 0, 1), (3, .invokevirtual 21, 3), (6, .i2l, 1), (7, .lastore, 1), (8, .goto 6, 3), (11, .astore_n 2, 1), (12, .iconst 1, 1), (13, .ireturn, 1), (14, .iconst 0, 1), (15, .ireturn, 1)]
theorem D_Law_load : ∀ q ∈ T_Law_load, decode b_Law_load q.1 = .ok (q.2.1, q.2.2) := by decide +kernel
def w_Law_load (x0 : Nat) (x1 : Nat) (h : xb_H) (bc : Nat) (bs : Nat) (Qr : Int32 → xb_H → Prop) : Prop :=
    xb_k h x0 = 1 ∧ ∃ c4 sc4 : Nat, c4 ≤ bc ∧ sc4 ≤ bs ∧ w_H_load x0 h c4 sc4 (fun (r3 : Int32) (h2 : xb_H) => xb_ext h h2 → xb_k h2 x1 = 103 ∧ vp_in 0 (xb_n h2 x1) ∧ ∀ h7 : xb_H, h7 = xb_L h2 x1 (Int32.toNatClampNeg 0) (Int32.toInt64 r3) → Qr 0 h7) (fun (XX : String) (h2 : xb_H) => xb_ext h h2 → (XX = "java/lang/IllegalStateException" ∧ Qr 1 h2))

set_option maxHeartbeats 4000000 in
set_option maxRecDepth 100000 in
theorem ok_Law_load (l : Launch) (hfl : l.flags = pinnedFlags ++ [noTraceFlag]) (D : va_G) (A : Nat → Prop) (σ : Nat) (x0 : Nat) (x1 : Nat) (h : xb_H) (bc : Nat) (bs : Nat) (Qr : Int32 → xb_H → Prop) (hw : w_Law_load x0 x1 h bc bs Qr) : xt_Met l y_Law_load [.codeWith y_Law_load b_Law_load 3 (some .int) [(0, 8, 11, 13)]] (xb_rm 10 bc bs) (xb_Pc D A σ h [.ref x0, .ref x1]) (xb_Qc D A h (fun v h => ∃ r, v = some (.int r) ∧ Qr r h) (fun _ _ => False)) bc bs A := by
  refine xb_ofAmH (cc := b_Law_load) (by decide) (Nat.le_of_ble_eq_true rfl) ?_
  unfold w_Law_load at hw
  show xb_am l D A σ 10 bc bs h (fun v h => ∃ r, v = some (.int r) ∧ Qr r h) (fun _ _ => False) y_Law_load.cls y_Law_load.name b_Law_load 3 (tableOf [(0, 8, 11, 13)]) (some .int) 0 [(0, .ref x0), (1, .ref x1)] [] h bc bs
  obtain ⟨MC, hMC⟩ : ∃ x, x = bc := ⟨_, rfl⟩
  obtain ⟨MS, hMS⟩ : ∃ x, x = bs := ⟨_, rfl⟩
  rw [show xb_am l D A σ 10 bc bs = xb_am l D A σ 10 MC MS by rw [hMC, hMS]]
  obtain ⟨h0, hh0⟩ : ∃ x, x = h := ⟨_, rfl⟩
  rw [show xb_am l D A σ 10 MC MS h = xb_am l D A σ 10 MC MS h0 by rw [hh0]]
  intro p e s m args below meth c hC H locs ls k n hE hl hR hS hk hn
  obtain ⟨hx, hb, hown, hlocks, htab, hml, hr, hB, hA, hnm⟩ := id hC
  have hts := hB.1.1.at args
  refine lv_aload_n hx hb (xb_d D_Law_load 0 rfl) rfl (lv_at hl 1 rfl) ?_
  refine lv_iconst (v := 0) hx hb (xb_d D_Law_load 1 rfl) (by decide) ?_
  refine lv_aload_n hx hb (xb_d D_Law_load 2 rfl) rfl (lv_at hl 0 rfl) ?_
  obtain ⟨hk1, hw⟩ := hw
  obtain ⟨c4, sc4, hlc4, hlsc4, hw⟩ := hw
  refine xb_call (D := D) (A := A) (σ := σ) (h := h) (d := 9) (mc := c4) (ms := sc4) (maxL := 3) (rest := [.int 0, .ref x1]) (av := [.ref x0]) (fun T hT X => by obtain ⟨cb, r1, r2, r3⟩ := xb_recv (ci := 0) hR rfl hk1 (by decide); exact xt_invV X hx hown (hts _ m_99343911) (hts _ m_824d9955) (hts _ m_f5861a72) (xt_sigOfH (hts _ m_2468cc82)) nm_H_load (by rw [hT]; exact r1) r2 r3 (g := F0 m 3 ls [.ref x0, .int 0, .ref x1]) rfl (argsL := []) (rest := [.int 0, .ref x1]) rfl rfl (by rw [hb]; exact (xb_d D_Law_load 3 rfl))) (ok_H_load l hfl D A σ x0 h c4 sc4 _ _ hw) (hml.trans hl.1.symm) (by rw [hb]; exact (xb_d D_Law_load 3 rfl)) (Nat.le_of_ble_eq_true rfl) (Nat.le_of_ble_eq_true rfl) (Nat.le_of_ble_eq_true rfl) (show k + c4 ≤ MC by omega) (show n + sc4 ≤ MS by omega) (xt_w1 hB.1 m_2468cc82) (xt_cdOfH hB.1 m_2468cc82) (hts _ m_ba0734f5) hB hR hS hA (fun vv h2 H locs hq hEh2 hR hS => ?_) (fun XX ax h2 H locs hq hEh2 hex hR hS => ?_)
  · obtain ⟨r3, rfl, hw⟩ := hq
    have hw := hw hEh2
    have hE := hE.tr hEh2
    refine W.eq (g2 := F0 m 6 ls [.int r3, .int 0, .ref x1]) rfl ?_
    refine lv_i2l hx hb (xb_d D_Law_load 4 rfl) rfl ?_
    obtain ⟨hk5, hw⟩ := hw
    obtain ⟨hi6, hw⟩ := hw
    refine xb_last hx hb hR hS hk5 hi6 (xb_d D_Law_load 5 rfl) (fun H locs hR hS => ?_)
    obtain ⟨h7, eh7⟩ : ∃ x : xb_H, x = xb_L h2 x1 (Int32.toNatClampNeg 0) (Int32.toInt64 r3) := ⟨_, rfl⟩
    rw [← eh7] at hR
    have hw := hw h7 eh7
    have hE : xb_ext h0 h7 := by rw [eh7]; exact hE
    refine lv_goto (tgt := 14) hx hb (xb_d D_Law_load 6 rfl) rfl ?_
    refine lv_iconst (v := 0) hx hb (xb_d D_Law_load 10 rfl) (by decide) ?_
    exact xb_iret hx hb hr hlocks (show (k + c4) ≤ MC by omega) (show (n + sc4) ≤ MS by omega) hE hR hS (xb_d D_Law_load 11 rfl) hw
  · have hw := hq hEh2
    have hE := hE.tr hEh2
    obtain ⟨rfl, hw⟩ := hw
    refine xt_catch (own := "StackHostLaw") (name := "java/lang/IllegalStateException") (Xn := "java/lang/IllegalStateException") hown ⟨0, 8, 11, 13⟩ [] htab (by decide) (by decide) (hts _ m_cd065aea) (hts _ m_a4ef0ec8) hex ?_
    refine W.eq (g2 := F0 m 11 ls [.ref ax]) rfl ?_
    refine lv_astore_n hx hb (xb_d D_Law_load 7 rfl) rfl hl (by decide) rfl (fun ls hl => ?_)
    have hl : lv_has ls 3 [(2, .ref ax), (0, .ref x0), (1, .ref x1)] := hl
    refine lv_iconst (v := 1) hx hb (xb_d D_Law_load 8 rfl) (by decide) ?_
    exact xb_iret hx hb hr hlocks (show (k + c4) ≤ MC by omega) (show (n + sc4) ≤ MS by omega) hE hR hS (xb_d D_Law_load 9 rfl) hw

theorem m_746eb9d6 : (.methodLink "StackHostModel" 632 y_M_open : Cond) ∈ xt_tbl := xt_in (xt_t12 (List.mem_of_getElem? (i := 170) (by decide +kernel))) (by decide +kernel)
theorem m_e9612f4e : (.instanceMethod y_M_open : Cond) ∈ xt_tbl := xt_in (xt_t12 (List.mem_of_getElem? (i := 172) (by decide +kernel))) (by decide +kernel)
theorem m_aa122190 : (.selects "StackHostModel" y_M_open y_M_open : Cond) ∈ xt_tbl := xt_in (xt_v14 (q := (⟨"StackHostModel", "open", "(II)V"⟩, 97)) (List.mem_of_getElem? (i := 12) (by decide +kernel))) (by decide +kernel)
theorem m_7c9641c8 : (.code y_M_open b_M_open 3 none : Cond) ∈ xt_tbl := xt_in (xt_t12 (List.mem_of_getElem? (i := 173) (by decide +kernel))) (by decide +kernel)
theorem m_7c6bb5af : (.methodLink "StackHostModel" 415 y_M_readLocals : Cond) ∈ xt_tbl := xt_in (xt_t11 (List.mem_of_getElem? (i := 145) (by decide +kernel))) (by decide +kernel)
theorem m_b69b5f3a : (.instanceMethod y_M_readLocals : Cond) ∈ xt_tbl := xt_in (xt_t11 (List.mem_of_getElem? (i := 147) (by decide +kernel))) (by decide +kernel)
theorem m_73be75cf : (.selects "StackHostModel" y_M_readLocals y_M_readLocals : Cond) ∈ xt_tbl := xt_in (xt_v11 (q := (⟨"StackHostModel", "readLocals", "(II)V"⟩, 97)) (List.mem_of_getElem? (i := 12) (by decide +kernel))) (by decide +kernel)
theorem m_abfe1d28 : (.code y_M_readLocals b_M_readLocals 13 none : Cond) ∈ xt_tbl := xt_in (xt_t11 (List.mem_of_getElem? (i := 148) (by decide +kernel))) (by decide +kernel)
theorem m_78f2aca1 : (.methodLink "StackHostModel" 619 y_M_parameterOf : Cond) ∈ xt_tbl := xt_in (xt_t12 (List.mem_of_getElem? (i := 158) (by decide +kernel))) (by decide +kernel)
theorem m_b10bc8fa : (.instanceMethod y_M_parameterOf : Cond) ∈ xt_tbl := xt_in (xt_t12 (List.mem_of_getElem? (i := 160) (by decide +kernel))) (by decide +kernel)
theorem m_7dc37ff6 : (.selects "StackHostModel" y_M_parameterOf y_M_parameterOf : Cond) ∈ xt_tbl := xt_in (xt_v14 (q := (⟨"StackHostModel", "parameterOf", "(II)I"⟩, 97)) (List.mem_of_getElem? (i := 9) (by decide +kernel))) (by decide +kernel)
theorem m_3a048bd5 : (.code y_M_parameterOf b_M_parameterOf 4 (some .int) : Cond) ∈ xt_tbl := xt_in (xt_t12 (List.mem_of_getElem? (i := 161) (by decide +kernel))) (by decide +kernel)
theorem m_e2ba22cc : (.methodLink "StackHostModel" 598 y_M_parametersOf : Cond) ∈ xt_tbl := xt_in (xt_t12 (List.mem_of_getElem? (i := 137) (by decide +kernel))) (by decide +kernel)
theorem m_0a57baa5 : (.instanceMethod y_M_parametersOf : Cond) ∈ xt_tbl := xt_in (xt_t12 (List.mem_of_getElem? (i := 139) (by decide +kernel))) (by decide +kernel)
theorem m_6f48d886 : (.selects "StackHostModel" y_M_parametersOf y_M_parametersOf : Cond) ∈ xt_tbl := xt_in (xt_v14 (q := (⟨"StackHostModel", "parametersOf", "(I)I"⟩, 97)) (List.mem_of_getElem? (i := 7) (by decide +kernel))) (by decide +kernel)
theorem m_14db4a29 : (.code y_M_parametersOf b_M_parametersOf 3 (some .int) : Cond) ∈ xt_tbl := xt_in (xt_t12 (List.mem_of_getElem? (i := 140) (by decide +kernel))) (by decide +kernel)
theorem nm_M_open : xt_nm y_M_open 2 := ⟨by decide +kernel, by decide +kernel⟩
theorem nm_M_readLocals : xt_nm y_M_readLocals 2 := ⟨by decide +kernel, by decide +kernel⟩
theorem nm_M_parameterOf : xt_nm y_M_parameterOf 2 := ⟨by decide +kernel, by decide +kernel⟩
theorem nm_M_parametersOf : xt_nm y_M_parametersOf 1 := ⟨by decide +kernel, by decide +kernel⟩
set_option maxRecDepth 100000 in
def T_M_call : List (Nat × Instr × Nat) := [(0, .aload_n 0, 1), (1, .iload_n 1, 1), (2, .invokevirtual 598, 3), (5, .istore_n 2, 1), (6, .aload_n 0, 1), (7, .getfield 607, 3), (10, .iload_n 2, 1), (11, .isub, 1), (12, .istore_n 3, 1), (13, .aload_n 0, 1), (14, .getfield 616, 3), (17, .ifCond .eq 18, 3), (20, .iload_n 3, 1), (21, .aload_n 0, 1), (22, .getfield 170, 3), (25, .aload_n 0, 1), (26, .getfield 610, 3), (29, .iconst 1, 1), (30, .isub, 1), (31, .iaload, 1), (32, .if_icmp .lt 7, 3), (35, .iconst 1, 1), (36, .goto 4, 3), (39, .iconst 0, 1), (40, .istore 4, 2), (42, .iconst 0, 1), (43, .istore 5, 2), (45, .iload 5, 2), (47, .iload_n 2, 1), (48, .if_icmp .ge 49, 3), (51, .iload 4, 2), (53, .ifCond .eq 44, 3), (56, .aload_n 0, 1), (57, .aload_n 0, 1), (58, .getfield 613, 3), (61, .ifCond .ne 22, 3), (64, .aload_n 0, 1), (65, .getfield 157, 3), (68, .iload_n 3, 1), (69, .iload 5, 2), (71, .iadd, 1), (72, .baload, 1), (73, .aload_n 0, 1), (74, .iload_n 1, 1), (75, .iload 5, 2), (77, .invokevirtual 619, 3), (80, .if_icmp .eq 7, 3), (83, .iconst 1, 1), (84, .goto 4, 3), (87, .iconst 0, 1), (88, .putfield 613, 3), (91, .iinc 5 1, 3), (94, .goto (-49), 3), (97, .aload_n 0, 1), (98, .aload_n 0, 1), (99, .getfield 613, 3), (102, .ifCond .ne 8, 3), (105, .iload 4, 2), (107, .ifCond .ne 7, 3), (110, .iconst 1, 1), (111, .goto 4, 3), (114, .iconst 0, 1), (115, .putfield 613, 3), (118, .iload_n 1, 1), (119, .ldc_w 489, 3), (122, .if_icmp .lt 53, 3), (125, .aload_n 0, 1), (126, .iload_n 3, 1), (127, .putfield 607, 3), (130, .aload_n 0, 1), (131, .getfield 622, 3), (134, .sipush 4096, 3), (137, .if_icmp .ne 12, 3), (140, .aload_n 0, 1), (141, .bipush 10, 2), (143, .putfield 625, 3), (146, .goto 28, 3), (149, .aload_n 0, 1), (150, .getfield 176, 3), (153, .aload_n 0, 1), (154, .getfield 622, 3), (157, .aload_n 0, 1), (158, .getfield 154, 3), (161, .iload_n 3, 1), (162, .laload, 1), (163, .lastore, 1), (164, .aload_n 0, 1), (165, .dup, 1), (166, .getfield 622, 3), (169, .iconst 1, 1), (170, .iadd, 1), (171, .putfield 622, 3), (174, .return_, 1), (175, .aload_n 0, 1), (176, .getfield 92, 3), (179, .iload_n 1, 1), (180, .iaload, 1), (181, .istore 5, 2), (183, .aload_n 0, 1), (184, .getfield 62, 3), (187, .iload 5, 2), (189, .iaload, 1), (190, .istore 6, 2), (192, .aload_n 0, 1), (193, .iload 6, 2), (195, .aload_n 0, 1), (196, .getfield 30, 3), (199, .iconst 4, 1), (200, .iload 6, 2), (202, .imul, 1), (203, .iaload, 1), (204, .aload_n 0, 1), (205, .getfield 95, 3), (208, .iload_n 1, 1), (209, .iaload, 1), (210, .iadd, 1), (211, .invokevirtual 369, 3), (214, .istore 7, 2), (216, .aload_n 0, 1), (217, .iload 6, 2), (219, .iload 7, 2), (221, .invokevirtual 336, 3), (224, .istore 8, 2), (226, .aload_n 0, 1), (227, .iload 6, 2), (229, .aload_n 0, 1), (230, .iload 6, 2), (232, .bipush 10, 2), (234, .aload_n 0, 1), (235, .getfield 95, 3), (238, .iload_n 1, 1), (239, .iaload, 1), (240, .invokevirtual 320, 3), (243, .invokevirtual 324, 3), (246, .aload_n 0, 1), (247, .invokevirtual 218, 3), (250, .pop2, 1), (251, .aload_n 0, 1), (252, .iload 6, 2), (254, .iload 7, 2), (256, .invokevirtual 415, 3), (259, .aload_n 0, 1), (260, .getfield 616, 3), (263, .sipush 200, 3), (266, .if_icmp .eq 41, 3), (269, .iload_n 3, 1), (270, .aload_n 0, 1), (271, .getfield 412, 3), (274, .iadd, 1), (275, .aload_n 0, 1), (276, .getfield 36, 3), (279, .aload_n 0, 1), (280, .getfield 24, 3), (283, .bipush 12, 2), (285, .iload 6, 2), (287, .imul, 1), (288, .bipush 10, 2), (290, .iadd, 1), (291, .iaload, 1), (292, .aload_n 0, 1), (293, .getfield 95, 3), (296, .iload_n 1, 1), (297, .iaload, 1), (298, .iadd, 1), (299, .iaload, 1), (300, .iadd, 1), (301, .sipush 16384, 3), (304, .if_icmp .le 10, 3), (307, .aload_n 0, 1), (308, .bipush 9, 2), (310, .putfield 625, 3), (313, .return_, 1), (314, .aload_n 0, 1), (315, .iload_n 3, 1), (316, .iload_n 2, 1), (317, .iadd, 1), (318, .putfield 607, 3), (321, .iload_n 2, 1), (322, .istore 9, 2), (324, .iload 9, 2), (326, .aload_n 0, 1), (327, .getfield 412, 3), (330, .if_icmp .ge 21, 3), (333, .aload_n 0, 1), (334, .lconst 0, 1), (335, .aload_n 0, 1), (336, .getfield 40, 3), (339, .iload 9, 2), (341, .baload, 1), (342, .invokevirtual 628, 3), (345, .iinc 9 1, 3), (348, .goto (-24), 3), (351, .aload_n 0, 1), (352, .getfield 139, 3), (355, .aload_n 0, 1), (356, .getfield 616, 3), (359, .iload_n 1, 1), (360, .iastore, 1), (361, .aload_n 0, 1), (362, .getfield 142, 3), (365, .aload_n 0, 1), (366, .getfield 616, 3), (369, .aload_n 0, 1), (370, .getfield 202, 3), (373, .iastore, 1), (374, .aload_n 0, 1), (375, .getfield 145, 3), (378, .aload_n 0, 1), (379, .getfield 616, 3), (382, .iload_n 3, 1), (383, .iastore, 1), (384, .aload_n 0, 1), (385, .getfield 148, 3), (388, .aload_n 0, 1), (389, .getfield 616, 3), (392, .aload_n 0, 1), (393, .getfield 412, 3), (396, .iastore, 1), (397, .aload_n 0, 1), (398, .getfield 151, 3), (401, .aload_n 0, 1), (402, .getfield 616, 3), (405, .aload_n 0, 1), (406, .getfield 610, 3), (409, .iastore, 1), (410, .aload_n 0, 1), (411, .dup, 1), (412, .getfield 616, 3), (415, .iconst 1, 1), (416, .iadd, 1), (417, .putfield 616, 3), (420, .aload_n 0, 1), (421, .iconst 0, 1), (422, .iload 8, 2), (424, .invokevirtual 632, 3), (427, .return_, 1)]
theorem D_M_call : ∀ q ∈ T_M_call, decode b_M_call q.1 = .ok (q.2.1, q.2.2) := by decide +kernel
def w_M_call_L324 (Qr : xb_H → Prop) : Nat → Nat → Int32 → Int32 → Int32 → Int32 → xb_H → Prop
  | 0, _, _, _, _, _, _ => False
  | n9 + 1, x0, x1, x3, x8, x9, h =>
    xb_k h x0 = 9 ∧ (((xb_i h x0 20) ≤ x9 → ∃ b3 : Nat, (xb_r h x0 69) = some b3 ∧ xb_k h b3 = 102 ∧ vp_in (xb_i h x0 68) (xb_n h b3) ∧ ∀ h6 : xb_H, h6 = xb_I h b3 (Int32.toNatClampNeg (xb_i h x0 68)) x1 → ∃ b7 : Nat, (xb_r h6 x0 70) = some b7 ∧ xb_k h6 b7 = 102 ∧ vp_in (xb_i h6 x0 68) (xb_n h6 b7) ∧ ∀ h10 : xb_H, h10 = xb_I h6 b7 (Int32.toNatClampNeg (xb_i h6 x0 68)) (xb_i h6 x0 15) → ∃ b11 : Nat, (xb_r h10 x0 71) = some b11 ∧ xb_k h10 b11 = 102 ∧ vp_in (xb_i h10 x0 68) (xb_n h10 b11) ∧ ∀ h14 : xb_H, h14 = xb_I h10 b11 (Int32.toNatClampNeg (xb_i h10 x0 68)) x3 → ∃ b15 : Nat, (xb_r h14 x0 72) = some b15 ∧ xb_k h14 b15 = 102 ∧ vp_in (xb_i h14 x0 68) (xb_n h14 b15) ∧ ∀ h18 : xb_H, h18 = xb_I h14 b15 (Int32.toNatClampNeg (xb_i h14 x0 68)) (xb_i h14 x0 20) → ∃ b19 : Nat, (xb_r h18 x0 73) = some b19 ∧ xb_k h18 b19 = 102 ∧ vp_in (xb_i h18 x0 68) (xb_n h18 b19) ∧ ∀ h22 : xb_H, h22 = xb_I h18 b19 (Int32.toNatClampNeg (xb_i h18 x0 68)) (xb_i h18 x0 81) → ∀ h23 : xb_H, h23 = xb_I h22 x0 68 ((xb_i h22 x0 68) + 1) → w_M_open x0 0 x8 h23 (fun (h24 : xb_H) => xb_ext h23 h24 → Qr h24)) ∧ (¬ (xb_i h x0 20) ≤ x9 → ∃ b26 : Nat, (xb_r h x0 19) = some b26 ∧ xb_k h b26 = 100 ∧ vp_in x9 (xb_n h b26) ∧ w_M_add x0 0 (xb_i h b26 (Int32.toNatClampNeg x9)) h (fun (h29 : xb_H) => xb_ext h h29 → w_M_call_L324 Qr n9 x0 x1 x3 x8 (x9 + 1) h29)))

def w_M_call_L307 (Qr : xb_H → Prop) (x0 : Nat) (h : xb_H) : Prop :=
    xb_k h x0 = 9 ∧ ∀ h2 : xb_H, h2 = xb_I h x0 82 9 → Qr h2

def w_M_call_L174 (Qr : xb_H → Prop) (h : xb_H) : Prop :=
    Qr h

def w_M_call_L115 (Qr : xb_H → Prop) (x0 : Nat) (x1 : Int32) (x2 : Int32) (x3 : Int32) (y0 : Int32) (y1 : Nat) (h : xb_H) : Prop :=
    xb_k h y1 = 9 ∧ (y0 = 0 ∨ y0 = 1) ∧ ∀ h3 : xb_H, h3 = xb_I h y1 94 y0 → ((x1 < (100000 : Int32) → xb_k h3 x0 = 9 ∧ ∃ b6 : Nat, (xb_r h3 x0 44) = some b6 ∧ xb_k h3 b6 = 102 ∧ vp_in x1 (xb_n h3 b6) ∧ ∀ v9 : Int32, v9 = (xb_i h3 b6 (Int32.toNatClampNeg x1)) → ∃ b10 : Nat, (xb_r h3 x0 31) = some b10 ∧ xb_k h3 b10 = 102 ∧ vp_in v9 (xb_n h3 b10) ∧ ∀ v13 : Int32, v13 = (xb_i h3 b10 (Int32.toNatClampNeg v9)) → ∃ b14 : Nat, (xb_r h3 x0 10) = some b14 ∧ xb_k h3 b14 = 102 ∧ vp_in (4 * v13) (xb_n h3 b14) ∧ ∃ b17 : Nat, (xb_r h3 x0 45) = some b17 ∧ xb_k h3 b17 = 102 ∧ vp_in x1 (xb_n h3 b17) ∧ w_M_typeOf x0 v13 ((xb_i h3 b14 (Int32.toNatClampNeg (4 * v13))) + (xb_i h3 b17 (Int32.toNatClampNeg x1))) h3 (fun (r21 : Int32) (h20 : xb_H) => xb_ext h3 h20 → w_M_resultOf x0 v13 r21 h20 (fun (r23 : Int32) (h22 : xb_H) => xb_ext h20 h22 → ∃ b24 : Nat, (xb_r h22 x0 45) = some b24 ∧ xb_k h22 b24 = 102 ∧ vp_in x1 (xb_n h22 b24) ∧ w_M_placeOf x0 v13 10 (xb_i h22 b24 (Int32.toNatClampNeg x1)) h22 (fun (r28 : Int32) (h27 : xb_H) => xb_ext h22 h27 → w_M_go x0 v13 r28 h27 (fun (h29 : xb_H) => xb_ext h27 h29 → w_M_count x0 h29 (fun (r32 : Int64) (h31 : xb_H) => xb_ext h29 h31 → w_M_readLocals x0 v13 r21 h31 (fun (h33 : xb_H) => xb_ext h31 h33 → (((xb_i h33 x0 68) = (200 : Int32) → w_M_call_L307 Qr x0 h33) ∧ (¬ (xb_i h33 x0 68) = (200 : Int32) → ∃ b36 : Nat, (xb_r h33 x0 12) = some b36 ∧ ∃ b37 : Nat, (xb_r h33 x0 8) = some b37 ∧ xb_k h33 b37 = 102 ∧ vp_in ((12 * v13) + 10) (xb_n h33 b37) ∧ ∃ b40 : Nat, (xb_r h33 x0 45) = some b40 ∧ xb_k h33 b40 = 102 ∧ vp_in x1 (xb_n h33 b40) ∧ xb_k h33 b36 = 102 ∧ vp_in ((xb_i h33 b37 (Int32.toNatClampNeg ((12 * v13) + 10))) + (xb_i h33 b40 (Int32.toNatClampNeg x1))) (xb_n h33 b36) ∧ ((((x3 + (xb_i h33 x0 20)) + (xb_i h33 b36 (Int32.toNatClampNeg ((xb_i h33 b37 (Int32.toNatClampNeg ((12 * v13) + 10))) + (xb_i h33 b40 (Int32.toNatClampNeg x1)))))) ≤ (16384 : Int32) → ∀ h46 : xb_H, h46 = xb_I h33 x0 76 (x3 + x2) → (∃ n8 : Nat, w_M_call_L324 Qr n8 x0 x1 x3 r23 x2 h46)) ∧ (¬ ((x3 + (xb_i h33 x0 20)) + (xb_i h33 b36 (Int32.toNatClampNeg ((xb_i h33 b37 (Int32.toNatClampNeg ((12 * v13) + 10))) + (xb_i h33 b40 (Int32.toNatClampNeg x1)))))) ≤ (16384 : Int32) → w_M_call_L307 Qr x0 h33))))))))))) ∧ (¬ x1 < (100000 : Int32) → xb_k h3 x0 = 9 ∧ ∀ h48 : xb_H, h48 = xb_I h3 x0 76 x3 → ((¬ (xb_i h48 x0 88) = (4096 : Int32) → ∃ b50 : Nat, (xb_r h48 x0 87) = some b50 ∧ ∃ b51 : Nat, (xb_r h48 x0 74) = some b51 ∧ xb_k h48 b51 = 103 ∧ vp_in x3 (xb_n h48 b51) ∧ xb_k h48 b50 = 103 ∧ vp_in (xb_i h48 x0 88) (xb_n h48 b50) ∧ ∀ h56 : xb_H, h56 = xb_L h48 b50 (Int32.toNatClampNeg (xb_i h48 x0 88)) (xb_l h48 b51 (Int32.toNatClampNeg x3)) → ∀ h57 : xb_H, h57 = xb_I h56 x0 88 ((xb_i h56 x0 88) + 1) → w_M_call_L174 Qr h57) ∧ ((xb_i h48 x0 88) = (4096 : Int32) → ∀ h58 : xb_H, h58 = xb_I h48 x0 82 10 → w_M_call_L174 Qr h58))))

def w_M_call_L110 (Qr : xb_H → Prop) (x0 : Nat) (x1 : Int32) (x2 : Int32) (x3 : Int32) (y0 : Nat) (h : xb_H) : Prop :=
    w_M_call_L115 Qr x0 x1 x2 x3 1 y0 h

def w_M_call_L97 (Qr : xb_H → Prop) (x0 : Nat) (x1 : Int32) (x2 : Int32) (x3 : Int32) (x4 : Int32) (h : xb_H) : Prop :=
    xb_k h x0 = 9 ∧ ((¬ (xb_i h x0 94) = (0 : Int32) → w_M_call_L110 Qr x0 x1 x2 x3 x0 h) ∧ ((xb_i h x0 94) = (0 : Int32) → ((¬ x4 = (0 : Int32) → w_M_call_L115 Qr x0 x1 x2 x3 0 x0 h) ∧ (x4 = (0 : Int32) → w_M_call_L110 Qr x0 x1 x2 x3 x0 h))))

def w_M_call_L88 (K45 : Nat → Int32 → Int32 → Int32 → Int32 → Int32 → xb_H → Prop) (Qr : xb_H → Prop) (x0 : Nat) (x1 : Int32) (x2 : Int32) (x3 : Int32) (x4 : Int32) (x5 : Int32) (y0 : Int32) (y1 : Nat) (h : xb_H) : Prop :=
    xb_k h y1 = 9 ∧ (y0 = 0 ∨ y0 = 1) ∧ ∀ h3 : xb_H, h3 = xb_I h y1 94 y0 → K45 x0 x1 x2 x3 x4 (x5 + 1) h3

def w_M_call_L83 (K45 : Nat → Int32 → Int32 → Int32 → Int32 → Int32 → xb_H → Prop) (Qr : xb_H → Prop) (x0 : Nat) (x1 : Int32) (x2 : Int32) (x3 : Int32) (x4 : Int32) (x5 : Int32) (y0 : Nat) (h : xb_H) : Prop :=
    w_M_call_L88 K45 Qr x0 x1 x2 x3 x4 x5 1 y0 h

def w_M_call_L45 (Qr : xb_H → Prop) : Nat → Nat → Int32 → Int32 → Int32 → Int32 → Int32 → xb_H → Prop
  | 0, _, _, _, _, _, _, _ => False
  | n9 + 1, x0, x1, x2, x3, x4, x5, h =>
    ((x2 ≤ x5 → w_M_call_L97 Qr x0 x1 x2 x3 x4 h) ∧ (¬ x2 ≤ x5 → ((x4 = (0 : Int32) → w_M_call_L97 Qr x0 x1 x2 x3 x4 h) ∧ (¬ x4 = (0 : Int32) → xb_k h x0 = 9 ∧ ((¬ (xb_i h x0 94) = (0 : Int32) → w_M_call_L83 (w_M_call_L45 Qr n9) Qr x0 x1 x2 x3 x4 x5 x0 h) ∧ ((xb_i h x0 94) = (0 : Int32) → ∃ b5 : Nat, (xb_r h x0 75) = some b5 ∧ xb_k h b5 = 100 ∧ vp_in (x3 + x5) (xb_n h b5) ∧ w_M_parameterOf x0 x1 x5 h (fun (r9 : Int32) (h8 : xb_H) => xb_ext h h8 → (((xb_i h b5 (Int32.toNatClampNeg (x3 + x5))) = r9 → w_M_call_L88 (w_M_call_L45 Qr n9) Qr x0 x1 x2 x3 x4 x5 0 x0 h8) ∧ (¬ (xb_i h b5 (Int32.toNatClampNeg (x3 + x5))) = r9 → w_M_call_L83 (w_M_call_L45 Qr n9) Qr x0 x1 x2 x3 x4 x5 x0 h8)))))))))

def w_M_call_L40 (Qr : xb_H → Prop) (x0 : Nat) (x1 : Int32) (x2 : Int32) (x3 : Int32) (y0 : Int32) (h : xb_H) : Prop :=
    (∃ n8 : Nat, w_M_call_L45 Qr n8 x0 x1 x2 x3 y0 0 h)

def w_M_call_L35 (Qr : xb_H → Prop) (x0 : Nat) (x1 : Int32) (x2 : Int32) (x3 : Int32) (h : xb_H) : Prop :=
    w_M_call_L40 Qr x0 x1 x2 x3 1 h

def w_M_call (x0 : Nat) (x1 : Int32) (h : xb_H) (Qr : xb_H → Prop) : Prop :=
    xb_k h x0 = 9 ∧ w_M_parametersOf x0 x1 h (fun (r3 : Int32) (h2 : xb_H) => xb_ext h h2 → ∀ v4 : Int32, v4 = ((xb_i h2 x0 76) - r3) → (((xb_i h2 x0 68) = (0 : Int32) → w_M_call_L35 Qr x0 x1 r3 v4 h2) ∧ (¬ (xb_i h2 x0 68) = (0 : Int32) → ∃ b6 : Nat, (xb_r h2 x0 80) = some b6 ∧ xb_k h2 b6 = 102 ∧ vp_in ((xb_i h2 x0 81) - 1) (xb_n h2 b6) ∧ ((v4 < (xb_i h2 b6 (Int32.toNatClampNeg ((xb_i h2 x0 81) - 1))) → w_M_call_L40 Qr x0 x1 r3 v4 0 h2) ∧ (¬ v4 < (xb_i h2 b6 (Int32.toNatClampNeg ((xb_i h2 x0 81) - 1))) → w_M_call_L35 Qr x0 x1 r3 v4 h2)))))

set_option maxHeartbeats 4000000 in
set_option maxRecDepth 100000 in
theorem am_M_call_L324 (l : Launch) (hfl : l.flags = pinnedFlags ++ [noTraceFlag]) (D : va_G) (A : Nat → Prop) (σ MC MS : Nat) (h0 : xb_H) (Qr : xb_H → Prop) (n9 : Nat) : ∀ (x0 : Nat) (x1 : Int32) (x3 : Int32) (x8 : Int32) (x9 : Int32) (h : xb_H), w_M_call_L324 Qr n9 x0 x1 x3 x8 x9 h → xb_am l D A σ 10 MC MS h0 (fun v h => v = none ∧ Qr h) (fun _ _ => False) y_M_call.cls y_M_call.name b_M_call 10 ([] : List ExceptionTableEntry) none 324 [(0, .ref x0), (1, .int x1), (3, .int x3), (8, .int x8), (9, .int x9)] [] h 0 0 := by
  induction n9 with
  | zero => intro x0 x1 x3 x8 x9 h hw; exact False.elim hw
  | succ n9 ih =>
    intro x0 x1 x3 x8 x9 h hw
    unfold w_M_call_L324 at hw
    intro p e s m args below meth c hC H locs ls k n hE hl hR hS hk hn
    obtain ⟨hx, hb, hown, hlocks, htab, hml, hr, hB, hA, hnm⟩ := id hC
    have hts := hB.1.1.at args
    refine lv_iload hx hb (xb_d D_M_call 179 rfl) (lv_at hl 4 rfl) ?_
    refine lv_aload_n hx hb (xb_d D_M_call 180 rfl) rfl (lv_at hl 0 rfl) ?_
    obtain ⟨hk1, hw⟩ := hw
    refine xb_getI (C := R_M) (T := F_M) (N := 97) hx hb 8 20 hts fin_M hown hR hk1 (by decide) rfl (by decide) rfl (hts _ m_160f9bc8) (fun _ h9 => h9) (xb_d D_M_call 181 rfl) ?_
    refine lv_icmp_ge (tgt := 351) hx hb (xb_d D_M_call 182 rfl) rfl (fun hc2 => ?_) (fun hc2 => ?_)
    · have hw := hw.1 hc2
      refine lv_aload_n hx hb (xb_d D_M_call 192 rfl) rfl (lv_at hl 0 rfl) ?_
      refine xb_getP (C := R_M) (T := F_M) (N := 97) hx hb 8 69 hts fin_M hown hR hk1 (by decide) rfl (by decide) rfl (hts _ m_70e943ac) (fun _ h9 => h9) (xb_d D_M_call 193 rfl) ?_
      obtain ⟨b3, eb3, hw⟩ := hw
      refine xb_some eb3 ?_
      refine lv_aload_n hx hb (xb_d D_M_call 194 rfl) rfl (lv_at hl 0 rfl) ?_
      refine xb_getI (C := R_M) (T := F_M) (N := 97) hx hb 8 68 hts fin_M hown hR hk1 (by decide) rfl (by decide) rfl (hts _ m_11712ae1) (fun _ h9 => h9) (xb_d D_M_call 195 rfl) ?_
      refine lv_iload_n hx hb (xb_d D_M_call 196 rfl) rfl (lv_at hl 1 rfl) ?_
      obtain ⟨hk4, hw⟩ := hw
      obtain ⟨hi5, hw⟩ := hw
      refine xb_iast hx hb hR hS hk4 hi5 (xb_d D_M_call 197 rfl) (fun H locs hR hS => ?_)
      obtain ⟨h6, eh6⟩ : ∃ x : xb_H, x = xb_I h b3 (Int32.toNatClampNeg (xb_i h x0 68)) x1 := ⟨_, rfl⟩
      rw [← eh6] at hR
      have hw := hw h6 eh6
      have hE : xb_ext h0 h6 := by rw [eh6]; exact hE
      refine lv_aload_n hx hb (xb_d D_M_call 198 rfl) rfl (lv_at hl 0 rfl) ?_
      have hk1 : xb_k h6 x0 = 9 := by rw [eh6]; exact hk1
      refine xb_getP (C := R_M) (T := F_M) (N := 97) hx hb 8 70 hts fin_M hown hR hk1 (by decide) rfl (by decide) rfl (hts _ m_ab98e9c9) (fun _ h9 => h9) (xb_d D_M_call 199 rfl) ?_
      obtain ⟨b7, eb7, hw⟩ := hw
      refine xb_some eb7 ?_
      refine lv_aload_n hx hb (xb_d D_M_call 200 rfl) rfl (lv_at hl 0 rfl) ?_
      refine xb_getI (C := R_M) (T := F_M) (N := 97) hx hb 8 68 hts fin_M hown hR hk1 (by decide) rfl (by decide) rfl (hts _ m_11712ae1) (fun _ h9 => h9) (xb_d D_M_call 201 rfl) ?_
      refine lv_aload_n hx hb (xb_d D_M_call 202 rfl) rfl (lv_at hl 0 rfl) ?_
      refine xb_getI (C := R_M) (T := F_M) (N := 97) hx hb 8 15 hts fin_M hown hR hk1 (by decide) rfl (by decide) rfl (hts _ m_6c2d27ad) (fun _ h9 => h9) (xb_d D_M_call 203 rfl) ?_
      obtain ⟨hk8, hw⟩ := hw
      obtain ⟨hi9, hw⟩ := hw
      refine xb_iast hx hb hR hS hk8 hi9 (xb_d D_M_call 204 rfl) (fun H locs hR hS => ?_)
      obtain ⟨h10, eh10⟩ : ∃ x : xb_H, x = xb_I h6 b7 (Int32.toNatClampNeg (xb_i h6 x0 68)) (xb_i h6 x0 15) := ⟨_, rfl⟩
      rw [← eh10] at hR
      have hw := hw h10 eh10
      have hE : xb_ext h0 h10 := by rw [eh10]; exact hE
      refine lv_aload_n hx hb (xb_d D_M_call 205 rfl) rfl (lv_at hl 0 rfl) ?_
      have hk1 : xb_k h10 x0 = 9 := by rw [eh10]; exact hk1
      refine xb_getP (C := R_M) (T := F_M) (N := 97) hx hb 8 71 hts fin_M hown hR hk1 (by decide) rfl (by decide) rfl (hts _ m_fa00c728) (fun _ h9 => h9) (xb_d D_M_call 206 rfl) ?_
      obtain ⟨b11, eb11, hw⟩ := hw
      refine xb_some eb11 ?_
      refine lv_aload_n hx hb (xb_d D_M_call 207 rfl) rfl (lv_at hl 0 rfl) ?_
      refine xb_getI (C := R_M) (T := F_M) (N := 97) hx hb 8 68 hts fin_M hown hR hk1 (by decide) rfl (by decide) rfl (hts _ m_11712ae1) (fun _ h9 => h9) (xb_d D_M_call 208 rfl) ?_
      refine lv_iload_n hx hb (xb_d D_M_call 209 rfl) rfl (lv_at hl 2 rfl) ?_
      obtain ⟨hk12, hw⟩ := hw
      obtain ⟨hi13, hw⟩ := hw
      refine xb_iast hx hb hR hS hk12 hi13 (xb_d D_M_call 210 rfl) (fun H locs hR hS => ?_)
      obtain ⟨h14, eh14⟩ : ∃ x : xb_H, x = xb_I h10 b11 (Int32.toNatClampNeg (xb_i h10 x0 68)) x3 := ⟨_, rfl⟩
      rw [← eh14] at hR
      have hw := hw h14 eh14
      have hE : xb_ext h0 h14 := by rw [eh14]; exact hE
      refine lv_aload_n hx hb (xb_d D_M_call 211 rfl) rfl (lv_at hl 0 rfl) ?_
      have hk1 : xb_k h14 x0 = 9 := by rw [eh14]; exact hk1
      refine xb_getP (C := R_M) (T := F_M) (N := 97) hx hb 8 72 hts fin_M hown hR hk1 (by decide) rfl (by decide) rfl (hts _ m_a9102de0) (fun _ h9 => h9) (xb_d D_M_call 212 rfl) ?_
      obtain ⟨b15, eb15, hw⟩ := hw
      refine xb_some eb15 ?_
      refine lv_aload_n hx hb (xb_d D_M_call 213 rfl) rfl (lv_at hl 0 rfl) ?_
      refine xb_getI (C := R_M) (T := F_M) (N := 97) hx hb 8 68 hts fin_M hown hR hk1 (by decide) rfl (by decide) rfl (hts _ m_11712ae1) (fun _ h9 => h9) (xb_d D_M_call 214 rfl) ?_
      refine lv_aload_n hx hb (xb_d D_M_call 215 rfl) rfl (lv_at hl 0 rfl) ?_
      refine xb_getI (C := R_M) (T := F_M) (N := 97) hx hb 8 20 hts fin_M hown hR hk1 (by decide) rfl (by decide) rfl (hts _ m_160f9bc8) (fun _ h9 => h9) (xb_d D_M_call 216 rfl) ?_
      obtain ⟨hk16, hw⟩ := hw
      obtain ⟨hi17, hw⟩ := hw
      refine xb_iast hx hb hR hS hk16 hi17 (xb_d D_M_call 217 rfl) (fun H locs hR hS => ?_)
      obtain ⟨h18, eh18⟩ : ∃ x : xb_H, x = xb_I h14 b15 (Int32.toNatClampNeg (xb_i h14 x0 68)) (xb_i h14 x0 20) := ⟨_, rfl⟩
      rw [← eh18] at hR
      have hw := hw h18 eh18
      have hE : xb_ext h0 h18 := by rw [eh18]; exact hE
      refine lv_aload_n hx hb (xb_d D_M_call 218 rfl) rfl (lv_at hl 0 rfl) ?_
      have hk1 : xb_k h18 x0 = 9 := by rw [eh18]; exact hk1
      refine xb_getP (C := R_M) (T := F_M) (N := 97) hx hb 8 73 hts fin_M hown hR hk1 (by decide) rfl (by decide) rfl (hts _ m_6c9efdee) (fun _ h9 => h9) (xb_d D_M_call 219 rfl) ?_
      obtain ⟨b19, eb19, hw⟩ := hw
      refine xb_some eb19 ?_
      refine lv_aload_n hx hb (xb_d D_M_call 220 rfl) rfl (lv_at hl 0 rfl) ?_
      refine xb_getI (C := R_M) (T := F_M) (N := 97) hx hb 8 68 hts fin_M hown hR hk1 (by decide) rfl (by decide) rfl (hts _ m_11712ae1) (fun _ h9 => h9) (xb_d D_M_call 221 rfl) ?_
      refine lv_aload_n hx hb (xb_d D_M_call 222 rfl) rfl (lv_at hl 0 rfl) ?_
      refine xb_getI (C := R_M) (T := F_M) (N := 97) hx hb 8 81 hts fin_M hown hR hk1 (by decide) rfl (by decide) rfl (hts _ m_65743087) (fun _ h9 => h9) (xb_d D_M_call 223 rfl) ?_
      obtain ⟨hk20, hw⟩ := hw
      obtain ⟨hi21, hw⟩ := hw
      refine xb_iast hx hb hR hS hk20 hi21 (xb_d D_M_call 224 rfl) (fun H locs hR hS => ?_)
      obtain ⟨h22, eh22⟩ : ∃ x : xb_H, x = xb_I h18 b19 (Int32.toNatClampNeg (xb_i h18 x0 68)) (xb_i h18 x0 81) := ⟨_, rfl⟩
      rw [← eh22] at hR
      have hw := hw h22 eh22
      have hE : xb_ext h0 h22 := by rw [eh22]; exact hE
      refine lv_aload_n hx hb (xb_d D_M_call 225 rfl) rfl (lv_at hl 0 rfl) ?_
      refine lv_dup hx hb (xb_d D_M_call 226 rfl) rfl ?_
      have hk1 : xb_k h22 x0 = 9 := by rw [eh22]; exact hk1
      refine xb_getI (C := R_M) (T := F_M) (N := 97) hx hb 8 68 hts fin_M hown hR hk1 (by decide) rfl (by decide) rfl (hts _ m_11712ae1) (fun _ h9 => h9) (xb_d D_M_call 227 rfl) ?_
      refine lv_iconst (v := 1) hx hb (xb_d D_M_call 228 rfl) (by decide) ?_
      refine lv_iadd hx hb (xb_d D_M_call 229 rfl) ?_
      refine xb_putI (C := R_M) (T := F_M) (N := 97) (ty := .int) (x := ((xb_i h22 x0 68) + 1)) hx hb 8 68 hts fin_M t_M t_M_ok n_M hown hR hS hk1 (by decide) rfl (by decide) rfl (hts _ m_11712ae1) (fun _ h9 => h9) rfl (by decide +kernel) rfl rfl (xb_d D_M_call 230 rfl) (fun H locs hR hS => ?_)
      obtain ⟨h23, eh23⟩ : ∃ x : xb_H, x = xb_I h22 x0 68 ((xb_i h22 x0 68) + 1) := ⟨_, rfl⟩
      rw [← eh23] at hR
      have hw := hw h23 eh23
      have hE : xb_ext h0 h23 := by rw [eh23]; exact hE
      refine lv_aload_n hx hb (xb_d D_M_call 231 rfl) rfl (lv_at hl 0 rfl) ?_
      refine lv_iconst (v := 0) hx hb (xb_d D_M_call 232 rfl) (by decide) ?_
      refine lv_iload hx hb (xb_d D_M_call 233 rfl) (lv_at hl 3 rfl) ?_
      have hk1 : xb_k h23 x0 = 9 := by rw [eh23]; exact hk1
      refine xb_call (D := D) (A := A) (σ := σ) (h := h23) (d := 2) (mc := 0) (ms := 0) (maxL := 3) (rest := []) (av := [.ref x0, .int 0, .int x8]) (fun T hT X => by obtain ⟨cb, r1, r2, r3⟩ := xb_recv (ci := 8) hR rfl hk1 (by decide); exact xt_invV X hx hown (hts _ m_746eb9d6) (hts _ m_e9612f4e) (hts _ m_aa122190) (xt_sigOf (hts _ m_7c9641c8)) nm_M_open (by rw [hT]; exact r1) r2 r3 (g := F0 m 424 ls [.int x8, .int 0, .ref x0]) rfl (argsL := [.int 0, .int x8]) (rest := []) rfl rfl (by rw [hb]; exact (xb_d D_M_call 234 rfl))) (ok_M_open l hfl D A σ x0 0 x8 h23 _ hw) (hml.trans hl.1.symm) (by rw [hb]; exact (xb_d D_M_call 234 rfl)) (Nat.le_of_ble_eq_true rfl) (Nat.le_of_ble_eq_true rfl) (Nat.le_of_ble_eq_true rfl) (show k + 0 ≤ MC by omega) (show n + 0 ≤ MS by omega) (xt_w1 hB.1 m_7c9641c8) (xt_cdOf hB.1 m_7c9641c8) (hts _ m_d5ed7bed) hB hR hS hA (fun vv h24 H locs hq hEh24 hR hS => ?_) (fun XX ax h24 H locs hq hEh24 hex hR hS => ?_)
      · obtain ⟨rfl, hw⟩ := hq
        have hw := hw hEh24
        have hE := hE.tr hEh24
        refine W.eq (g2 := F0 m 427 ls []) rfl ?_
        exact xb_vret hx hb hr hlocks (show k ≤ MC by omega) (show n ≤ MS by omega) hE hR hS (xb_d D_M_call 235 rfl) hw
      · exact False.elim hq
    · have hw := hw.2 hc2
      refine lv_aload_n hx hb (xb_d D_M_call 183 rfl) rfl (lv_at hl 0 rfl) ?_
      refine lv_lconst (v := 0) hx hb (xb_d D_M_call 184 rfl) (by decide) ?_
      refine lv_aload_n hx hb (xb_d D_M_call 185 rfl) rfl (lv_at hl 0 rfl) ?_
      refine xb_getP (C := R_M) (T := F_M) (N := 97) hx hb 8 19 hts fin_M hown hR hk1 (by decide) rfl (by decide) rfl (hts _ m_cede1946) (fun _ h9 => h9) (xb_d D_M_call 186 rfl) ?_
      obtain ⟨b26, eb26, hw⟩ := hw
      refine xb_some eb26 ?_
      refine lv_iload hx hb (xb_d D_M_call 187 rfl) (lv_at hl 4 rfl) ?_
      obtain ⟨hk28, hw⟩ := hw
      obtain ⟨hi27, hw⟩ := hw
      refine xb_bald hx hb hR hk28 hi27 (xb_d D_M_call 188 rfl) ?_
      refine xb_call (D := D) (A := A) (σ := σ) (h := h) (d := 2) (mc := 0) (ms := 0) (maxL := 4) (rest := []) (av := [.ref x0, .long 0, .int (xb_i h b26 (Int32.toNatClampNeg x9))]) (fun T hT X => by obtain ⟨cb, r1, r2, r3⟩ := xb_recv (ci := 8) hR rfl hk1 (by decide); exact xt_invV X hx hown (hts _ m_1dd22d11) (hts _ m_e8ae1713) (hts _ m_973b740a) (xt_sigOf (hts _ m_a0d5a63e)) nm_M_add (by rw [hT]; exact r1) r2 r3 (g := F0 m 342 ls [.int (xb_i h b26 (Int32.toNatClampNeg x9)), .long 0, .ref x0]) rfl (argsL := [.long 0, .int (xb_i h b26 (Int32.toNatClampNeg x9))]) (rest := []) rfl rfl (by rw [hb]; exact (xb_d D_M_call 189 rfl))) (ok_M_add l hfl D A σ x0 0 (xb_i h b26 (Int32.toNatClampNeg x9)) h _ hw) (hml.trans hl.1.symm) (by rw [hb]; exact (xb_d D_M_call 189 rfl)) (Nat.le_of_ble_eq_true rfl) (Nat.le_of_ble_eq_true rfl) (Nat.le_of_ble_eq_true rfl) (show k + 0 ≤ MC by omega) (show n + 0 ≤ MS by omega) (xt_w1 hB.1 m_a0d5a63e) (xt_cdOf hB.1 m_a0d5a63e) (hts _ m_d5ed7bed) hB hR hS hA (fun vv h29 H locs hq hEh29 hR hS => ?_) (fun XX ax h29 H locs hq hEh29 hex hR hS => ?_)
      · obtain ⟨rfl, hw⟩ := hq
        have hw := hw hEh29
        have hE := hE.tr hEh29
        refine W.eq (g2 := F0 m 345 ls []) rfl ?_
        refine lv_iinc (v := (x9 + 1)) (k := 4) hx hb (xb_d D_M_call 190 rfl) hl rfl (by first | rfl | decide) (by decide) rfl (fun ls hl => ?_)
        have hl : lv_has ls 10 [(9, .int (x9 + 1)), (0, .ref x0), (1, .int x1), (3, .int x3), (8, .int x8)] := hl
        refine lv_goto (tgt := 324) hx hb (xb_d D_M_call 191 rfl) rfl ?_
        exact ih x0 x1 x3 x8 (x9 + 1) h29 hw p e s m args below meth c hC H locs ls k n hE (lv_sub hl [1, 2, 3, 4, 0] rfl) hR hS (by omega) (by omega)
      · exact False.elim hq

set_option maxHeartbeats 4000000 in
set_option maxRecDepth 100000 in
theorem am_M_call_L307 (l : Launch) (hfl : l.flags = pinnedFlags ++ [noTraceFlag]) (D : va_G) (A : Nat → Prop) (σ MC MS : Nat) (h0 : xb_H) (Qr : xb_H → Prop) (x0 : Nat) (h : xb_H) (hw : w_M_call_L307 Qr x0 h) : xb_am l D A σ 10 MC MS h0 (fun v h => v = none ∧ Qr h) (fun _ _ => False) y_M_call.cls y_M_call.name b_M_call 10 ([] : List ExceptionTableEntry) none 307 [(0, .ref x0)] [] h 0 0 := by
  unfold w_M_call_L307 at hw
  intro p e s m args below meth c hC H locs ls k n hE hl hR hS hk hn
  obtain ⟨hx, hb, hown, hlocks, htab, hml, hr, hB, hA, hnm⟩ := id hC
  have hts := hB.1.1.at args
  refine lv_aload_n hx hb (xb_d D_M_call 168 rfl) rfl (lv_at hl 0 rfl) ?_
  refine lv_bipush (v := 9) hx hb (xb_d D_M_call 169 rfl) (by decide) ?_
  obtain ⟨hk1, hw⟩ := hw
  refine xb_putI (C := R_M) (T := F_M) (N := 97) (ty := .int) (x := 9) hx hb 8 82 hts fin_M t_M t_M_ok n_M hown hR hS hk1 (by decide) rfl (by decide) rfl (hts _ m_ad343437) (fun _ h9 => h9) rfl (by decide +kernel) rfl rfl (xb_d D_M_call 170 rfl) (fun H locs hR hS => ?_)
  obtain ⟨h2, eh2⟩ : ∃ x : xb_H, x = xb_I h x0 82 9 := ⟨_, rfl⟩
  rw [← eh2] at hR
  have hw := hw h2 eh2
  have hE : xb_ext h0 h2 := by rw [eh2]; exact hE
  exact xb_vret hx hb hr hlocks (show k ≤ MC by omega) (show n ≤ MS by omega) hE hR hS (xb_d D_M_call 171 rfl) hw

set_option maxHeartbeats 4000000 in
set_option maxRecDepth 100000 in
theorem am_M_call_L174 (l : Launch) (hfl : l.flags = pinnedFlags ++ [noTraceFlag]) (D : va_G) (A : Nat → Prop) (σ MC MS : Nat) (h0 : xb_H) (Qr : xb_H → Prop) (h : xb_H) (hw : w_M_call_L174 Qr h) : xb_am l D A σ 10 MC MS h0 (fun v h => v = none ∧ Qr h) (fun _ _ => False) y_M_call.cls y_M_call.name b_M_call 10 ([] : List ExceptionTableEntry) none 174 [] [] h 0 0 := by
  unfold w_M_call_L174 at hw
  intro p e s m args below meth c hC H locs ls k n hE hl hR hS hk hn
  obtain ⟨hx, hb, hown, hlocks, htab, hml, hr, hB, hA, hnm⟩ := id hC
  have hts := hB.1.1.at args
  exact xb_vret hx hb hr hlocks (show k ≤ MC by omega) (show n ≤ MS by omega) hE hR hS (xb_d D_M_call 92 rfl) hw

set_option maxHeartbeats 4000000 in
set_option maxRecDepth 100000 in
theorem am_M_call_L115 (l : Launch) (hfl : l.flags = pinnedFlags ++ [noTraceFlag]) (D : va_G) (A : Nat → Prop) (σ MC MS : Nat) (h0 : xb_H) (Qr : xb_H → Prop) (x0 : Nat) (x1 : Int32) (x2 : Int32) (x3 : Int32) (y0 : Int32) (y1 : Nat) (h : xb_H) (hw : w_M_call_L115 Qr x0 x1 x2 x3 y0 y1 h) : xb_am l D A σ 10 MC MS h0 (fun v h => v = none ∧ Qr h) (fun _ _ => False) y_M_call.cls y_M_call.name b_M_call 10 ([] : List ExceptionTableEntry) none 115 [(0, .ref x0), (1, .int x1), (2, .int x2), (3, .int x3)] [.int y0, .ref y1] h 0 0 := by
  unfold w_M_call_L115 at hw
  intro p e s m args below meth c hC H locs ls k n hE hl hR hS hk hn
  obtain ⟨hx, hb, hown, hlocks, htab, hml, hr, hB, hA, hnm⟩ := id hC
  have hts := hB.1.1.at args
  obtain ⟨hk1, hw⟩ := hw
  obtain ⟨hz2, hw⟩ := hw
  refine xb_putI (C := R_M) (T := F_M) (N := 97) (ty := .boolean) (x := y0) hx hb 8 94 hts fin_M t_M t_M_ok n_M hown hR hS hk1 (by decide) rfl (by decide) rfl (hts _ m_8158dce5) (fun _ h9 => h9) rfl (by decide +kernel) (xb_bn hz2).1 (xb_bn hz2).2 (xb_d D_M_call 62 rfl) (fun H locs hR hS => ?_)
  obtain ⟨h3, eh3⟩ : ∃ x : xb_H, x = xb_I h y1 94 y0 := ⟨_, rfl⟩
  rw [← eh3] at hR
  have hw := hw h3 eh3
  have hE : xb_ext h0 h3 := by rw [eh3]; exact hE
  refine lv_iload_n hx hb (xb_d D_M_call 63 rfl) rfl (lv_at hl 1 rfl) ?_
  refine lv_ldcw (v := 100000) hx hb hown (hts _ m_0517c3da) (xb_d D_M_call 64 rfl) ?_
  refine lv_icmp_lt (tgt := 175) hx hb (xb_d D_M_call 65 rfl) rfl (fun hc4 => ?_) (fun hc4 => ?_)
  · have hw := hw.1 hc4
    refine lv_aload_n hx hb (xb_d D_M_call 93 rfl) rfl (lv_at hl 0 rfl) ?_
    obtain ⟨hk5, hw⟩ := hw
    refine xb_getP (C := R_M) (T := F_M) (N := 97) hx hb 8 44 hts fin_M hown hR hk5 (by decide) rfl (by decide) rfl (hts _ m_ad0cc5a3) (fun _ h9 => h9) (xb_d D_M_call 94 rfl) ?_
    obtain ⟨b6, eb6, hw⟩ := hw
    refine xb_some eb6 ?_
    refine lv_iload_n hx hb (xb_d D_M_call 95 rfl) rfl (lv_at hl 1 rfl) ?_
    obtain ⟨hk8, hw⟩ := hw
    obtain ⟨hi7, hw⟩ := hw
    refine xb_iald hx hb hR hk8 hi7 (xb_d D_M_call 96 rfl) ?_
    obtain ⟨v9, ev9⟩ : ∃ x : Int32, x = (xb_i h3 b6 (Int32.toNatClampNeg x1)) := ⟨_, rfl⟩
    have hw := hw v9 ev9
    refine xt_numi (y := v9) ev9.symm ?_
    refine lv_istore hx hb (xb_d D_M_call 97 rfl) hl (by decide) rfl (fun ls hl => ?_)
    have hl : lv_has ls 10 [(5, .int v9), (0, .ref x0), (1, .int x1), (2, .int x2), (3, .int x3)] := hl
    refine lv_aload_n hx hb (xb_d D_M_call 98 rfl) rfl (lv_at hl 1 rfl) ?_
    refine xb_getP (C := R_M) (T := F_M) (N := 97) hx hb 8 31 hts fin_M hown hR hk5 (by decide) rfl (by decide) rfl (hts _ m_691d5f47) (fun _ h9 => h9) (xb_d D_M_call 99 rfl) ?_
    obtain ⟨b10, eb10, hw⟩ := hw
    refine xb_some eb10 ?_
    refine lv_iload hx hb (xb_d D_M_call 100 rfl) (lv_at hl 0 rfl) ?_
    obtain ⟨hk12, hw⟩ := hw
    obtain ⟨hi11, hw⟩ := hw
    refine xb_iald hx hb hR hk12 hi11 (xb_d D_M_call 101 rfl) ?_
    obtain ⟨v13, ev13⟩ : ∃ x : Int32, x = (xb_i h3 b10 (Int32.toNatClampNeg v9)) := ⟨_, rfl⟩
    have hw := hw v13 ev13
    refine xt_numi (y := v13) ev13.symm ?_
    refine lv_istore hx hb (xb_d D_M_call 102 rfl) hl (by decide) rfl (fun ls hl => ?_)
    have hl : lv_has ls 10 [(6, .int v13), (5, .int v9), (0, .ref x0), (1, .int x1), (2, .int x2), (3, .int x3)] := hl
    refine lv_aload_n hx hb (xb_d D_M_call 103 rfl) rfl (lv_at hl 2 rfl) ?_
    refine lv_iload hx hb (xb_d D_M_call 104 rfl) (lv_at hl 0 rfl) ?_
    refine lv_aload_n hx hb (xb_d D_M_call 105 rfl) rfl (lv_at hl 2 rfl) ?_
    refine xb_getP (C := R_M) (T := F_M) (N := 97) hx hb 8 10 hts fin_M hown hR hk5 (by decide) rfl (by decide) rfl (hts _ m_01d0d957) (fun _ h9 => h9) (xb_d D_M_call 106 rfl) ?_
    obtain ⟨b14, eb14, hw⟩ := hw
    refine xb_some eb14 ?_
    refine lv_iconst (v := 4) hx hb (xb_d D_M_call 107 rfl) (by decide) ?_
    refine lv_iload hx hb (xb_d D_M_call 108 rfl) (lv_at hl 0 rfl) ?_
    refine lv_imul hx hb (xb_d D_M_call 109 rfl) ?_
    obtain ⟨hk16, hw⟩ := hw
    obtain ⟨hi15, hw⟩ := hw
    refine xb_iald hx hb hR hk16 hi15 (xb_d D_M_call 110 rfl) ?_
    refine lv_aload_n hx hb (xb_d D_M_call 111 rfl) rfl (lv_at hl 2 rfl) ?_
    refine xb_getP (C := R_M) (T := F_M) (N := 97) hx hb 8 45 hts fin_M hown hR hk5 (by decide) rfl (by decide) rfl (hts _ m_4c98e665) (fun _ h9 => h9) (xb_d D_M_call 112 rfl) ?_
    obtain ⟨b17, eb17, hw⟩ := hw
    refine xb_some eb17 ?_
    refine lv_iload_n hx hb (xb_d D_M_call 113 rfl) rfl (lv_at hl 3 rfl) ?_
    obtain ⟨hk19, hw⟩ := hw
    obtain ⟨hi18, hw⟩ := hw
    refine xb_iald hx hb hR hk19 hi18 (xb_d D_M_call 114 rfl) ?_
    refine lv_iadd hx hb (xb_d D_M_call 115 rfl) ?_
    refine xb_call (D := D) (A := A) (σ := σ) (h := h3) (d := 8) (mc := 0) (ms := 0) (maxL := 4) (rest := []) (av := [.ref x0, .int v13, .int ((xb_i h3 b14 (Int32.toNatClampNeg (4 * v13))) + (xb_i h3 b17 (Int32.toNatClampNeg x1)))]) (fun T hT X => by obtain ⟨cb, r1, r2, r3⟩ := xb_recv (ci := 8) hR rfl hk5 (by decide); exact xt_invV X hx hown (hts _ m_1d203cc1) (hts _ m_0a0483ac) (hts _ m_42615324) (xt_sigOf (hts _ m_44f87caf)) nm_M_typeOf (by rw [hT]; exact r1) r2 r3 (g := F0 m 211 ls [.int ((xb_i h3 b14 (Int32.toNatClampNeg (4 * v13))) + (xb_i h3 b17 (Int32.toNatClampNeg x1))), .int v13, .ref x0]) rfl (argsL := [.int v13, .int ((xb_i h3 b14 (Int32.toNatClampNeg (4 * v13))) + (xb_i h3 b17 (Int32.toNatClampNeg x1)))]) (rest := []) rfl rfl (by rw [hb]; exact (xb_d D_M_call 116 rfl))) (ok_M_typeOf l hfl D A σ x0 v13 ((xb_i h3 b14 (Int32.toNatClampNeg (4 * v13))) + (xb_i h3 b17 (Int32.toNatClampNeg x1))) h3 _ hw) (hml.trans hl.1.symm) (by rw [hb]; exact (xb_d D_M_call 116 rfl)) (Nat.le_of_ble_eq_true rfl) (Nat.le_of_ble_eq_true rfl) (Nat.le_of_ble_eq_true rfl) (show k + 0 ≤ MC by omega) (show n + 0 ≤ MS by omega) (xt_w1 hB.1 m_44f87caf) (xt_cdOf hB.1 m_44f87caf) (hts _ m_d5ed7bed) hB hR hS hA (fun vv h20 H locs hq hEh20 hR hS => ?_) (fun XX ax h20 H locs hq hEh20 hex hR hS => ?_)
    · obtain ⟨r21, rfl, hw⟩ := hq
      have hw := hw hEh20
      have hE := hE.tr hEh20
      refine W.eq (g2 := F0 m 214 ls [.int r21]) rfl ?_
      refine lv_istore hx hb (xb_d D_M_call 117 rfl) hl (by decide) rfl (fun ls hl => ?_)
      have hl : lv_has ls 10 [(7, .int r21), (6, .int v13), (5, .int v9), (0, .ref x0), (1, .int x1), (2, .int x2), (3, .int x3)] := hl
      refine lv_aload_n hx hb (xb_d D_M_call 118 rfl) rfl (lv_at hl 3 rfl) ?_
      refine lv_iload hx hb (xb_d D_M_call 119 rfl) (lv_at hl 1 rfl) ?_
      refine lv_iload hx hb (xb_d D_M_call 120 rfl) (lv_at hl 0 rfl) ?_
      have hk5 : xb_k h20 x0 = 9 := hEh20.k hk5
      refine xb_call (D := D) (A := A) (σ := σ) (h := h20) (d := 6) (mc := 0) (ms := 0) (maxL := 4) (rest := []) (av := [.ref x0, .int v13, .int r21]) (fun T hT X => by obtain ⟨cb, r1, r2, r3⟩ := xb_recv (ci := 8) hR rfl hk5 (by decide); exact xt_invV X hx hown (hts _ m_bd023100) (hts _ m_d08a9c75) (hts _ m_9ac7cfcb) (xt_sigOf (hts _ m_9dee8e5c)) nm_M_resultOf (by rw [hT]; exact r1) r2 r3 (g := F0 m 221 ls [.int r21, .int v13, .ref x0]) rfl (argsL := [.int v13, .int r21]) (rest := []) rfl rfl (by rw [hb]; exact (xb_d D_M_call 121 rfl))) (ok_M_resultOf l hfl D A σ x0 v13 r21 h20 _ hw) (hml.trans hl.1.symm) (by rw [hb]; exact (xb_d D_M_call 121 rfl)) (Nat.le_of_ble_eq_true rfl) (Nat.le_of_ble_eq_true rfl) (Nat.le_of_ble_eq_true rfl) (show k + 0 ≤ MC by omega) (show n + 0 ≤ MS by omega) (xt_w1 hB.1 m_9dee8e5c) (xt_cdOf hB.1 m_9dee8e5c) (hts _ m_d5ed7bed) hB hR hS hA (fun vv h22 H locs hq hEh22 hR hS => ?_) (fun XX ax h22 H locs hq hEh22 hex hR hS => ?_)
      · obtain ⟨r23, rfl, hw⟩ := hq
        have hw := hw hEh22
        have hE := hE.tr hEh22
        refine W.eq (g2 := F0 m 224 ls [.int r23]) rfl ?_
        refine lv_istore hx hb (xb_d D_M_call 122 rfl) hl (by decide) rfl (fun ls hl => ?_)
        have hl : lv_has ls 10 [(8, .int r23), (7, .int r21), (6, .int v13), (5, .int v9), (0, .ref x0), (1, .int x1), (2, .int x2), (3, .int x3)] := hl
        refine lv_aload_n hx hb (xb_d D_M_call 123 rfl) rfl (lv_at hl 4 rfl) ?_
        refine lv_iload hx hb (xb_d D_M_call 124 rfl) (lv_at hl 2 rfl) ?_
        refine lv_aload_n hx hb (xb_d D_M_call 125 rfl) rfl (lv_at hl 4 rfl) ?_
        refine lv_iload hx hb (xb_d D_M_call 126 rfl) (lv_at hl 2 rfl) ?_
        refine lv_bipush (v := 10) hx hb (xb_d D_M_call 127 rfl) (by decide) ?_
        refine lv_aload_n hx hb (xb_d D_M_call 128 rfl) rfl (lv_at hl 4 rfl) ?_
        have hk5 : xb_k h22 x0 = 9 := hEh22.k hk5
        refine xb_getP (C := R_M) (T := F_M) (N := 97) hx hb 8 45 hts fin_M hown hR hk5 (by decide) rfl (by decide) rfl (hts _ m_4c98e665) (fun _ h9 => h9) (xb_d D_M_call 129 rfl) ?_
        obtain ⟨b24, eb24, hw⟩ := hw
        refine xb_some eb24 ?_
        refine lv_iload_n hx hb (xb_d D_M_call 130 rfl) rfl (lv_at hl 5 rfl) ?_
        obtain ⟨hk26, hw⟩ := hw
        obtain ⟨hi25, hw⟩ := hw
        refine xb_iald hx hb hR hk26 hi25 (xb_d D_M_call 131 rfl) ?_
        refine xb_call (D := D) (A := A) (σ := σ) (h := h22) (d := 2) (mc := 0) (ms := 0) (maxL := 4) (rest := [.int v13, .ref x0]) (av := [.ref x0, .int v13, .int 10, .int (xb_i h22 b24 (Int32.toNatClampNeg x1))]) (fun T hT X => by obtain ⟨cb, r1, r2, r3⟩ := xb_recv (ci := 8) hR rfl hk5 (by decide); exact xt_invV X hx hown (hts _ m_7f41753e) (hts _ m_8cdd7108) (hts _ m_e228318f) (xt_sigOf (hts _ m_89667ad5)) nm_M_placeOf (by rw [hT]; exact r1) r2 r3 (g := F0 m 240 ls [.int (xb_i h22 b24 (Int32.toNatClampNeg x1)), .int 10, .int v13, .ref x0, .int v13, .ref x0]) rfl (argsL := [.int v13, .int 10, .int (xb_i h22 b24 (Int32.toNatClampNeg x1))]) (rest := [.int v13, .ref x0]) rfl rfl (by rw [hb]; exact (xb_d D_M_call 132 rfl))) (ok_M_placeOf l hfl D A σ x0 v13 10 (xb_i h22 b24 (Int32.toNatClampNeg x1)) h22 _ hw) (hml.trans hl.1.symm) (by rw [hb]; exact (xb_d D_M_call 132 rfl)) (Nat.le_of_ble_eq_true rfl) (Nat.le_of_ble_eq_true rfl) (Nat.le_of_ble_eq_true rfl) (show k + 0 ≤ MC by omega) (show n + 0 ≤ MS by omega) (xt_w1 hB.1 m_89667ad5) (xt_cdOf hB.1 m_89667ad5) (hts _ m_d5ed7bed) hB hR hS hA (fun vv h27 H locs hq hEh27 hR hS => ?_) (fun XX ax h27 H locs hq hEh27 hex hR hS => ?_)
        · obtain ⟨r28, rfl, hw⟩ := hq
          have hw := hw hEh27
          have hE := hE.tr hEh27
          refine W.eq (g2 := F0 m 243 ls [.int r28, .int v13, .ref x0]) rfl ?_
          have hk5 : xb_k h27 x0 = 9 := hEh27.k hk5
          refine xb_call (D := D) (A := A) (σ := σ) (h := h27) (d := 2) (mc := 0) (ms := 0) (maxL := 3) (rest := []) (av := [.ref x0, .int v13, .int r28]) (fun T hT X => by obtain ⟨cb, r1, r2, r3⟩ := xb_recv (ci := 8) hR rfl hk5 (by decide); exact xt_invV X hx hown (hts _ m_bb531879) (hts _ m_4a6cd4a0) (hts _ m_d1c31e3c) (xt_sigOf (hts _ m_48217fba)) nm_M_go (by rw [hT]; exact r1) r2 r3 (g := F0 m 243 ls [.int r28, .int v13, .ref x0]) rfl (argsL := [.int v13, .int r28]) (rest := []) rfl rfl (by rw [hb]; exact (xb_d D_M_call 133 rfl))) (ok_M_go l hfl D A σ x0 v13 r28 h27 _ hw) (hml.trans hl.1.symm) (by rw [hb]; exact (xb_d D_M_call 133 rfl)) (Nat.le_of_ble_eq_true rfl) (Nat.le_of_ble_eq_true rfl) (Nat.le_of_ble_eq_true rfl) (show k + 0 ≤ MC by omega) (show n + 0 ≤ MS by omega) (xt_w1 hB.1 m_48217fba) (xt_cdOf hB.1 m_48217fba) (hts _ m_d5ed7bed) hB hR hS hA (fun vv h29 H locs hq hEh29 hR hS => ?_) (fun XX ax h29 H locs hq hEh29 hex hR hS => ?_)
          · obtain ⟨rfl, hw⟩ := hq
            have hw := hw hEh29
            have hE := hE.tr hEh29
            refine W.eq (g2 := F0 m 246 ls []) rfl ?_
            refine lv_aload_n hx hb (xb_d D_M_call 134 rfl) rfl (lv_at hl 4 rfl) ?_
            have hk5 : xb_k h29 x0 = 9 := hEh29.k hk5
            refine xb_call (D := D) (A := A) (σ := σ) (h := h29) (d := 4) (mc := 0) (ms := 0) (maxL := 5) (rest := []) (av := [.ref x0]) (fun T hT X => by obtain ⟨cb, r1, r2, r3⟩ := xb_recv (ci := 8) hR rfl hk5 (by decide); exact xt_invV X hx hown (hts _ m_e991293f) (hts _ m_385a74b3) (hts _ m_c9fbcd02) (xt_sigOf (hts _ m_1f53f210)) nm_M_count (by rw [hT]; exact r1) r2 r3 (g := F0 m 247 ls [.ref x0]) rfl (argsL := []) (rest := []) rfl rfl (by rw [hb]; exact (xb_d D_M_call 135 rfl))) (ok_M_count l hfl D A σ x0 h29 _ hw) (hml.trans hl.1.symm) (by rw [hb]; exact (xb_d D_M_call 135 rfl)) (Nat.le_of_ble_eq_true rfl) (Nat.le_of_ble_eq_true rfl) (Nat.le_of_ble_eq_true rfl) (show k + 0 ≤ MC by omega) (show n + 0 ≤ MS by omega) (xt_w1 hB.1 m_1f53f210) (xt_cdOf hB.1 m_1f53f210) (hts _ m_d5ed7bed) hB hR hS hA (fun vv h31 H locs hq hEh31 hR hS => ?_) (fun XX ax h31 H locs hq hEh31 hex hR hS => ?_)
            · obtain ⟨r32, rfl, hw⟩ := hq
              have hw := hw hEh31
              have hE := hE.tr hEh31
              refine W.eq (g2 := F0 m 250 ls [.long r32]) rfl ?_
              refine lv_pop2_2 hx hb (xb_d D_M_call 136 rfl) rfl ?_
              refine lv_aload_n hx hb (xb_d D_M_call 137 rfl) rfl (lv_at hl 4 rfl) ?_
              refine lv_iload hx hb (xb_d D_M_call 138 rfl) (lv_at hl 2 rfl) ?_
              refine lv_iload hx hb (xb_d D_M_call 139 rfl) (lv_at hl 1 rfl) ?_
              have hk5 : xb_k h31 x0 = 9 := hEh31.k hk5
              refine xb_call (D := D) (A := A) (σ := σ) (h := h31) (d := 7) (mc := 0) (ms := 0) (maxL := 13) (rest := []) (av := [.ref x0, .int v13, .int r21]) (fun T hT X => by obtain ⟨cb, r1, r2, r3⟩ := xb_recv (ci := 8) hR rfl hk5 (by decide); exact xt_invV X hx hown (hts _ m_7c6bb5af) (hts _ m_b69b5f3a) (hts _ m_73be75cf) (xt_sigOf (hts _ m_abfe1d28)) nm_M_readLocals (by rw [hT]; exact r1) r2 r3 (g := F0 m 256 ls [.int r21, .int v13, .ref x0]) rfl (argsL := [.int v13, .int r21]) (rest := []) rfl rfl (by rw [hb]; exact (xb_d D_M_call 140 rfl))) (ok_M_readLocals l hfl D A σ x0 v13 r21 h31 _ hw) (hml.trans hl.1.symm) (by rw [hb]; exact (xb_d D_M_call 140 rfl)) (Nat.le_of_ble_eq_true rfl) (Nat.le_of_ble_eq_true rfl) (Nat.le_of_ble_eq_true rfl) (show k + 0 ≤ MC by omega) (show n + 0 ≤ MS by omega) (xt_w1 hB.1 m_abfe1d28) (xt_cdOf hB.1 m_abfe1d28) (hts _ m_d5ed7bed) hB hR hS hA (fun vv h33 H locs hq hEh33 hR hS => ?_) (fun XX ax h33 H locs hq hEh33 hex hR hS => ?_)
              · obtain ⟨rfl, hw⟩ := hq
                have hw := hw hEh33
                have hE := hE.tr hEh33
                refine W.eq (g2 := F0 m 259 ls []) rfl ?_
                refine lv_aload_n hx hb (xb_d D_M_call 141 rfl) rfl (lv_at hl 4 rfl) ?_
                have hk5 : xb_k h33 x0 = 9 := hEh33.k hk5
                refine xb_getI (C := R_M) (T := F_M) (N := 97) hx hb 8 68 hts fin_M hown hR hk5 (by decide) rfl (by decide) rfl (hts _ m_11712ae1) (fun _ h9 => h9) (xb_d D_M_call 142 rfl) ?_
                refine lv_sipush (v := 200) hx hb (xb_d D_M_call 143 rfl) (by decide) ?_
                refine lv_icmp_eq (tgt := 307) hx hb (xb_d D_M_call 144 rfl) rfl (fun hc35 => ?_) (fun hc35 => ?_)
                · have hw := hw.1 hc35
                  exact am_M_call_L307 l hfl D A σ MC MS h0 Qr x0 h33 hw p e s m args below meth c hC H locs ls k n hE (lv_sub hl [4] rfl) hR hS (by omega) (by omega)
                · have hw := hw.2 hc35
                  refine lv_iload_n hx hb (xb_d D_M_call 145 rfl) rfl (lv_at hl 7 rfl) ?_
                  refine lv_aload_n hx hb (xb_d D_M_call 146 rfl) rfl (lv_at hl 4 rfl) ?_
                  refine xb_getI (C := R_M) (T := F_M) (N := 97) hx hb 8 20 hts fin_M hown hR hk5 (by decide) rfl (by decide) rfl (hts _ m_160f9bc8) (fun _ h9 => h9) (xb_d D_M_call 147 rfl) ?_
                  refine lv_iadd hx hb (xb_d D_M_call 148 rfl) ?_
                  refine lv_aload_n hx hb (xb_d D_M_call 149 rfl) rfl (lv_at hl 4 rfl) ?_
                  refine xb_getP (C := R_M) (T := F_M) (N := 97) hx hb 8 12 hts fin_M hown hR hk5 (by decide) rfl (by decide) rfl (hts _ m_82208c1c) (fun _ h9 => h9) (xb_d D_M_call 150 rfl) ?_
                  obtain ⟨b36, eb36, hw⟩ := hw
                  refine xb_some eb36 ?_
                  refine lv_aload_n hx hb (xb_d D_M_call 151 rfl) rfl (lv_at hl 4 rfl) ?_
                  refine xb_getP (C := R_M) (T := F_M) (N := 97) hx hb 8 8 hts fin_M hown hR hk5 (by decide) rfl (by decide) rfl (hts _ m_7cc4ea11) (fun _ h9 => h9) (xb_d D_M_call 152 rfl) ?_
                  obtain ⟨b37, eb37, hw⟩ := hw
                  refine xb_some eb37 ?_
                  refine lv_bipush (v := 12) hx hb (xb_d D_M_call 153 rfl) (by decide) ?_
                  refine lv_iload hx hb (xb_d D_M_call 154 rfl) (lv_at hl 2 rfl) ?_
                  refine lv_imul hx hb (xb_d D_M_call 155 rfl) ?_
                  refine lv_bipush (v := 10) hx hb (xb_d D_M_call 156 rfl) (by decide) ?_
                  refine lv_iadd hx hb (xb_d D_M_call 157 rfl) ?_
                  obtain ⟨hk39, hw⟩ := hw
                  obtain ⟨hi38, hw⟩ := hw
                  refine xb_iald hx hb hR hk39 hi38 (xb_d D_M_call 158 rfl) ?_
                  refine lv_aload_n hx hb (xb_d D_M_call 159 rfl) rfl (lv_at hl 4 rfl) ?_
                  refine xb_getP (C := R_M) (T := F_M) (N := 97) hx hb 8 45 hts fin_M hown hR hk5 (by decide) rfl (by decide) rfl (hts _ m_4c98e665) (fun _ h9 => h9) (xb_d D_M_call 160 rfl) ?_
                  obtain ⟨b40, eb40, hw⟩ := hw
                  refine xb_some eb40 ?_
                  refine lv_iload_n hx hb (xb_d D_M_call 161 rfl) rfl (lv_at hl 5 rfl) ?_
                  obtain ⟨hk42, hw⟩ := hw
                  obtain ⟨hi41, hw⟩ := hw
                  refine xb_iald hx hb hR hk42 hi41 (xb_d D_M_call 162 rfl) ?_
                  refine lv_iadd hx hb (xb_d D_M_call 163 rfl) ?_
                  obtain ⟨hk44, hw⟩ := hw
                  obtain ⟨hi43, hw⟩ := hw
                  refine xb_iald hx hb hR hk44 hi43 (xb_d D_M_call 164 rfl) ?_
                  refine lv_iadd hx hb (xb_d D_M_call 165 rfl) ?_
                  refine lv_sipush (v := 16384) hx hb (xb_d D_M_call 166 rfl) (by decide) ?_
                  refine lv_icmp_le (tgt := 314) hx hb (xb_d D_M_call 167 rfl) rfl (fun hc45 => ?_) (fun hc45 => ?_)
                  · have hw := hw.1 hc45
                    refine lv_aload_n hx hb (xb_d D_M_call 172 rfl) rfl (lv_at hl 4 rfl) ?_
                    refine lv_iload_n hx hb (xb_d D_M_call 173 rfl) rfl (lv_at hl 7 rfl) ?_
                    refine lv_iload_n hx hb (xb_d D_M_call 174 rfl) rfl (lv_at hl 6 rfl) ?_
                    refine lv_iadd hx hb (xb_d D_M_call 175 rfl) ?_
                    refine xb_putI (C := R_M) (T := F_M) (N := 97) (ty := .int) (x := (x3 + x2)) hx hb 8 76 hts fin_M t_M t_M_ok n_M hown hR hS hk5 (by decide) rfl (by decide) rfl (hts _ m_d6ddfcd8) (fun _ h9 => h9) rfl (by decide +kernel) rfl rfl (xb_d D_M_call 176 rfl) (fun H locs hR hS => ?_)
                    obtain ⟨h46, eh46⟩ : ∃ x : xb_H, x = xb_I h33 x0 76 (x3 + x2) := ⟨_, rfl⟩
                    rw [← eh46] at hR
                    have hw := hw h46 eh46
                    have hE : xb_ext h0 h46 := by rw [eh46]; exact hE
                    refine lv_iload_n hx hb (xb_d D_M_call 177 rfl) rfl (lv_at hl 6 rfl) ?_
                    refine lv_istore hx hb (xb_d D_M_call 178 rfl) hl (by decide) rfl (fun ls hl => ?_)
                    have hl : lv_has ls 10 [(9, .int x2), (8, .int r23), (7, .int r21), (6, .int v13), (5, .int v9), (0, .ref x0), (1, .int x1), (2, .int x2), (3, .int x3)] := hl
                    obtain ⟨n8, hw⟩ := hw
                    exact am_M_call_L324 l hfl D A σ MC MS h0 Qr n8 x0 x1 x3 r23 x2 h46 hw p e s m args below meth c hC H locs ls k n hE (lv_sub hl [5, 6, 8, 1, 0] rfl) hR hS (by omega) (by omega)
                  · have hw := hw.2 hc45
                    exact am_M_call_L307 l hfl D A σ MC MS h0 Qr x0 h33 hw p e s m args below meth c hC H locs ls k n hE (lv_sub hl [4] rfl) hR hS (by omega) (by omega)
              · exact False.elim hq
            · exact False.elim hq
          · exact False.elim hq
        · exact False.elim hq
      · exact False.elim hq
    · exact False.elim hq
  · have hw := hw.2 hc4
    refine lv_aload_n hx hb (xb_d D_M_call 66 rfl) rfl (lv_at hl 0 rfl) ?_
    refine lv_iload_n hx hb (xb_d D_M_call 67 rfl) rfl (lv_at hl 3 rfl) ?_
    obtain ⟨hk47, hw⟩ := hw
    refine xb_putI (C := R_M) (T := F_M) (N := 97) (ty := .int) (x := x3) hx hb 8 76 hts fin_M t_M t_M_ok n_M hown hR hS hk47 (by decide) rfl (by decide) rfl (hts _ m_d6ddfcd8) (fun _ h9 => h9) rfl (by decide +kernel) rfl rfl (xb_d D_M_call 68 rfl) (fun H locs hR hS => ?_)
    obtain ⟨h48, eh48⟩ : ∃ x : xb_H, x = xb_I h3 x0 76 x3 := ⟨_, rfl⟩
    rw [← eh48] at hR
    have hw := hw h48 eh48
    have hE : xb_ext h0 h48 := by rw [eh48]; exact hE
    refine lv_aload_n hx hb (xb_d D_M_call 69 rfl) rfl (lv_at hl 0 rfl) ?_
    have hk47 : xb_k h48 x0 = 9 := by rw [eh48]; exact hk47
    refine xb_getI (C := R_M) (T := F_M) (N := 97) hx hb 8 88 hts fin_M hown hR hk47 (by decide) rfl (by decide) rfl (hts _ m_e2832a78) (fun _ h9 => h9) (xb_d D_M_call 70 rfl) ?_
    refine lv_sipush (v := 4096) hx hb (xb_d D_M_call 71 rfl) (by decide) ?_
    refine lv_icmp_ne (tgt := 149) hx hb (xb_d D_M_call 72 rfl) rfl (fun hc49 => ?_) (fun hc49 => ?_)
    · have hw := hw.1 hc49
      refine lv_aload_n hx hb (xb_d D_M_call 77 rfl) rfl (lv_at hl 0 rfl) ?_
      refine xb_getP (C := R_M) (T := F_M) (N := 97) hx hb 8 87 hts fin_M hown hR hk47 (by decide) rfl (by decide) rfl (hts _ m_82d42698) (fun _ h9 => h9) (xb_d D_M_call 78 rfl) ?_
      obtain ⟨b50, eb50, hw⟩ := hw
      refine xb_some eb50 ?_
      refine lv_aload_n hx hb (xb_d D_M_call 79 rfl) rfl (lv_at hl 0 rfl) ?_
      refine xb_getI (C := R_M) (T := F_M) (N := 97) hx hb 8 88 hts fin_M hown hR hk47 (by decide) rfl (by decide) rfl (hts _ m_e2832a78) (fun _ h9 => h9) (xb_d D_M_call 80 rfl) ?_
      refine lv_aload_n hx hb (xb_d D_M_call 81 rfl) rfl (lv_at hl 0 rfl) ?_
      refine xb_getP (C := R_M) (T := F_M) (N := 97) hx hb 8 74 hts fin_M hown hR hk47 (by decide) rfl (by decide) rfl (hts _ m_f82105f7) (fun _ h9 => h9) (xb_d D_M_call 82 rfl) ?_
      obtain ⟨b51, eb51, hw⟩ := hw
      refine xb_some eb51 ?_
      refine lv_iload_n hx hb (xb_d D_M_call 83 rfl) rfl (lv_at hl 3 rfl) ?_
      obtain ⟨hk53, hw⟩ := hw
      obtain ⟨hi52, hw⟩ := hw
      refine xb_lald hx hb hR hk53 hi52 (xb_d D_M_call 84 rfl) ?_
      obtain ⟨hk54, hw⟩ := hw
      obtain ⟨hi55, hw⟩ := hw
      refine xb_last hx hb hR hS hk54 hi55 (xb_d D_M_call 85 rfl) (fun H locs hR hS => ?_)
      obtain ⟨h56, eh56⟩ : ∃ x : xb_H, x = xb_L h48 b50 (Int32.toNatClampNeg (xb_i h48 x0 88)) (xb_l h48 b51 (Int32.toNatClampNeg x3)) := ⟨_, rfl⟩
      rw [← eh56] at hR
      have hw := hw h56 eh56
      have hE : xb_ext h0 h56 := by rw [eh56]; exact hE
      refine lv_aload_n hx hb (xb_d D_M_call 86 rfl) rfl (lv_at hl 0 rfl) ?_
      refine lv_dup hx hb (xb_d D_M_call 87 rfl) rfl ?_
      have hk47 : xb_k h56 x0 = 9 := by rw [eh56]; exact hk47
      refine xb_getI (C := R_M) (T := F_M) (N := 97) hx hb 8 88 hts fin_M hown hR hk47 (by decide) rfl (by decide) rfl (hts _ m_e2832a78) (fun _ h9 => h9) (xb_d D_M_call 88 rfl) ?_
      refine lv_iconst (v := 1) hx hb (xb_d D_M_call 89 rfl) (by decide) ?_
      refine lv_iadd hx hb (xb_d D_M_call 90 rfl) ?_
      refine xb_putI (C := R_M) (T := F_M) (N := 97) (ty := .int) (x := ((xb_i h56 x0 88) + 1)) hx hb 8 88 hts fin_M t_M t_M_ok n_M hown hR hS hk47 (by decide) rfl (by decide) rfl (hts _ m_e2832a78) (fun _ h9 => h9) rfl (by decide +kernel) rfl rfl (xb_d D_M_call 91 rfl) (fun H locs hR hS => ?_)
      obtain ⟨h57, eh57⟩ : ∃ x : xb_H, x = xb_I h56 x0 88 ((xb_i h56 x0 88) + 1) := ⟨_, rfl⟩
      rw [← eh57] at hR
      have hw := hw h57 eh57
      have hE : xb_ext h0 h57 := by rw [eh57]; exact hE
      exact am_M_call_L174 l hfl D A σ MC MS h0 Qr h57 hw p e s m args below meth c hC H locs ls k n hE (lv_sub hl [] rfl) hR hS (by omega) (by omega)
    · have hw := hw.2 hc49
      refine lv_aload_n hx hb (xb_d D_M_call 73 rfl) rfl (lv_at hl 0 rfl) ?_
      refine lv_bipush (v := 10) hx hb (xb_d D_M_call 74 rfl) (by decide) ?_
      refine xb_putI (C := R_M) (T := F_M) (N := 97) (ty := .int) (x := 10) hx hb 8 82 hts fin_M t_M t_M_ok n_M hown hR hS hk47 (by decide) rfl (by decide) rfl (hts _ m_ad343437) (fun _ h9 => h9) rfl (by decide +kernel) rfl rfl (xb_d D_M_call 75 rfl) (fun H locs hR hS => ?_)
      obtain ⟨h58, eh58⟩ : ∃ x : xb_H, x = xb_I h48 x0 82 10 := ⟨_, rfl⟩
      rw [← eh58] at hR
      have hw := hw h58 eh58
      have hE : xb_ext h0 h58 := by rw [eh58]; exact hE
      refine lv_goto (tgt := 174) hx hb (xb_d D_M_call 76 rfl) rfl ?_
      exact am_M_call_L174 l hfl D A σ MC MS h0 Qr h58 hw p e s m args below meth c hC H locs ls k n hE (lv_sub hl [] rfl) hR hS (by omega) (by omega)

set_option maxHeartbeats 4000000 in
set_option maxRecDepth 100000 in
theorem am_M_call_L110 (l : Launch) (hfl : l.flags = pinnedFlags ++ [noTraceFlag]) (D : va_G) (A : Nat → Prop) (σ MC MS : Nat) (h0 : xb_H) (Qr : xb_H → Prop) (x0 : Nat) (x1 : Int32) (x2 : Int32) (x3 : Int32) (y0 : Nat) (h : xb_H) (hw : w_M_call_L110 Qr x0 x1 x2 x3 y0 h) : xb_am l D A σ 10 MC MS h0 (fun v h => v = none ∧ Qr h) (fun _ _ => False) y_M_call.cls y_M_call.name b_M_call 10 ([] : List ExceptionTableEntry) none 110 [(0, .ref x0), (1, .int x1), (2, .int x2), (3, .int x3)] [.ref y0] h 0 0 := by
  unfold w_M_call_L110 at hw
  intro p e s m args below meth c hC H locs ls k n hE hl hR hS hk hn
  obtain ⟨hx, hb, hown, hlocks, htab, hml, hr, hB, hA, hnm⟩ := id hC
  have hts := hB.1.1.at args
  refine lv_iconst (v := 1) hx hb (xb_d D_M_call 59 rfl) (by decide) ?_
  refine lv_goto (tgt := 115) hx hb (xb_d D_M_call 60 rfl) rfl ?_
  exact am_M_call_L115 l hfl D A σ MC MS h0 Qr x0 x1 x2 x3 1 y0 h hw p e s m args below meth c hC H locs ls k n hE (lv_sub hl [0, 1, 2, 3] rfl) hR hS (by omega) (by omega)

set_option maxHeartbeats 4000000 in
set_option maxRecDepth 100000 in
theorem am_M_call_L97 (l : Launch) (hfl : l.flags = pinnedFlags ++ [noTraceFlag]) (D : va_G) (A : Nat → Prop) (σ MC MS : Nat) (h0 : xb_H) (Qr : xb_H → Prop) (x0 : Nat) (x1 : Int32) (x2 : Int32) (x3 : Int32) (x4 : Int32) (h : xb_H) (hw : w_M_call_L97 Qr x0 x1 x2 x3 x4 h) : xb_am l D A σ 10 MC MS h0 (fun v h => v = none ∧ Qr h) (fun _ _ => False) y_M_call.cls y_M_call.name b_M_call 10 ([] : List ExceptionTableEntry) none 97 [(0, .ref x0), (1, .int x1), (2, .int x2), (3, .int x3), (4, .int x4)] [] h 0 0 := by
  unfold w_M_call_L97 at hw
  intro p e s m args below meth c hC H locs ls k n hE hl hR hS hk hn
  obtain ⟨hx, hb, hown, hlocks, htab, hml, hr, hB, hA, hnm⟩ := id hC
  have hts := hB.1.1.at args
  refine lv_aload_n hx hb (xb_d D_M_call 53 rfl) rfl (lv_at hl 0 rfl) ?_
  refine lv_aload_n hx hb (xb_d D_M_call 54 rfl) rfl (lv_at hl 0 rfl) ?_
  obtain ⟨hk1, hw⟩ := hw
  refine xb_getI (C := R_M) (T := F_M) (N := 97) hx hb 8 94 hts fin_M hown hR hk1 (by decide) rfl (by decide) rfl (hts _ m_8158dce5) (fun _ h9 => h9) (xb_d D_M_call 55 rfl) ?_
  refine lv_if_ne (tgt := 110) hx hb (xb_d D_M_call 56 rfl) rfl (fun hc2 => ?_) (fun hc2 => ?_)
  · have hw := hw.1 hc2
    exact am_M_call_L110 l hfl D A σ MC MS h0 Qr x0 x1 x2 x3 x0 h hw p e s m args below meth c hC H locs ls k n hE (lv_sub hl [0, 1, 2, 3] rfl) hR hS (by omega) (by omega)
  · have hw := hw.2 hc2
    refine lv_iload hx hb (xb_d D_M_call 57 rfl) (lv_at hl 4 rfl) ?_
    refine lv_if_ne (tgt := 114) hx hb (xb_d D_M_call 58 rfl) rfl (fun hc3 => ?_) (fun hc3 => ?_)
    · have hw := hw.1 hc3
      refine lv_iconst (v := 0) hx hb (xb_d D_M_call 61 rfl) (by decide) ?_
      exact am_M_call_L115 l hfl D A σ MC MS h0 Qr x0 x1 x2 x3 0 x0 h hw p e s m args below meth c hC H locs ls k n hE (lv_sub hl [0, 1, 2, 3] rfl) hR hS (by omega) (by omega)
    · have hw := hw.2 hc3
      exact am_M_call_L110 l hfl D A σ MC MS h0 Qr x0 x1 x2 x3 x0 h hw p e s m args below meth c hC H locs ls k n hE (lv_sub hl [0, 1, 2, 3] rfl) hR hS (by omega) (by omega)

set_option maxHeartbeats 4000000 in
set_option maxRecDepth 100000 in
theorem am_M_call_L88 (l : Launch) (hfl : l.flags = pinnedFlags ++ [noTraceFlag]) (D : va_G) (A : Nat → Prop) (σ MC MS : Nat) (h0 : xb_H) (Qr : xb_H → Prop) (K45 : Nat → Int32 → Int32 → Int32 → Int32 → Int32 → xb_H → Prop) (hK45 : ∀ (x0 : Nat) (x1 : Int32) (x2 : Int32) (x3 : Int32) (x4 : Int32) (x5 : Int32) (h : xb_H), K45 x0 x1 x2 x3 x4 x5 h → xb_am l D A σ 10 MC MS h0 (fun v h => v = none ∧ Qr h) (fun _ _ => False) y_M_call.cls y_M_call.name b_M_call 10 ([] : List ExceptionTableEntry) none 45 [(0, .ref x0), (1, .int x1), (2, .int x2), (3, .int x3), (4, .int x4), (5, .int x5)] [] h 0 0) (x0 : Nat) (x1 : Int32) (x2 : Int32) (x3 : Int32) (x4 : Int32) (x5 : Int32) (y0 : Int32) (y1 : Nat) (h : xb_H) (hw : w_M_call_L88 K45 Qr x0 x1 x2 x3 x4 x5 y0 y1 h) : xb_am l D A σ 10 MC MS h0 (fun v h => v = none ∧ Qr h) (fun _ _ => False) y_M_call.cls y_M_call.name b_M_call 10 ([] : List ExceptionTableEntry) none 88 [(0, .ref x0), (1, .int x1), (2, .int x2), (3, .int x3), (4, .int x4), (5, .int x5)] [.int y0, .ref y1] h 0 0 := by
  unfold w_M_call_L88 at hw
  intro p e s m args below meth c hC H locs ls k n hE hl hR hS hk hn
  obtain ⟨hx, hb, hown, hlocks, htab, hml, hr, hB, hA, hnm⟩ := id hC
  have hts := hB.1.1.at args
  obtain ⟨hk1, hw⟩ := hw
  obtain ⟨hz2, hw⟩ := hw
  refine xb_putI (C := R_M) (T := F_M) (N := 97) (ty := .boolean) (x := y0) hx hb 8 94 hts fin_M t_M t_M_ok n_M hown hR hS hk1 (by decide) rfl (by decide) rfl (hts _ m_8158dce5) (fun _ h9 => h9) rfl (by decide +kernel) (xb_bn hz2).1 (xb_bn hz2).2 (xb_d D_M_call 50 rfl) (fun H locs hR hS => ?_)
  obtain ⟨h3, eh3⟩ : ∃ x : xb_H, x = xb_I h y1 94 y0 := ⟨_, rfl⟩
  rw [← eh3] at hR
  have hw := hw h3 eh3
  have hE : xb_ext h0 h3 := by rw [eh3]; exact hE
  refine lv_iinc (v := (x5 + 1)) (k := 5) hx hb (xb_d D_M_call 51 rfl) hl rfl (by first | rfl | decide) (by decide) rfl (fun ls hl => ?_)
  have hl : lv_has ls 10 [(5, .int (x5 + 1)), (0, .ref x0), (1, .int x1), (2, .int x2), (3, .int x3), (4, .int x4)] := hl
  refine lv_goto (tgt := 45) hx hb (xb_d D_M_call 52 rfl) rfl ?_
  exact hK45 x0 x1 x2 x3 x4 (x5 + 1) h3 hw p e s m args below meth c hC H locs ls k n hE (lv_sub hl [1, 2, 3, 4, 5, 0] rfl) hR hS (by omega) (by omega)

set_option maxHeartbeats 4000000 in
set_option maxRecDepth 100000 in
theorem am_M_call_L83 (l : Launch) (hfl : l.flags = pinnedFlags ++ [noTraceFlag]) (D : va_G) (A : Nat → Prop) (σ MC MS : Nat) (h0 : xb_H) (Qr : xb_H → Prop) (K45 : Nat → Int32 → Int32 → Int32 → Int32 → Int32 → xb_H → Prop) (hK45 : ∀ (x0 : Nat) (x1 : Int32) (x2 : Int32) (x3 : Int32) (x4 : Int32) (x5 : Int32) (h : xb_H), K45 x0 x1 x2 x3 x4 x5 h → xb_am l D A σ 10 MC MS h0 (fun v h => v = none ∧ Qr h) (fun _ _ => False) y_M_call.cls y_M_call.name b_M_call 10 ([] : List ExceptionTableEntry) none 45 [(0, .ref x0), (1, .int x1), (2, .int x2), (3, .int x3), (4, .int x4), (5, .int x5)] [] h 0 0) (x0 : Nat) (x1 : Int32) (x2 : Int32) (x3 : Int32) (x4 : Int32) (x5 : Int32) (y0 : Nat) (h : xb_H) (hw : w_M_call_L83 K45 Qr x0 x1 x2 x3 x4 x5 y0 h) : xb_am l D A σ 10 MC MS h0 (fun v h => v = none ∧ Qr h) (fun _ _ => False) y_M_call.cls y_M_call.name b_M_call 10 ([] : List ExceptionTableEntry) none 83 [(0, .ref x0), (1, .int x1), (2, .int x2), (3, .int x3), (4, .int x4), (5, .int x5)] [.ref y0] h 0 0 := by
  unfold w_M_call_L83 at hw
  intro p e s m args below meth c hC H locs ls k n hE hl hR hS hk hn
  obtain ⟨hx, hb, hown, hlocks, htab, hml, hr, hB, hA, hnm⟩ := id hC
  have hts := hB.1.1.at args
  refine lv_iconst (v := 1) hx hb (xb_d D_M_call 47 rfl) (by decide) ?_
  refine lv_goto (tgt := 88) hx hb (xb_d D_M_call 48 rfl) rfl ?_
  exact am_M_call_L88 l hfl D A σ MC MS h0 Qr K45 hK45 x0 x1 x2 x3 x4 x5 1 y0 h hw p e s m args below meth c hC H locs ls k n hE (lv_sub hl [0, 1, 2, 3, 4, 5] rfl) hR hS (by omega) (by omega)

set_option maxHeartbeats 4000000 in
set_option maxRecDepth 100000 in
theorem am_M_call_L45 (l : Launch) (hfl : l.flags = pinnedFlags ++ [noTraceFlag]) (D : va_G) (A : Nat → Prop) (σ MC MS : Nat) (h0 : xb_H) (Qr : xb_H → Prop) (n9 : Nat) : ∀ (x0 : Nat) (x1 : Int32) (x2 : Int32) (x3 : Int32) (x4 : Int32) (x5 : Int32) (h : xb_H), w_M_call_L45 Qr n9 x0 x1 x2 x3 x4 x5 h → xb_am l D A σ 10 MC MS h0 (fun v h => v = none ∧ Qr h) (fun _ _ => False) y_M_call.cls y_M_call.name b_M_call 10 ([] : List ExceptionTableEntry) none 45 [(0, .ref x0), (1, .int x1), (2, .int x2), (3, .int x3), (4, .int x4), (5, .int x5)] [] h 0 0 := by
  induction n9 with
  | zero => intro x0 x1 x2 x3 x4 x5 h hw; exact False.elim hw
  | succ n9 ih =>
    intro x0 x1 x2 x3 x4 x5 h hw
    unfold w_M_call_L45 at hw
    intro p e s m args below meth c hC H locs ls k n hE hl hR hS hk hn
    obtain ⟨hx, hb, hown, hlocks, htab, hml, hr, hB, hA, hnm⟩ := id hC
    have hts := hB.1.1.at args
    refine lv_iload hx hb (xb_d D_M_call 27 rfl) (lv_at hl 5 rfl) ?_
    refine lv_iload_n hx hb (xb_d D_M_call 28 rfl) rfl (lv_at hl 2 rfl) ?_
    refine lv_icmp_ge (tgt := 97) hx hb (xb_d D_M_call 29 rfl) rfl (fun hc1 => ?_) (fun hc1 => ?_)
    · have hw := hw.1 hc1
      exact am_M_call_L97 l hfl D A σ MC MS h0 Qr x0 x1 x2 x3 x4 h hw p e s m args below meth c hC H locs ls k n hE (lv_sub hl [0, 1, 2, 3, 4] rfl) hR hS (by omega) (by omega)
    · have hw := hw.2 hc1
      refine lv_iload hx hb (xb_d D_M_call 30 rfl) (lv_at hl 4 rfl) ?_
      refine lv_if_eq (tgt := 97) hx hb (xb_d D_M_call 31 rfl) rfl (fun hc2 => ?_) (fun hc2 => ?_)
      · have hw := hw.1 hc2
        exact am_M_call_L97 l hfl D A σ MC MS h0 Qr x0 x1 x2 x3 x4 h hw p e s m args below meth c hC H locs ls k n hE (lv_sub hl [0, 1, 2, 3, 4] rfl) hR hS (by omega) (by omega)
      · have hw := hw.2 hc2
        refine lv_aload_n hx hb (xb_d D_M_call 32 rfl) rfl (lv_at hl 0 rfl) ?_
        refine lv_aload_n hx hb (xb_d D_M_call 33 rfl) rfl (lv_at hl 0 rfl) ?_
        obtain ⟨hk3, hw⟩ := hw
        refine xb_getI (C := R_M) (T := F_M) (N := 97) hx hb 8 94 hts fin_M hown hR hk3 (by decide) rfl (by decide) rfl (hts _ m_8158dce5) (fun _ h9 => h9) (xb_d D_M_call 34 rfl) ?_
        refine lv_if_ne (tgt := 83) hx hb (xb_d D_M_call 35 rfl) rfl (fun hc4 => ?_) (fun hc4 => ?_)
        · have hw := hw.1 hc4
          exact am_M_call_L83 l hfl D A σ MC MS h0 Qr (w_M_call_L45 Qr n9) ih x0 x1 x2 x3 x4 x5 x0 h hw p e s m args below meth c hC H locs ls k n hE (lv_sub hl [0, 1, 2, 3, 4, 5] rfl) hR hS (by omega) (by omega)
        · have hw := hw.2 hc4
          refine lv_aload_n hx hb (xb_d D_M_call 36 rfl) rfl (lv_at hl 0 rfl) ?_
          refine xb_getP (C := R_M) (T := F_M) (N := 97) hx hb 8 75 hts fin_M hown hR hk3 (by decide) rfl (by decide) rfl (hts _ m_6b215119) (fun _ h9 => h9) (xb_d D_M_call 37 rfl) ?_
          obtain ⟨b5, eb5, hw⟩ := hw
          refine xb_some eb5 ?_
          refine lv_iload_n hx hb (xb_d D_M_call 38 rfl) rfl (lv_at hl 3 rfl) ?_
          refine lv_iload hx hb (xb_d D_M_call 39 rfl) (lv_at hl 5 rfl) ?_
          refine lv_iadd hx hb (xb_d D_M_call 40 rfl) ?_
          obtain ⟨hk7, hw⟩ := hw
          obtain ⟨hi6, hw⟩ := hw
          refine xb_bald hx hb hR hk7 hi6 (xb_d D_M_call 41 rfl) ?_
          refine lv_aload_n hx hb (xb_d D_M_call 42 rfl) rfl (lv_at hl 0 rfl) ?_
          refine lv_iload_n hx hb (xb_d D_M_call 43 rfl) rfl (lv_at hl 1 rfl) ?_
          refine lv_iload hx hb (xb_d D_M_call 44 rfl) (lv_at hl 5 rfl) ?_
          refine xb_call (D := D) (A := A) (σ := σ) (h := h) (d := 9) (mc := 0) (ms := 0) (maxL := 4) (rest := [.int (xb_i h b5 (Int32.toNatClampNeg (x3 + x5))), .ref x0]) (av := [.ref x0, .int x1, .int x5]) (fun T hT X => by obtain ⟨cb, r1, r2, r3⟩ := xb_recv (ci := 8) hR rfl hk3 (by decide); exact xt_invV X hx hown (hts _ m_78f2aca1) (hts _ m_b10bc8fa) (hts _ m_7dc37ff6) (xt_sigOf (hts _ m_3a048bd5)) nm_M_parameterOf (by rw [hT]; exact r1) r2 r3 (g := F0 m 77 ls [.int x5, .int x1, .ref x0, .int (xb_i h b5 (Int32.toNatClampNeg (x3 + x5))), .ref x0]) rfl (argsL := [.int x1, .int x5]) (rest := [.int (xb_i h b5 (Int32.toNatClampNeg (x3 + x5))), .ref x0]) rfl rfl (by rw [hb]; exact (xb_d D_M_call 45 rfl))) (ok_M_parameterOf l hfl D A σ x0 x1 x5 h _ hw) (hml.trans hl.1.symm) (by rw [hb]; exact (xb_d D_M_call 45 rfl)) (Nat.le_of_ble_eq_true rfl) (Nat.le_of_ble_eq_true rfl) (Nat.le_of_ble_eq_true rfl) (show k + 0 ≤ MC by omega) (show n + 0 ≤ MS by omega) (xt_w1 hB.1 m_3a048bd5) (xt_cdOf hB.1 m_3a048bd5) (hts _ m_d5ed7bed) hB hR hS hA (fun vv h8 H locs hq hEh8 hR hS => ?_) (fun XX ax h8 H locs hq hEh8 hex hR hS => ?_)
          · obtain ⟨r9, rfl, hw⟩ := hq
            have hw := hw hEh8
            have hE := hE.tr hEh8
            refine W.eq (g2 := F0 m 80 ls [.int r9, .int (xb_i h b5 (Int32.toNatClampNeg (x3 + x5))), .ref x0]) rfl ?_
            refine lv_icmp_eq (tgt := 87) hx hb (xb_d D_M_call 46 rfl) rfl (fun hc10 => ?_) (fun hc10 => ?_)
            · have hw := hw.1 hc10
              refine lv_iconst (v := 0) hx hb (xb_d D_M_call 49 rfl) (by decide) ?_
              exact am_M_call_L88 l hfl D A σ MC MS h0 Qr (w_M_call_L45 Qr n9) ih x0 x1 x2 x3 x4 x5 0 x0 h8 hw p e s m args below meth c hC H locs ls k n hE (lv_sub hl [0, 1, 2, 3, 4, 5] rfl) hR hS (by omega) (by omega)
            · have hw := hw.2 hc10
              exact am_M_call_L83 l hfl D A σ MC MS h0 Qr (w_M_call_L45 Qr n9) ih x0 x1 x2 x3 x4 x5 x0 h8 hw p e s m args below meth c hC H locs ls k n hE (lv_sub hl [0, 1, 2, 3, 4, 5] rfl) hR hS (by omega) (by omega)
          · exact False.elim hq

set_option maxHeartbeats 4000000 in
set_option maxRecDepth 100000 in
theorem am_M_call_L40 (l : Launch) (hfl : l.flags = pinnedFlags ++ [noTraceFlag]) (D : va_G) (A : Nat → Prop) (σ MC MS : Nat) (h0 : xb_H) (Qr : xb_H → Prop) (x0 : Nat) (x1 : Int32) (x2 : Int32) (x3 : Int32) (y0 : Int32) (h : xb_H) (hw : w_M_call_L40 Qr x0 x1 x2 x3 y0 h) : xb_am l D A σ 10 MC MS h0 (fun v h => v = none ∧ Qr h) (fun _ _ => False) y_M_call.cls y_M_call.name b_M_call 10 ([] : List ExceptionTableEntry) none 40 [(0, .ref x0), (1, .int x1), (2, .int x2), (3, .int x3)] [.int y0] h 0 0 := by
  unfold w_M_call_L40 at hw
  intro p e s m args below meth c hC H locs ls k n hE hl hR hS hk hn
  obtain ⟨hx, hb, hown, hlocks, htab, hml, hr, hB, hA, hnm⟩ := id hC
  have hts := hB.1.1.at args
  refine lv_istore hx hb (xb_d D_M_call 24 rfl) hl (by decide) rfl (fun ls hl => ?_)
  have hl : lv_has ls 10 [(4, .int y0), (0, .ref x0), (1, .int x1), (2, .int x2), (3, .int x3)] := hl
  refine lv_iconst (v := 0) hx hb (xb_d D_M_call 25 rfl) (by decide) ?_
  refine lv_istore hx hb (xb_d D_M_call 26 rfl) hl (by decide) rfl (fun ls hl => ?_)
  have hl : lv_has ls 10 [(5, .int 0), (4, .int y0), (0, .ref x0), (1, .int x1), (2, .int x2), (3, .int x3)] := hl
  obtain ⟨n8, hw⟩ := hw
  exact am_M_call_L45 l hfl D A σ MC MS h0 Qr n8 x0 x1 x2 x3 y0 0 h hw p e s m args below meth c hC H locs ls k n hE (lv_sub hl [2, 3, 4, 5, 1, 0] rfl) hR hS (by omega) (by omega)

set_option maxHeartbeats 4000000 in
set_option maxRecDepth 100000 in
theorem am_M_call_L35 (l : Launch) (hfl : l.flags = pinnedFlags ++ [noTraceFlag]) (D : va_G) (A : Nat → Prop) (σ MC MS : Nat) (h0 : xb_H) (Qr : xb_H → Prop) (x0 : Nat) (x1 : Int32) (x2 : Int32) (x3 : Int32) (h : xb_H) (hw : w_M_call_L35 Qr x0 x1 x2 x3 h) : xb_am l D A σ 10 MC MS h0 (fun v h => v = none ∧ Qr h) (fun _ _ => False) y_M_call.cls y_M_call.name b_M_call 10 ([] : List ExceptionTableEntry) none 35 [(0, .ref x0), (1, .int x1), (2, .int x2), (3, .int x3)] [] h 0 0 := by
  unfold w_M_call_L35 at hw
  intro p e s m args below meth c hC H locs ls k n hE hl hR hS hk hn
  obtain ⟨hx, hb, hown, hlocks, htab, hml, hr, hB, hA, hnm⟩ := id hC
  have hts := hB.1.1.at args
  refine lv_iconst (v := 1) hx hb (xb_d D_M_call 21 rfl) (by decide) ?_
  refine lv_goto (tgt := 40) hx hb (xb_d D_M_call 22 rfl) rfl ?_
  exact am_M_call_L40 l hfl D A σ MC MS h0 Qr x0 x1 x2 x3 1 h hw p e s m args below meth c hC H locs ls k n hE (lv_sub hl [0, 1, 2, 3] rfl) hR hS (by omega) (by omega)

set_option maxHeartbeats 4000000 in
set_option maxRecDepth 100000 in
theorem ok_M_call (l : Launch) (hfl : l.flags = pinnedFlags ++ [noTraceFlag]) (D : va_G) (A : Nat → Prop) (σ : Nat) (x0 : Nat) (x1 : Int32) (h : xb_H) (Qr : xb_H → Prop) (hw : w_M_call x0 x1 h Qr) : xt_Met l y_M_call [.code y_M_call b_M_call 10 none] (xb_rm 10 0 0) (xb_Pc D A σ h [.ref x0, .int x1]) (xb_Qc D A h (fun v h => v = none ∧ Qr h) (fun _ _ => False)) 0 0 A := by
  refine xb_ofAm (cc := b_M_call) (by decide) (Nat.le_of_ble_eq_true rfl) ?_
  unfold w_M_call at hw
  show xb_am l D A σ 10 0 0 h (fun v h => v = none ∧ Qr h) (fun _ _ => False) y_M_call.cls y_M_call.name b_M_call 10 ([] : List ExceptionTableEntry) none 0 [(0, .ref x0), (1, .int x1)] [] h 0 0
  obtain ⟨MC, hMC⟩ : ∃ x, x = 0 := ⟨_, rfl⟩
  obtain ⟨MS, hMS⟩ : ∃ x, x = 0 := ⟨_, rfl⟩
  rw [show xb_am l D A σ 10 0 0 = xb_am l D A σ 10 MC MS by rw [hMC, hMS]]
  obtain ⟨h0, hh0⟩ : ∃ x, x = h := ⟨_, rfl⟩
  rw [show xb_am l D A σ 10 MC MS h = xb_am l D A σ 10 MC MS h0 by rw [hh0]]
  intro p e s m args below meth c hC H locs ls k n hE hl hR hS hk hn
  obtain ⟨hx, hb, hown, hlocks, htab, hml, hr, hB, hA, hnm⟩ := id hC
  have hts := hB.1.1.at args
  refine lv_aload_n hx hb (xb_d D_M_call 0 rfl) rfl (lv_at hl 0 rfl) ?_
  refine lv_iload_n hx hb (xb_d D_M_call 1 rfl) rfl (lv_at hl 1 rfl) ?_
  obtain ⟨hk1, hw⟩ := hw
  refine xb_call (D := D) (A := A) (σ := σ) (h := h) (d := 9) (mc := 0) (ms := 0) (maxL := 3) (rest := []) (av := [.ref x0, .int x1]) (fun T hT X => by obtain ⟨cb, r1, r2, r3⟩ := xb_recv (ci := 8) hR rfl hk1 (by decide); exact xt_invV X hx hown (hts _ m_e2ba22cc) (hts _ m_0a57baa5) (hts _ m_6f48d886) (xt_sigOf (hts _ m_14db4a29)) nm_M_parametersOf (by rw [hT]; exact r1) r2 r3 (g := F0 m 2 ls [.int x1, .ref x0]) rfl (argsL := [.int x1]) (rest := []) rfl rfl (by rw [hb]; exact (xb_d D_M_call 2 rfl))) (ok_M_parametersOf l hfl D A σ x0 x1 h _ hw) (hml.trans hl.1.symm) (by rw [hb]; exact (xb_d D_M_call 2 rfl)) (Nat.le_of_ble_eq_true rfl) (Nat.le_of_ble_eq_true rfl) (Nat.le_of_ble_eq_true rfl) (show k + 0 ≤ MC by omega) (show n + 0 ≤ MS by omega) (xt_w1 hB.1 m_14db4a29) (xt_cdOf hB.1 m_14db4a29) (hts _ m_d5ed7bed) hB hR hS hA (fun vv h2 H locs hq hEh2 hR hS => ?_) (fun XX ax h2 H locs hq hEh2 hex hR hS => ?_)
  · obtain ⟨r3, rfl, hw⟩ := hq
    have hw := hw hEh2
    have hE := hE.tr hEh2
    refine W.eq (g2 := F0 m 5 ls [.int r3]) rfl ?_
    refine lv_istore_n hx hb (xb_d D_M_call 3 rfl) rfl hl (by decide) rfl (fun ls hl => ?_)
    have hl : lv_has ls 10 [(2, .int r3), (0, .ref x0), (1, .int x1)] := hl
    refine lv_aload_n hx hb (xb_d D_M_call 4 rfl) rfl (lv_at hl 1 rfl) ?_
    have hk1 : xb_k h2 x0 = 9 := hEh2.k hk1
    refine xb_getI (C := R_M) (T := F_M) (N := 97) hx hb 8 76 hts fin_M hown hR hk1 (by decide) rfl (by decide) rfl (hts _ m_d6ddfcd8) (fun _ h9 => h9) (xb_d D_M_call 5 rfl) ?_
    refine lv_iload_n hx hb (xb_d D_M_call 6 rfl) rfl (lv_at hl 0 rfl) ?_
    refine lv_isub hx hb (xb_d D_M_call 7 rfl) ?_
    obtain ⟨v4, ev4⟩ : ∃ x : Int32, x = ((xb_i h2 x0 76) - r3) := ⟨_, rfl⟩
    have hw := hw v4 ev4
    refine xt_numi (y := v4) ev4.symm ?_
    refine lv_istore_n hx hb (xb_d D_M_call 8 rfl) rfl hl (by decide) rfl (fun ls hl => ?_)
    have hl : lv_has ls 10 [(3, .int v4), (2, .int r3), (0, .ref x0), (1, .int x1)] := hl
    refine lv_aload_n hx hb (xb_d D_M_call 9 rfl) rfl (lv_at hl 2 rfl) ?_
    refine xb_getI (C := R_M) (T := F_M) (N := 97) hx hb 8 68 hts fin_M hown hR hk1 (by decide) rfl (by decide) rfl (hts _ m_11712ae1) (fun _ h9 => h9) (xb_d D_M_call 10 rfl) ?_
    refine lv_if_eq (tgt := 35) hx hb (xb_d D_M_call 11 rfl) rfl (fun hc5 => ?_) (fun hc5 => ?_)
    · have hw := hw.1 hc5
      exact am_M_call_L35 l hfl D A σ MC MS h0 Qr x0 x1 r3 v4 h2 hw p e s m args below meth c hC H locs ls k n hE (lv_sub hl [2, 3, 1, 0] rfl) hR hS (by omega) (by omega)
    · have hw := hw.2 hc5
      refine lv_iload_n hx hb (xb_d D_M_call 12 rfl) rfl (lv_at hl 0 rfl) ?_
      refine lv_aload_n hx hb (xb_d D_M_call 13 rfl) rfl (lv_at hl 2 rfl) ?_
      refine xb_getP (C := R_M) (T := F_M) (N := 97) hx hb 8 80 hts fin_M hown hR hk1 (by decide) rfl (by decide) rfl (hts _ m_24ba043b) (fun _ h9 => h9) (xb_d D_M_call 14 rfl) ?_
      obtain ⟨b6, eb6, hw⟩ := hw
      refine xb_some eb6 ?_
      refine lv_aload_n hx hb (xb_d D_M_call 15 rfl) rfl (lv_at hl 2 rfl) ?_
      refine xb_getI (C := R_M) (T := F_M) (N := 97) hx hb 8 81 hts fin_M hown hR hk1 (by decide) rfl (by decide) rfl (hts _ m_65743087) (fun _ h9 => h9) (xb_d D_M_call 16 rfl) ?_
      refine lv_iconst (v := 1) hx hb (xb_d D_M_call 17 rfl) (by decide) ?_
      refine lv_isub hx hb (xb_d D_M_call 18 rfl) ?_
      obtain ⟨hk8, hw⟩ := hw
      obtain ⟨hi7, hw⟩ := hw
      refine xb_iald hx hb hR hk8 hi7 (xb_d D_M_call 19 rfl) ?_
      refine lv_icmp_lt (tgt := 39) hx hb (xb_d D_M_call 20 rfl) rfl (fun hc9 => ?_) (fun hc9 => ?_)
      · have hw := hw.1 hc9
        refine lv_iconst (v := 0) hx hb (xb_d D_M_call 23 rfl) (by decide) ?_
        exact am_M_call_L40 l hfl D A σ MC MS h0 Qr x0 x1 r3 v4 0 h2 hw p e s m args below meth c hC H locs ls k n hE (lv_sub hl [2, 3, 1, 0] rfl) hR hS (by omega) (by omega)
      · have hw := hw.2 hc9
        exact am_M_call_L35 l hfl D A σ MC MS h0 Qr x0 x1 r3 v4 h2 hw p e s m args below meth c hC H locs ls k n hE (lv_sub hl [2, 3, 1, 0] rfl) hR hS (by omega) (by omega)
  · exact False.elim hq

