theorem m_a395e4df : (.methodLink "StackHost$World" 112 y_World_isTooMuch : Cond) ∈ xt_tbl := xt_in (xt_t6 (List.mem_of_getElem? (i := 186) (by decide +kernel))) (by decide +kernel)
theorem m_03b13de7 : (.instanceMethod y_World_isTooMuch : Cond) ∈ xt_tbl := xt_in (xt_t6 (List.mem_of_getElem? (i := 188) (by decide +kernel))) (by decide +kernel)
theorem m_6a859cbf : (.selects "StackHost$World" y_World_isTooMuch y_World_isTooMuch : Cond) ∈ xt_tbl := xt_in (xt_v5 (q := (⟨"StackHost$World", "isTooMuch", "(LStackHost$StackModule;)Z"⟩, 16)) (List.mem_of_getElem? (i := 7) (by decide +kernel))) (by decide +kernel)
theorem m_b7092789 : (.code y_World_isTooMuch b_World_isTooMuch 2 (some .boolean) : Cond) ∈ xt_tbl := xt_in (xt_t6 (List.mem_of_getElem? (i := 189) (by decide +kernel))) (by decide +kernel)
theorem m_f17f3a5b : (.methodLink "StackHost$World" 117 y_World_elementsOf : Cond) ∈ xt_tbl := xt_in (xt_t6 (List.mem_of_getElem? (i := 199) (by decide +kernel))) (by decide +kernel)
theorem m_5695b808 : (.instanceMethod y_World_elementsOf : Cond) ∈ xt_tbl := xt_in (xt_t6 (List.mem_of_getElem? (i := 201) (by decide +kernel))) (by decide +kernel)
theorem m_2d196d10 : (.selects "StackHost$World" y_World_elementsOf y_World_elementsOf : Cond) ∈ xt_tbl := xt_in (xt_v5 (q := (⟨"StackHost$World", "elementsOf", "(LStackHost$StackModule;)J"⟩, 16)) (List.mem_of_getElem? (i := 9) (by decide +kernel))) (by decide +kernel)
theorem m_768ff8b8 : (.code y_World_elementsOf b_World_elementsOf 2 (some .long) : Cond) ∈ xt_tbl := xt_in (xt_t6 (List.mem_of_getElem? (i := 202) (by decide +kernel))) (by decide +kernel)
theorem m_c71d163d : (.methodLink "StackHost$World" 121 y_World_rowBeyond : Cond) ∈ xt_tbl := xt_in (xt_t6 (List.mem_of_getElem? (i := 203) (by decide +kernel))) (by decide +kernel)
theorem m_7d0ee469 : (.instanceMethod y_World_rowBeyond : Cond) ∈ xt_tbl := xt_in (xt_t6 (List.mem_of_getElem? (i := 205) (by decide +kernel))) (by decide +kernel)
theorem m_5a8bbecb : (.selects "StackHost$World" y_World_rowBeyond y_World_rowBeyond : Cond) ∈ xt_tbl := xt_in (xt_v5 (q := (⟨"StackHost$World", "rowBeyond", "(LStackHost$StackModule;LStackHost$Row;J)I"⟩, 16)) (List.mem_of_getElem? (i := 10) (by decide +kernel))) (by decide +kernel)
theorem m_19f137c3 : (.code y_World_rowBeyond b_World_rowBeyond 6 (some .int) : Cond) ∈ xt_tbl := xt_in (xt_t6 (List.mem_of_getElem? (i := 206) (by decide +kernel))) (by decide +kernel)
theorem m_61d5314b : (.methodLink "StackHost$World" 128 y_World_bytesOf : Cond) ∈ xt_tbl := xt_in (xt_t6 (List.mem_of_getElem? (i := 220) (by decide +kernel))) (by decide +kernel)
theorem m_5368c241 : (.instanceMethod y_World_bytesOf : Cond) ∈ xt_tbl := xt_in (xt_t6 (List.mem_of_getElem? (i := 222) (by decide +kernel))) (by decide +kernel)
theorem m_9a728af6 : (.selects "StackHost$World" y_World_bytesOf y_World_bytesOf : Cond) ∈ xt_tbl := xt_in (xt_v5 (q := (⟨"StackHost$World", "bytesOf", "(LStackHost$StackModule;)J"⟩, 16)) (List.mem_of_getElem? (i := 13) (by decide +kernel))) (by decide +kernel)
theorem m_e936afdd : (.code y_World_bytesOf b_World_bytesOf 2 (some .long) : Cond) ∈ xt_tbl := xt_in (xt_t6 (List.mem_of_getElem? (i := 223) (by decide +kernel))) (by decide +kernel)
theorem m_f2b23331 : (.methodLink "StackHost$World" 131 y_World_make : Cond) ∈ xt_tbl := xt_in (xt_t6 (List.mem_of_getElem? (i := 230) (by decide +kernel))) (by decide +kernel)
theorem m_b9f0af1e : (.instanceMethod y_World_make : Cond) ∈ xt_tbl := xt_in (xt_t6 (List.mem_of_getElem? (i := 232) (by decide +kernel))) (by decide +kernel)
theorem m_edfdccb6 : (.selects "StackHost$World" y_World_make y_World_make : Cond) ∈ xt_tbl := xt_in (xt_v5 (q := (⟨"StackHost$World", "make", "(LStackHost$StackModule;)I"⟩, 16)) (List.mem_of_getElem? (i := 14) (by decide +kernel))) (by decide +kernel)
theorem m_cb31aab0 : (.code y_World_make b_World_make 4 (some .int) : Cond) ∈ xt_tbl := xt_in (xt_t6 (List.mem_of_getElem? (i := 233) (by decide +kernel))) (by decide +kernel)
theorem m_5509d456 : (.methodLink "StackHost$World" 109 y_World_refuse : Cond) ∈ xt_tbl := xt_in (xt_t6 (List.mem_of_getElem? (i := 182) (by decide +kernel))) (by decide +kernel)
theorem m_9799a19f : (.instanceMethod y_World_refuse : Cond) ∈ xt_tbl := xt_in (xt_t6 (List.mem_of_getElem? (i := 184) (by decide +kernel))) (by decide +kernel)
theorem m_2036831f : (.selects "StackHost$World" y_World_refuse y_World_refuse : Cond) ∈ xt_tbl := xt_in (xt_v5 (q := (⟨"StackHost$World", "refuse", "(II)I"⟩, 16)) (List.mem_of_getElem? (i := 6) (by decide +kernel))) (by decide +kernel)
theorem m_5cce4b93 : (.code y_World_refuse b_World_refuse 3 (some .int) : Cond) ∈ xt_tbl := xt_in (xt_t6 (List.mem_of_getElem? (i := 185) (by decide +kernel))) (by decide +kernel)
theorem m_491f6485 : (.methodLink "StackHost$World" 105 y_World_lookUp : Cond) ∈ xt_tbl := xt_in (xt_t6 (List.mem_of_getElem? (i := 117) (by decide +kernel))) (by decide +kernel)
theorem m_a81bb0a3 : (.instanceMethod y_World_lookUp : Cond) ∈ xt_tbl := xt_in (xt_t6 (List.mem_of_getElem? (i := 119) (by decide +kernel))) (by decide +kernel)
theorem m_88e27df3 : (.selects "StackHost$World" y_World_lookUp y_World_lookUp : Cond) ∈ xt_tbl := xt_in (xt_v5 (q := (⟨"StackHost$World", "lookUp", "(LStackHost$StackModule;I)I"⟩, 16)) (List.mem_of_getElem? (i := 2) (by decide +kernel))) (by decide +kernel)
theorem m_81208317 : (.code y_World_lookUp b_World_lookUp 10 (some .int) : Cond) ∈ xt_tbl := xt_in (xt_t6 (List.mem_of_getElem? (i := 120) (by decide +kernel))) (by decide +kernel)
theorem nm_World_isTooMuch : xt_nm y_World_isTooMuch 1 := ⟨by decide +kernel, by decide +kernel⟩
theorem nm_World_elementsOf : xt_nm y_World_elementsOf 1 := ⟨by decide +kernel, by decide +kernel⟩
theorem nm_World_rowBeyond : xt_nm y_World_rowBeyond 3 := ⟨by decide +kernel, by decide +kernel⟩
theorem nm_World_bytesOf : xt_nm y_World_bytesOf 1 := ⟨by decide +kernel, by decide +kernel⟩
theorem nm_World_make : xt_nm y_World_make 1 := ⟨by decide +kernel, by decide +kernel⟩
theorem nm_World_refuse : xt_nm y_World_refuse 2 := ⟨by decide +kernel, by decide +kernel⟩
theorem nm_World_lookUp : xt_nm y_World_lookUp 2 := ⟨by decide +kernel, by decide +kernel⟩
set_option maxRecDepth 100000 in
def T_World_link : List (Nat × Instr × Nat) := [(0, .aload_n 0, 1), (1, .iconst 0, 1), (2, .putfield 85, 3), (5, .aload_n 0, 1), (6, .iconst 0, 1), (7, .putfield 88, 3), (10, .aload_n 0, 1), (11, .getfield 45, 3), (14, .iconst 0, 1), (15, .putfield 91, 3), (18, .aload_n 0, 1), (19, .getfield 48, 3), (22, .iconst 0, 1), (23, .putfield 91, 3), (26, .aload_n 0, 1), (27, .aconst_null, 1), (28, .putfield 94, 3), (31, .aload_n 0, 1), (32, .aconst_null, 1), (33, .putfield 98, 3), (36, .iconst 0, 1), (37, .istore_n 2, 1), (38, .iload_n 2, 1), (39, .aload_n 1, 1), (40, .getfield 102, 3), (43, .invokevirtual 75, 3), (46, .if_icmp .ge 27, 3), (49, .aload_n 0, 1), (50, .aload_n 1, 1), (51, .iload_n 2, 1), (52, .invokevirtual 105, 3), (55, .istore_n 3, 1), (56, .iload_n 3, 1), (57, .ifCond .eq 10, 3), (60, .aload_n 0, 1), (61, .iload_n 3, 1), (62, .iload_n 2, 1), (63, .invokevirtual 109, 3), (66, .ireturn, 1), (67, .iinc 2 1, 3), (70, .goto (-32), 3), (73, .aload_n 0, 1), (74, .aload_n 1, 1), (75, .invokevirtual 112, 3), (78, .ifCond .eq 11, 3), (81, .aload_n 0, 1), (82, .bipush 44, 2), (84, .iconst 0, 1), (85, .invokevirtual 109, 3), (88, .ireturn, 1), (89, .aload_n 0, 1), (90, .aload_n 1, 1), (91, .aload_n 1, 1), (92, .getfield 116, 3), (95, .aload_n 0, 1), (96, .aload_n 1, 1), (97, .invokevirtual 117, 3), (100, .invokevirtual 121, 3), (103, .istore_n 2, 1), (104, .iload_n 2, 1), (105, .iconst (-1), 1), (106, .if_icmp .eq 11, 3), (109, .aload_n 0, 1), (110, .bipush 45, 2), (112, .iload_n 2, 1), (113, .invokevirtual 109, 3), (116, .ireturn, 1), (117, .aload_n 0, 1), (118, .aload_n 1, 1), (119, .aload_n 1, 1), (120, .getfield 125, 3), (123, .aload_n 0, 1), (124, .aload_n 1, 1), (125, .invokevirtual 128, 3), (128, .invokevirtual 121, 3), (131, .istore_n 2, 1), (132, .iload_n 2, 1), (133, .iconst (-1), 1), (134, .if_icmp .eq 11, 3), (137, .aload_n 0, 1), (138, .bipush 46, 2), (140, .iload_n 2, 1), (141, .invokevirtual 109, 3), (144, .ireturn, 1), (145, .aload_n 0, 1), (146, .aload_n 1, 1), (147, .invokevirtual 131, 3), (150, .ireturn, 1)]
theorem D_World_link : ∀ q ∈ T_World_link, decode b_World_link q.1 = .ok (q.2.1, q.2.2) := by decide +kernel

set_option maxHeartbeats 4000000 in
set_option maxRecDepth 100000 in
theorem am_World_link_L38 (l : Launch) (hfl : l.flags = pinnedFlags ++ [noTraceFlag]) (D : va_G) (A : Nat → Prop) (σ MC MS : Nat) (h0 : xb_H) (Qr : Int32 → xb_H → Nat → Nat → Prop) (n9 : Nat) : ∀ (x0 : Nat) (x1 : Nat) (x2 : Int32) (h : xb_H) (bc : Nat) (bs : Nat), w_World_link_L38 σ Qr n9 x0 x1 x2 h bc bs → xb_am l D A σ 7 MC MS h0 (fun v h bc bs => ∃ r, v = some (.int r) ∧ Qr r h bc bs) (fun _ _ _ _ => False) y_World_link.cls y_World_link.name b_World_link 4 ([] : List ExceptionTableEntry) (some .int) 38 [(0, .ref x0), (1, .ref x1), (2, .int x2)] [] h bc bs := by
  induction n9 with
  | zero => intro x0 x1 x2 h bc bs hw; exact False.elim hw
  | succ n9 ih =>
    intro x0 x1 x2 h bc bs hw
    unfold w_World_link_L38 at hw
    intro p e s m args below meth c hC H locs ls k n hE hl hR hS hk hn
    obtain ⟨hx, hb, hown, hlocks, htab, hml, hr, hB, hA, hnm⟩ := id hC
    have hts := hB.1.1.at args
    refine lv_iload_n hx hb (xb_d D_World_link 22 rfl) rfl (lv_at hl 2 rfl) ?_
    refine lv_aload_n hx hb (xb_d D_World_link 23 rfl) rfl (lv_at hl 1 rfl) ?_
    obtain ⟨hk1, hw⟩ := hw
    refine xb_getP (C := R_StackModule) (T := F_StackModule) (N := 19) hx hb 2 3 hts fin_StackModule hown hR hk1 (by decide) rfl (by decide) rfl (hts _ m_73c47404) (fun _ h9 => h9) (xb_d D_World_link 24 rfl) ?_
    obtain ⟨b2, eb2, hw⟩ := hw
    refine xb_some eb2 ?_
    obtain ⟨hk3, hw⟩ := hw
    refine xb_call0 (D := D) (A := A) (σ := σ) (h := h) (d := 2) (maxL := 1) (rest := [.int x2]) (av := [.ref b2]) (fun T hT X => by obtain ⟨cb9, ra9, rb9, rc9⟩ := xb_recv (ci := 1) hR rfl hk3 (by decide); exact xt_invV X hx hown (hts _ m_5b8308b9) (hts _ m_ded65609) (hts _ m_a4161156) (xt_sigOf (hts _ m_83ba3721)) nm_Row_lines (by rw [hT]; exact ra9) rb9 rc9 (g := F0 m 43 ls [.ref b2, .int x2]) rfl (argsL := []) (rest := [.int x2]) rfl rfl (by rw [hb]; exact (xb_d D_World_link 25 rfl))) (ok_Row_lines l hfl D A σ b2 h _ hw) (hml.trans hl.1.symm) (by rw [hb]; exact (xb_d D_World_link 25 rfl)) (Nat.le_of_ble_eq_true rfl) (Nat.le_of_ble_eq_true rfl) (Nat.le_of_ble_eq_true rfl) (show k ≤ MC by omega) (show n ≤ MS by omega) (xt_w1 hB.1 m_83ba3721) (xt_cdOf hB.1 m_83ba3721) (hts _ m_c1bef504) hB hR hS hA (fun vv h4 H locs hq hEh4 hR hS => ?_)
    obtain ⟨r5, rfl, hw⟩ := hq
    have hw := hw hEh4
    have hE := hE.tr hEh4
    refine W.eq (g2 := F0 m 46 ls [.int r5, .int x2]) rfl ?_
    refine lv_icmp_ge (tgt := 73) hx hb (xb_d D_World_link 26 rfl) rfl (fun hc6 => ?_) (fun hc6 => ?_)
    · have hw := hw.1 hc6
      refine lv_aload_n hx hb (xb_d D_World_link 41 rfl) rfl (lv_at hl 0 rfl) ?_
      refine lv_aload_n hx hb (xb_d D_World_link 42 rfl) rfl (lv_at hl 1 rfl) ?_
      obtain ⟨hk7, hw⟩ := hw
      refine xb_call0 (D := D) (A := A) (σ := σ) (h := h4) (d := 4) (maxL := 2) (rest := []) (av := [.ref x0, .ref x1]) (fun T hT X => by obtain ⟨cb9, ra9, rb9, rc9⟩ := xb_recv (ci := 6) hR rfl hk7 (by decide); exact xt_invV X hx hown (hts _ m_a395e4df) (hts _ m_03b13de7) (hts _ m_6a859cbf) (xt_sigOf (hts _ m_b7092789)) nm_World_isTooMuch (by rw [hT]; exact ra9) rb9 rc9 (g := F0 m 75 ls [.ref x1, .ref x0]) rfl (argsL := [.ref x1]) (rest := []) rfl rfl (by rw [hb]; exact (xb_d D_World_link 43 rfl))) (ok_World_isTooMuch l hfl D A σ x0 x1 h4 _ hw) (hml.trans hl.1.symm) (by rw [hb]; exact (xb_d D_World_link 43 rfl)) (Nat.le_of_ble_eq_true rfl) (Nat.le_of_ble_eq_true rfl) (Nat.le_of_ble_eq_true rfl) (show k ≤ MC by omega) (show n ≤ MS by omega) (xt_w1 hB.1 m_b7092789) (xt_cdOf hB.1 m_b7092789) (hts _ m_4534b440) hB hR hS hA (fun vv h8 H locs hq hEh8 hR hS => ?_)
      obtain ⟨r9, rfl, hw⟩ := hq
      have hw := hw hEh8
      have hE := hE.tr hEh8
      refine W.eq (g2 := F0 m 78 ls [.int r9]) rfl ?_
      refine lv_if_eq (tgt := 89) hx hb (xb_d D_World_link 44 rfl) rfl (fun hc10 => ?_) (fun hc10 => ?_)
      · have hw := hw.1 hc10
        refine lv_aload_n hx hb (xb_d D_World_link 50 rfl) rfl (lv_at hl 0 rfl) ?_
        refine lv_aload_n hx hb (xb_d D_World_link 51 rfl) rfl (lv_at hl 1 rfl) ?_
        refine lv_aload_n hx hb (xb_d D_World_link 52 rfl) rfl (lv_at hl 1 rfl) ?_
        have hk1 : xb_k h4 x1 = 3 := hEh4.k hk1
        have hk1 : xb_k h8 x1 = 3 := hEh8.k hk1
        refine xb_getP (C := R_StackModule) (T := F_StackModule) (N := 19) hx hb 2 9 hts fin_StackModule hown hR hk1 (by decide) rfl (by decide) rfl (hts _ m_6b906570) (fun _ h9 => h9) (xb_d D_World_link 53 rfl) ?_
        obtain ⟨b11, eb11, hw⟩ := hw
        refine xb_some eb11 ?_
        refine lv_aload_n hx hb (xb_d D_World_link 54 rfl) rfl (lv_at hl 0 rfl) ?_
        refine lv_aload_n hx hb (xb_d D_World_link 55 rfl) rfl (lv_at hl 1 rfl) ?_
        have hk7 : xb_k h8 x0 = 7 := hEh8.k hk7
        refine xb_call0 (D := D) (A := A) (σ := σ) (h := h8) (d := 4) (maxL := 2) (rest := [.ref b11, .ref x1, .ref x0]) (av := [.ref x0, .ref x1]) (fun T hT X => by obtain ⟨cb9, ra9, rb9, rc9⟩ := xb_recv (ci := 6) hR rfl hk7 (by decide); exact xt_invV X hx hown (hts _ m_f17f3a5b) (hts _ m_5695b808) (hts _ m_2d196d10) (xt_sigOf (hts _ m_768ff8b8)) nm_World_elementsOf (by rw [hT]; exact ra9) rb9 rc9 (g := F0 m 97 ls [.ref x1, .ref x0, .ref b11, .ref x1, .ref x0]) rfl (argsL := [.ref x1]) (rest := [.ref b11, .ref x1, .ref x0]) rfl rfl (by rw [hb]; exact (xb_d D_World_link 56 rfl))) (ok_World_elementsOf l hfl D A σ x0 x1 h8 _ hw) (hml.trans hl.1.symm) (by rw [hb]; exact (xb_d D_World_link 56 rfl)) (Nat.le_of_ble_eq_true rfl) (Nat.le_of_ble_eq_true rfl) (Nat.le_of_ble_eq_true rfl) (show k ≤ MC by omega) (show n ≤ MS by omega) (xt_w1 hB.1 m_768ff8b8) (xt_cdOf hB.1 m_768ff8b8) (hts _ m_4534b440) hB hR hS hA (fun vv h12 H locs hq hEh12 hR hS => ?_)
        obtain ⟨r13, rfl, hw⟩ := hq
        have hw := hw hEh12
        have hE := hE.tr hEh12
        refine W.eq (g2 := F0 m 100 ls [.long r13, .ref b11, .ref x1, .ref x0]) rfl ?_
        have hk7 : xb_k h12 x0 = 7 := hEh12.k hk7
        refine xb_call0 (D := D) (A := A) (σ := σ) (h := h12) (d := 5) (maxL := 6) (rest := []) (av := [.ref x0, .ref x1, .ref b11, .long r13]) (fun T hT X => by obtain ⟨cb9, ra9, rb9, rc9⟩ := xb_recv (ci := 6) hR rfl hk7 (by decide); exact xt_invV X hx hown (hts _ m_c71d163d) (hts _ m_7d0ee469) (hts _ m_5a8bbecb) (xt_sigOf (hts _ m_19f137c3)) nm_World_rowBeyond (by rw [hT]; exact ra9) rb9 rc9 (g := F0 m 100 ls [.long r13, .ref b11, .ref x1, .ref x0]) rfl (argsL := [.ref x1, .ref b11, .long r13]) (rest := []) rfl rfl (by rw [hb]; exact (xb_d D_World_link 57 rfl))) (ok_World_rowBeyond l hfl D A σ x0 x1 b11 r13 h12 _ hw) (hml.trans hl.1.symm) (by rw [hb]; exact (xb_d D_World_link 57 rfl)) (Nat.le_of_ble_eq_true rfl) (Nat.le_of_ble_eq_true rfl) (Nat.le_of_ble_eq_true rfl) (show k ≤ MC by omega) (show n ≤ MS by omega) (xt_w1 hB.1 m_19f137c3) (xt_cdOf hB.1 m_19f137c3) (hts _ m_4534b440) hB hR hS hA (fun vv h14 H locs hq hEh14 hR hS => ?_)
        obtain ⟨r15, rfl, hw⟩ := hq
        have hw := hw hEh14
        have hE := hE.tr hEh14
        refine W.eq (g2 := F0 m 103 ls [.int r15]) rfl ?_
        refine lv_istore_n hx hb (xb_d D_World_link 58 rfl) rfl hl (by decide) rfl (fun ls hl => ?_)
        have hl : lv_has ls 4 [(2, .int r15), (0, .ref x0), (1, .ref x1)] := hl
        refine lv_iload_n hx hb (xb_d D_World_link 59 rfl) rfl (lv_at hl 0 rfl) ?_
        refine lv_iconst (v := (-1)) hx hb (xb_d D_World_link 60 rfl) (by decide) ?_
        refine lv_icmp_eq (tgt := 117) hx hb (xb_d D_World_link 61 rfl) rfl (fun hc16 => ?_) (fun hc16 => ?_)
        · have hw := hw.1 hc16
          refine lv_aload_n hx hb (xb_d D_World_link 67 rfl) rfl (lv_at hl 1 rfl) ?_
          refine lv_aload_n hx hb (xb_d D_World_link 68 rfl) rfl (lv_at hl 2 rfl) ?_
          refine lv_aload_n hx hb (xb_d D_World_link 69 rfl) rfl (lv_at hl 2 rfl) ?_
          have hk1 : xb_k h12 x1 = 3 := hEh12.k hk1
          have hk1 : xb_k h14 x1 = 3 := hEh14.k hk1
          refine xb_getP (C := R_StackModule) (T := F_StackModule) (N := 19) hx hb 2 13 hts fin_StackModule hown hR hk1 (by decide) rfl (by decide) rfl (hts _ m_30582602) (fun _ h9 => h9) (xb_d D_World_link 70 rfl) ?_
          obtain ⟨b17, eb17, hw⟩ := hw
          refine xb_some eb17 ?_
          refine lv_aload_n hx hb (xb_d D_World_link 71 rfl) rfl (lv_at hl 1 rfl) ?_
          refine lv_aload_n hx hb (xb_d D_World_link 72 rfl) rfl (lv_at hl 2 rfl) ?_
          have hk7 : xb_k h14 x0 = 7 := hEh14.k hk7
          refine xb_call0 (D := D) (A := A) (σ := σ) (h := h14) (d := 4) (maxL := 2) (rest := [.ref b17, .ref x1, .ref x0]) (av := [.ref x0, .ref x1]) (fun T hT X => by obtain ⟨cb9, ra9, rb9, rc9⟩ := xb_recv (ci := 6) hR rfl hk7 (by decide); exact xt_invV X hx hown (hts _ m_61d5314b) (hts _ m_5368c241) (hts _ m_9a728af6) (xt_sigOf (hts _ m_e936afdd)) nm_World_bytesOf (by rw [hT]; exact ra9) rb9 rc9 (g := F0 m 125 ls [.ref x1, .ref x0, .ref b17, .ref x1, .ref x0]) rfl (argsL := [.ref x1]) (rest := [.ref b17, .ref x1, .ref x0]) rfl rfl (by rw [hb]; exact (xb_d D_World_link 73 rfl))) (ok_World_bytesOf l hfl D A σ x0 x1 h14 _ hw) (hml.trans hl.1.symm) (by rw [hb]; exact (xb_d D_World_link 73 rfl)) (Nat.le_of_ble_eq_true rfl) (Nat.le_of_ble_eq_true rfl) (Nat.le_of_ble_eq_true rfl) (show k ≤ MC by omega) (show n ≤ MS by omega) (xt_w1 hB.1 m_e936afdd) (xt_cdOf hB.1 m_e936afdd) (hts _ m_4534b440) hB hR hS hA (fun vv h18 H locs hq hEh18 hR hS => ?_)
          obtain ⟨r19, rfl, hw⟩ := hq
          have hw := hw hEh18
          have hE := hE.tr hEh18
          refine W.eq (g2 := F0 m 128 ls [.long r19, .ref b17, .ref x1, .ref x0]) rfl ?_
          have hk7 : xb_k h18 x0 = 7 := hEh18.k hk7
          refine xb_call0 (D := D) (A := A) (σ := σ) (h := h18) (d := 5) (maxL := 6) (rest := []) (av := [.ref x0, .ref x1, .ref b17, .long r19]) (fun T hT X => by obtain ⟨cb9, ra9, rb9, rc9⟩ := xb_recv (ci := 6) hR rfl hk7 (by decide); exact xt_invV X hx hown (hts _ m_c71d163d) (hts _ m_7d0ee469) (hts _ m_5a8bbecb) (xt_sigOf (hts _ m_19f137c3)) nm_World_rowBeyond (by rw [hT]; exact ra9) rb9 rc9 (g := F0 m 128 ls [.long r19, .ref b17, .ref x1, .ref x0]) rfl (argsL := [.ref x1, .ref b17, .long r19]) (rest := []) rfl rfl (by rw [hb]; exact (xb_d D_World_link 74 rfl))) (ok_World_rowBeyond l hfl D A σ x0 x1 b17 r19 h18 _ hw) (hml.trans hl.1.symm) (by rw [hb]; exact (xb_d D_World_link 74 rfl)) (Nat.le_of_ble_eq_true rfl) (Nat.le_of_ble_eq_true rfl) (Nat.le_of_ble_eq_true rfl) (show k ≤ MC by omega) (show n ≤ MS by omega) (xt_w1 hB.1 m_19f137c3) (xt_cdOf hB.1 m_19f137c3) (hts _ m_4534b440) hB hR hS hA (fun vv h20 H locs hq hEh20 hR hS => ?_)
          obtain ⟨r21, rfl, hw⟩ := hq
          have hw := hw hEh20
          have hE := hE.tr hEh20
          refine W.eq (g2 := F0 m 131 ls [.int r21]) rfl ?_
          refine lv_istore_n hx hb (xb_d D_World_link 75 rfl) rfl hl (by decide) rfl (fun ls hl => ?_)
          have hl : lv_has ls 4 [(2, .int r21), (0, .ref x0), (1, .ref x1)] := hl
          refine lv_iload_n hx hb (xb_d D_World_link 76 rfl) rfl (lv_at hl 0 rfl) ?_
          refine lv_iconst (v := (-1)) hx hb (xb_d D_World_link 77 rfl) (by decide) ?_
          refine lv_icmp_eq (tgt := 145) hx hb (xb_d D_World_link 78 rfl) rfl (fun hc22 => ?_) (fun hc22 => ?_)
          · have hw := hw.1 hc22
            refine lv_aload_n hx hb (xb_d D_World_link 84 rfl) rfl (lv_at hl 1 rfl) ?_
            refine lv_aload_n hx hb (xb_d D_World_link 85 rfl) rfl (lv_at hl 2 rfl) ?_
            have hk7 : xb_k h20 x0 = 7 := hEh20.k hk7
            refine xb_call (D := D) (A := A) (σ := σ) (h := h20) (d := 6) (mc := bc) (ms := bs) (maxL := 4) (rest := []) (av := [.ref x0, .ref x1]) (fun T hT X => by obtain ⟨cb9, ra9, rb9, rc9⟩ := xb_recv (ci := 6) hR rfl hk7 (by decide); exact xt_invV X hx hown (hts _ m_f2b23331) (hts _ m_b9f0af1e) (hts _ m_edfdccb6) (xt_sigOf (hts _ m_cb31aab0)) nm_World_make (by rw [hT]; exact ra9) rb9 rc9 (g := F0 m 147 ls [.ref x1, .ref x0]) rfl (argsL := [.ref x1]) (rest := []) rfl rfl (by rw [hb]; exact (xb_d D_World_link 86 rfl))) (ok_World_make l hfl D A σ x0 x1 h20 bc bs _ hw) (hml.trans hl.1.symm) (by rw [hb]; exact (xb_d D_World_link 86 rfl)) (Nat.le_of_ble_eq_true rfl) (Nat.le_of_ble_eq_true rfl) (Nat.le_of_ble_eq_true rfl) (show k + bc ≤ MC by omega) (show n + bs ≤ MS by omega) (xt_w1 hB.1 m_cb31aab0) (xt_cdOf hB.1 m_cb31aab0) (hts _ m_4534b440) hB hR hS hA (fun vv h23 bc24 bs24 kk24 nn24 H locs hk24 hn24 hq hEh23 hR hS => ?_) (fun XX ax h23 bc24 bs24 kk24 nn24 H locs hk24 hn24 hq hEh23 hex hR hS => ?_)
            · obtain ⟨r24, rfl, hw⟩ := hq
              have hw := hw hEh23
              have hE := hE.tr hEh23
              refine W.eq (g2 := F0 m 150 ls [.int r24]) rfl ?_
              exact xb_iret bc24 bs24 hx hb hr hlocks (show (k + kk24) + bc24 ≤ MC by omega) (show (n + nn24) + bs24 ≤ MS by omega) hE hR hS (xb_d D_World_link 87 rfl) hw
            · exact False.elim hq
          · have hw := hw.2 hc22
            refine lv_aload_n hx hb (xb_d D_World_link 79 rfl) rfl (lv_at hl 1 rfl) ?_
            refine lv_bipush (v := 46) hx hb (xb_d D_World_link 80 rfl) (by decide) ?_
            refine lv_iload_n hx hb (xb_d D_World_link 81 rfl) rfl (lv_at hl 0 rfl) ?_
            have hk7 : xb_k h20 x0 = 7 := hEh20.k hk7
            refine xb_call0 (D := D) (A := A) (σ := σ) (h := h20) (d := 2) (maxL := 3) (rest := []) (av := [.ref x0, .int 46, .int r21]) (fun T hT X => by obtain ⟨cb9, ra9, rb9, rc9⟩ := xb_recv (ci := 6) hR rfl hk7 (by decide); exact xt_invV X hx hown (hts _ m_5509d456) (hts _ m_9799a19f) (hts _ m_2036831f) (xt_sigOf (hts _ m_5cce4b93)) nm_World_refuse (by rw [hT]; exact ra9) rb9 rc9 (g := F0 m 141 ls [.int r21, .int 46, .ref x0]) rfl (argsL := [.int 46, .int r21]) (rest := []) rfl rfl (by rw [hb]; exact (xb_d D_World_link 82 rfl))) (ok_World_refuse l hfl D A σ x0 46 r21 h20 _ hw) (hml.trans hl.1.symm) (by rw [hb]; exact (xb_d D_World_link 82 rfl)) (Nat.le_of_ble_eq_true rfl) (Nat.le_of_ble_eq_true rfl) (Nat.le_of_ble_eq_true rfl) (show k ≤ MC by omega) (show n ≤ MS by omega) (xt_w1 hB.1 m_5cce4b93) (xt_cdOf hB.1 m_5cce4b93) (hts _ m_4534b440) hB hR hS hA (fun vv h25 H locs hq hEh25 hR hS => ?_)
            obtain ⟨r26, rfl, hw⟩ := hq
            have hw := hw hEh25
            have hE := hE.tr hEh25
            refine W.eq (g2 := F0 m 144 ls [.int r26]) rfl ?_
            exact xb_iret bc bs hx hb hr hlocks (show k + bc ≤ MC by omega) (show n + bs ≤ MS by omega) hE hR hS (xb_d D_World_link 83 rfl) hw
        · have hw := hw.2 hc16
          refine lv_aload_n hx hb (xb_d D_World_link 62 rfl) rfl (lv_at hl 1 rfl) ?_
          refine lv_bipush (v := 45) hx hb (xb_d D_World_link 63 rfl) (by decide) ?_
          refine lv_iload_n hx hb (xb_d D_World_link 64 rfl) rfl (lv_at hl 0 rfl) ?_
          have hk7 : xb_k h14 x0 = 7 := hEh14.k hk7
          refine xb_call0 (D := D) (A := A) (σ := σ) (h := h14) (d := 2) (maxL := 3) (rest := []) (av := [.ref x0, .int 45, .int r15]) (fun T hT X => by obtain ⟨cb9, ra9, rb9, rc9⟩ := xb_recv (ci := 6) hR rfl hk7 (by decide); exact xt_invV X hx hown (hts _ m_5509d456) (hts _ m_9799a19f) (hts _ m_2036831f) (xt_sigOf (hts _ m_5cce4b93)) nm_World_refuse (by rw [hT]; exact ra9) rb9 rc9 (g := F0 m 113 ls [.int r15, .int 45, .ref x0]) rfl (argsL := [.int 45, .int r15]) (rest := []) rfl rfl (by rw [hb]; exact (xb_d D_World_link 65 rfl))) (ok_World_refuse l hfl D A σ x0 45 r15 h14 _ hw) (hml.trans hl.1.symm) (by rw [hb]; exact (xb_d D_World_link 65 rfl)) (Nat.le_of_ble_eq_true rfl) (Nat.le_of_ble_eq_true rfl) (Nat.le_of_ble_eq_true rfl) (show k ≤ MC by omega) (show n ≤ MS by omega) (xt_w1 hB.1 m_5cce4b93) (xt_cdOf hB.1 m_5cce4b93) (hts _ m_4534b440) hB hR hS hA (fun vv h27 H locs hq hEh27 hR hS => ?_)
          obtain ⟨r28, rfl, hw⟩ := hq
          have hw := hw hEh27
          have hE := hE.tr hEh27
          refine W.eq (g2 := F0 m 116 ls [.int r28]) rfl ?_
          exact xb_iret bc bs hx hb hr hlocks (show k + bc ≤ MC by omega) (show n + bs ≤ MS by omega) hE hR hS (xb_d D_World_link 66 rfl) hw
      · have hw := hw.2 hc10
        refine lv_aload_n hx hb (xb_d D_World_link 45 rfl) rfl (lv_at hl 0 rfl) ?_
        refine lv_bipush (v := 44) hx hb (xb_d D_World_link 46 rfl) (by decide) ?_
        refine lv_iconst (v := 0) hx hb (xb_d D_World_link 47 rfl) (by decide) ?_
        have hk7 : xb_k h8 x0 = 7 := hEh8.k hk7
        refine xb_call0 (D := D) (A := A) (σ := σ) (h := h8) (d := 2) (maxL := 3) (rest := []) (av := [.ref x0, .int 44, .int 0]) (fun T hT X => by obtain ⟨cb9, ra9, rb9, rc9⟩ := xb_recv (ci := 6) hR rfl hk7 (by decide); exact xt_invV X hx hown (hts _ m_5509d456) (hts _ m_9799a19f) (hts _ m_2036831f) (xt_sigOf (hts _ m_5cce4b93)) nm_World_refuse (by rw [hT]; exact ra9) rb9 rc9 (g := F0 m 85 ls [.int 0, .int 44, .ref x0]) rfl (argsL := [.int 44, .int 0]) (rest := []) rfl rfl (by rw [hb]; exact (xb_d D_World_link 48 rfl))) (ok_World_refuse l hfl D A σ x0 44 0 h8 _ hw) (hml.trans hl.1.symm) (by rw [hb]; exact (xb_d D_World_link 48 rfl)) (Nat.le_of_ble_eq_true rfl) (Nat.le_of_ble_eq_true rfl) (Nat.le_of_ble_eq_true rfl) (show k ≤ MC by omega) (show n ≤ MS by omega) (xt_w1 hB.1 m_5cce4b93) (xt_cdOf hB.1 m_5cce4b93) (hts _ m_4534b440) hB hR hS hA (fun vv h29 H locs hq hEh29 hR hS => ?_)
        obtain ⟨r30, rfl, hw⟩ := hq
        have hw := hw hEh29
        have hE := hE.tr hEh29
        refine W.eq (g2 := F0 m 88 ls [.int r30]) rfl ?_
        exact xb_iret bc bs hx hb hr hlocks (show k + bc ≤ MC by omega) (show n + bs ≤ MS by omega) hE hR hS (xb_d D_World_link 49 rfl) hw
    · have hw := hw.2 hc6
      refine lv_aload_n hx hb (xb_d D_World_link 27 rfl) rfl (lv_at hl 0 rfl) ?_
      refine lv_aload_n hx hb (xb_d D_World_link 28 rfl) rfl (lv_at hl 1 rfl) ?_
      refine lv_iload_n hx hb (xb_d D_World_link 29 rfl) rfl (lv_at hl 2 rfl) ?_
      obtain ⟨hk31, hw⟩ := hw
      refine xb_call (D := D) (A := A) (σ := σ) (h := h4) (d := 6) (mc := bc) (ms := bs) (maxL := 10) (rest := []) (av := [.ref x0, .ref x1, .int x2]) (fun T hT X => by obtain ⟨cb9, ra9, rb9, rc9⟩ := xb_recv (ci := 6) hR rfl hk31 (by decide); exact xt_invV X hx hown (hts _ m_491f6485) (hts _ m_a81bb0a3) (hts _ m_88e27df3) (xt_sigOf (hts _ m_81208317)) nm_World_lookUp (by rw [hT]; exact ra9) rb9 rc9 (g := F0 m 52 ls [.int x2, .ref x1, .ref x0]) rfl (argsL := [.ref x1, .int x2]) (rest := []) rfl rfl (by rw [hb]; exact (xb_d D_World_link 30 rfl))) (ok_World_lookUp l hfl D A σ x0 x1 x2 h4 bc bs _ hw) (hml.trans hl.1.symm) (by rw [hb]; exact (xb_d D_World_link 30 rfl)) (Nat.le_of_ble_eq_true rfl) (Nat.le_of_ble_eq_true rfl) (Nat.le_of_ble_eq_true rfl) (show k + bc ≤ MC by omega) (show n + bs ≤ MS by omega) (xt_w1 hB.1 m_81208317) (xt_cdOf hB.1 m_81208317) (hts _ m_4534b440) hB hR hS hA (fun vv h32 bc33 bs33 kk33 nn33 H locs hk33 hn33 hq hEh32 hR hS => ?_) (fun XX ax h32 bc33 bs33 kk33 nn33 H locs hk33 hn33 hq hEh32 hex hR hS => ?_)
      · obtain ⟨r33, rfl, hw⟩ := hq
        have hw := hw hEh32
        have hE := hE.tr hEh32
        refine W.eq (g2 := F0 m 55 ls [.int r33]) rfl ?_
        refine lv_istore_n hx hb (xb_d D_World_link 31 rfl) rfl hl (by decide) rfl (fun ls hl => ?_)
        have hl : lv_has ls 4 [(3, .int r33), (0, .ref x0), (1, .ref x1), (2, .int x2)] := hl
        refine lv_iload_n hx hb (xb_d D_World_link 32 rfl) rfl (lv_at hl 0 rfl) ?_
        refine lv_if_eq (tgt := 67) hx hb (xb_d D_World_link 33 rfl) rfl (fun hc34 => ?_) (fun hc34 => ?_)
        · have hw := hw.1 hc34
          refine lv_iinc (v := (x2 + 1)) (k := 3) hx hb (xb_d D_World_link 39 rfl) hl rfl (by first | rfl | decide) (by decide) rfl (fun ls hl => ?_)
          have hl : lv_has ls 4 [(2, .int (x2 + 1)), (3, .int r33), (0, .ref x0), (1, .ref x1)] := hl
          refine lv_goto (tgt := 38) hx hb (xb_d D_World_link 40 rfl) rfl ?_
          exact ih x0 x1 (x2 + 1) h32 bc33 bs33 hw p e s m args below meth c hC H locs ls (k + kk33) (n + nn33) hE (lv_sub hl [2, 3, 0] rfl) hR hS (by omega) (by omega)
        · have hw := hw.2 hc34
          refine lv_aload_n hx hb (xb_d D_World_link 34 rfl) rfl (lv_at hl 1 rfl) ?_
          refine lv_iload_n hx hb (xb_d D_World_link 35 rfl) rfl (lv_at hl 0 rfl) ?_
          refine lv_iload_n hx hb (xb_d D_World_link 36 rfl) rfl (lv_at hl 3 rfl) ?_
          have hk31 : xb_k h32 x0 = 7 := hEh32.k hk31
          refine xb_call0 (D := D) (A := A) (σ := σ) (h := h32) (d := 2) (maxL := 3) (rest := []) (av := [.ref x0, .int r33, .int x2]) (fun T hT X => by obtain ⟨cb9, ra9, rb9, rc9⟩ := xb_recv (ci := 6) hR rfl hk31 (by decide); exact xt_invV X hx hown (hts _ m_5509d456) (hts _ m_9799a19f) (hts _ m_2036831f) (xt_sigOf (hts _ m_5cce4b93)) nm_World_refuse (by rw [hT]; exact ra9) rb9 rc9 (g := F0 m 63 ls [.int x2, .int r33, .ref x0]) rfl (argsL := [.int r33, .int x2]) (rest := []) rfl rfl (by rw [hb]; exact (xb_d D_World_link 37 rfl))) (ok_World_refuse l hfl D A σ x0 r33 x2 h32 _ hw) (hml.trans hl.1.symm) (by rw [hb]; exact (xb_d D_World_link 37 rfl)) (Nat.le_of_ble_eq_true rfl) (Nat.le_of_ble_eq_true rfl) (Nat.le_of_ble_eq_true rfl) (show (k + kk33) ≤ MC by omega) (show (n + nn33) ≤ MS by omega) (xt_w1 hB.1 m_5cce4b93) (xt_cdOf hB.1 m_5cce4b93) (hts _ m_4534b440) hB hR hS hA (fun vv h35 H locs hq hEh35 hR hS => ?_)
          obtain ⟨r36, rfl, hw⟩ := hq
          have hw := hw hEh35
          have hE := hE.tr hEh35
          refine W.eq (g2 := F0 m 66 ls [.int r36]) rfl ?_
          exact xb_iret bc33 bs33 hx hb hr hlocks (show (k + kk33) + bc33 ≤ MC by omega) (show (n + nn33) + bs33 ≤ MS by omega) hE hR hS (xb_d D_World_link 38 rfl) hw
      · exact False.elim hq

set_option maxHeartbeats 4000000 in
set_option maxRecDepth 100000 in
theorem ok_World_link (l : Launch) (hfl : l.flags = pinnedFlags ++ [noTraceFlag]) (D : va_G) (A : Nat → Prop) (σ : Nat) (x0 : Nat) (x1 : Nat) (h : xb_H) (bc : Nat) (bs : Nat) (Qr : Int32 → xb_H → Nat → Nat → Prop) (hw : w_World_link σ x0 x1 h bc bs Qr) : xb_Met l y_World_link [.code y_World_link b_World_link 4 (some .int)] (xb_rm 7 bc bs) (xb_Pc D A σ h [.ref x0, .ref x1]) (xb_Qc D A h bc bs (fun v h bc bs => ∃ r, v = some (.int r) ∧ Qr r h bc bs) (fun _ _ _ _ => False)) A := by
  refine xb_ofAm (cc := b_World_link) (by decide) (Nat.le_of_ble_eq_true rfl) ?_
  unfold w_World_link at hw
  show xb_am l D A σ 7 bc bs h (fun v h bc bs => ∃ r, v = some (.int r) ∧ Qr r h bc bs) (fun _ _ _ _ => False) y_World_link.cls y_World_link.name b_World_link 4 ([] : List ExceptionTableEntry) (some .int) 0 [(0, .ref x0), (1, .ref x1)] [] h bc bs
  obtain ⟨MC, hMC⟩ : ∃ x, x = bc := ⟨_, rfl⟩
  obtain ⟨MS, hMS⟩ : ∃ x, x = bs := ⟨_, rfl⟩
  rw [show xb_am l D A σ 7 bc bs = xb_am l D A σ 7 MC MS by rw [hMC, hMS]]
  obtain ⟨h0, hh0⟩ : ∃ x, x = h := ⟨_, rfl⟩
  rw [show xb_am l D A σ 7 MC MS h = xb_am l D A σ 7 MC MS h0 by rw [hh0]]
  intro p e s m args below meth c hC H locs ls k n hE hl hR hS hk hn
  obtain ⟨hx, hb, hown, hlocks, htab, hml, hr, hB, hA, hnm⟩ := id hC
  have hts := hB.1.1.at args
  refine lv_aload_n hx hb (xb_d D_World_link 0 rfl) rfl (lv_at hl 0 rfl) ?_
  refine lv_iconst (v := 0) hx hb (xb_d D_World_link 1 rfl) (by decide) ?_
  obtain ⟨hk1, hw⟩ := hw
  refine xb_putI (C := R_World) (T := F_World) (N := 16) (ty := .int) (x := 0) hx hb 6 7 hts fin_World t_World t_World_ok n_World hown hR hS hk1 (by decide) rfl (by decide) rfl (hts _ m_d8451b78) (fun _ h9 => h9) rfl (by decide +kernel) rfl rfl (xb_d D_World_link 2 rfl) (fun H locs hR hS => ?_)
  obtain ⟨h2, eh2⟩ : ∃ x : xb_H, x = xb_I h x0 7 0 := ⟨_, rfl⟩
  rw [← eh2] at hR
  have hw := hw h2 eh2
  have hE : xb_ext h0 h2 := by rw [eh2]; exact hE
  refine lv_aload_n hx hb (xb_d D_World_link 3 rfl) rfl (lv_at hl 0 rfl) ?_
  refine lv_iconst (v := 0) hx hb (xb_d D_World_link 4 rfl) (by decide) ?_
  have hk1 : xb_k h2 x0 = 7 := by rw [eh2]; exact hk1
  refine xb_putI (C := R_World) (T := F_World) (N := 16) (ty := .int) (x := 0) hx hb 6 8 hts fin_World t_World t_World_ok n_World hown hR hS hk1 (by decide) rfl (by decide) rfl (hts _ m_06a49ece) (fun _ h9 => h9) rfl (by decide +kernel) rfl rfl (xb_d D_World_link 5 rfl) (fun H locs hR hS => ?_)
  obtain ⟨h3, eh3⟩ : ∃ x : xb_H, x = xb_I h2 x0 8 0 := ⟨_, rfl⟩
  rw [← eh3] at hR
  have hw := hw h3 eh3
  have hE : xb_ext h0 h3 := by rw [eh3]; exact hE
  refine lv_aload_n hx hb (xb_d D_World_link 6 rfl) rfl (lv_at hl 0 rfl) ?_
  have hk1 : xb_k h3 x0 = 7 := by rw [eh3]; exact hk1
  refine xb_getP (C := R_World) (T := F_World) (N := 16) hx hb 6 12 hts fin_World hown hR hk1 (by decide) rfl (by decide) rfl (hts _ m_62e44650) (fun _ h9 => h9) (xb_d D_World_link 7 rfl) ?_
  obtain ⟨b4, eb4, hw⟩ := hw
  refine xb_some eb4 ?_
  refine lv_iconst (v := 0) hx hb (xb_d D_World_link 8 rfl) (by decide) ?_
  obtain ⟨hk5, hw⟩ := hw
  refine xb_putI (C := R_Row) (T := F_Row) (N := 3) (ty := .int) (x := 0) hx hb 1 1 hts fin_Row t_Row t_Row_ok n_Row hown hR hS hk5 (by decide) rfl (by decide) rfl (hts _ m_98336b3d) (fun _ h9 => h9) rfl (by decide +kernel) rfl rfl (xb_d D_World_link 9 rfl) (fun H locs hR hS => ?_)
  obtain ⟨h6, eh6⟩ : ∃ x : xb_H, x = xb_I h3 b4 1 0 := ⟨_, rfl⟩
  rw [← eh6] at hR
  have hw := hw h6 eh6
  have hE : xb_ext h0 h6 := by rw [eh6]; exact hE
  refine lv_aload_n hx hb (xb_d D_World_link 10 rfl) rfl (lv_at hl 0 rfl) ?_
  have hk1 : xb_k h6 x0 = 7 := by rw [eh6]; exact hk1
  refine xb_getP (C := R_World) (T := F_World) (N := 16) hx hb 6 13 hts fin_World hown hR hk1 (by decide) rfl (by decide) rfl (hts _ m_808dc970) (fun _ h9 => h9) (xb_d D_World_link 11 rfl) ?_
  obtain ⟨b7, eb7, hw⟩ := hw
  refine xb_some eb7 ?_
  refine lv_iconst (v := 0) hx hb (xb_d D_World_link 12 rfl) (by decide) ?_
  obtain ⟨hk8, hw⟩ := hw
  refine xb_putI (C := R_Row) (T := F_Row) (N := 3) (ty := .int) (x := 0) hx hb 1 1 hts fin_Row t_Row t_Row_ok n_Row hown hR hS hk8 (by decide) rfl (by decide) rfl (hts _ m_98336b3d) (fun _ h9 => h9) rfl (by decide +kernel) rfl rfl (xb_d D_World_link 13 rfl) (fun H locs hR hS => ?_)
  obtain ⟨h9, eh9⟩ : ∃ x : xb_H, x = xb_I h6 b7 1 0 := ⟨_, rfl⟩
  rw [← eh9] at hR
  have hw := hw h9 eh9
  have hE : xb_ext h0 h9 := by rw [eh9]; exact hE
  refine lv_aload_n hx hb (xb_d D_World_link 14 rfl) rfl (lv_at hl 0 rfl) ?_
  refine lv_null hx hb (xb_d D_World_link 15 rfl) ?_
  have hk1 : xb_k h9 x0 = 7 := by rw [eh9]; exact hk1
  refine xb_putP (C := R_World) (T := F_World) (N := 16) (ty := .object "StackHost$Table") (x := none) hx hb 6 14 hts fin_World t_World t_World_ok n_World hown hR hS hk1 (by decide) rfl (by decide) rfl (hts _ m_ed0a73ed) (fun _ h9 => h9) rfl (by decide +kernel) (xb_pnO _ _).1 (xb_pnO _ _).2 (xb_d D_World_link 16 rfl) (fun H locs hR hS => ?_)
  obtain ⟨h10, eh10⟩ : ∃ x : xb_H, x = xb_P h9 x0 14 none := ⟨_, rfl⟩
  rw [← eh10] at hR
  have hw := hw h10 eh10
  have hE : xb_ext h0 h10 := by rw [eh10]; exact hE
  refine lv_aload_n hx hb (xb_d D_World_link 17 rfl) rfl (lv_at hl 0 rfl) ?_
  refine lv_null hx hb (xb_d D_World_link 18 rfl) ?_
  have hk1 : xb_k h10 x0 = 7 := by rw [eh10]; exact hk1
  refine xb_putP (C := R_World) (T := F_World) (N := 16) (ty := .object "StackHost$Memory") (x := none) hx hb 6 15 hts fin_World t_World t_World_ok n_World hown hR hS hk1 (by decide) rfl (by decide) rfl (hts _ m_0dd66e73) (fun _ h9 => h9) rfl (by decide +kernel) (xb_pnO _ _).1 (xb_pnO _ _).2 (xb_d D_World_link 19 rfl) (fun H locs hR hS => ?_)
  obtain ⟨h11, eh11⟩ : ∃ x : xb_H, x = xb_P h10 x0 15 none := ⟨_, rfl⟩
  rw [← eh11] at hR
  have hw := hw h11 eh11
  have hE : xb_ext h0 h11 := by rw [eh11]; exact hE
  refine lv_iconst (v := 0) hx hb (xb_d D_World_link 20 rfl) (by decide) ?_
  refine lv_istore_n hx hb (xb_d D_World_link 21 rfl) rfl hl (by decide) rfl (fun ls hl => ?_)
  have hl : lv_has ls 4 [(2, .int 0), (0, .ref x0), (1, .ref x1)] := hl
  obtain ⟨n8, hw⟩ := hw
  exact am_World_link_L38 l hfl D A σ MC MS h0 Qr n8 x0 x1 0 h11 bc bs hw p e s m args below meth c hC H locs ls k n hE (lv_sub hl [1, 2, 0] rfl) hR hS (by omega) (by omega)

theorem m_1e58883b : (.methodLink "StackHostLaw" 41 y_H_name : Cond) ∈ xt_tbl := xt_in (xt_t7 (List.mem_of_getElem? (i := 123) (by decide +kernel))) (by decide +kernel)
theorem m_16c13a2b : (.instanceMethod y_H_name : Cond) ∈ xt_tbl := xt_in (xt_t7 (List.mem_of_getElem? (i := 124) (by decide +kernel))) (by decide +kernel)
theorem m_a417b121 : (.selects "StackHost" y_H_name y_H_name : Cond) ∈ xt_tbl := xt_in (xt_t7 (List.mem_of_getElem? (i := 125) (by decide +kernel))) (by decide +kernel)
theorem m_c702f377 : (.code y_H_name b_H_name 3 none : Cond) ∈ xt_tbl := xt_in (xt_t7 (List.mem_of_getElem? (i := 126) (by decide +kernel))) (by decide +kernel)
theorem nm_H_name : xt_nm y_H_name 1 := ⟨by decide +kernel, by decide +kernel⟩
set_option maxRecDepth 100000 in
def T_Law_name : List (Nat × Instr × Nat) := [(0, .aload_n 0, 1), (1, .iload_n 1, 1), (2, .invokevirtual 41, 3), (5, .goto 6, 3), (8, .astore_n 2, 1), (9, .iconst 1, 1), (10, .ireturn, 1), (11, .iconst 0, 1), (12, .ireturn, 1)]
theorem D_Law_name : ∀ q ∈ T_Law_name, decode b_Law_name q.1 = .ok (q.2.1, q.2.2) := by decide +kernel

set_option maxHeartbeats 4000000 in
set_option maxRecDepth 100000 in
theorem ok_Law_name (l : Launch) (hfl : l.flags = pinnedFlags ++ [noTraceFlag]) (D : va_G) (A : Nat → Prop) (σ : Nat) (x0 : Nat) (x1 : Int32) (h : xb_H) (bc : Nat) (bs : Nat) (Qr : Int32 → xb_H → Nat → Nat → Prop) (hw : w_Law_name x0 x1 h bc bs Qr) : xb_Met l y_Law_name [.codeWith y_Law_name b_Law_name 3 (some .int) [(0, 5, 8, 29)]] (xb_rm 7 bc bs) (xb_Pc D A σ h [.ref x0, .int x1]) (xb_Qc D A h bc bs (fun v h bc bs => ∃ r, v = some (.int r) ∧ Qr r h bc bs) (fun _ _ _ _ => False)) A := by
  refine xb_ofAmH (cc := b_Law_name) (by decide) (Nat.le_of_ble_eq_true rfl) ?_
  unfold w_Law_name at hw
  show xb_am l D A σ 7 bc bs h (fun v h bc bs => ∃ r, v = some (.int r) ∧ Qr r h bc bs) (fun _ _ _ _ => False) y_Law_name.cls y_Law_name.name b_Law_name 3 (tableOf [(0, 5, 8, 29)]) (some .int) 0 [(0, .ref x0), (1, .int x1)] [] h bc bs
  obtain ⟨MC, hMC⟩ : ∃ x, x = bc := ⟨_, rfl⟩
  obtain ⟨MS, hMS⟩ : ∃ x, x = bs := ⟨_, rfl⟩
  rw [show xb_am l D A σ 7 bc bs = xb_am l D A σ 7 MC MS by rw [hMC, hMS]]
  obtain ⟨h0, hh0⟩ : ∃ x, x = h := ⟨_, rfl⟩
  rw [show xb_am l D A σ 7 MC MS h = xb_am l D A σ 7 MC MS h0 by rw [hh0]]
  intro p e s m args below meth c hC H locs ls k n hE hl hR hS hk hn
  obtain ⟨hx, hb, hown, hlocks, htab, hml, hr, hB, hA, hnm⟩ := id hC
  have hts := hB.1.1.at args
  refine lv_aload_n hx hb (xb_d D_Law_name 0 rfl) rfl (lv_at hl 0 rfl) ?_
  refine lv_iload_n hx hb (xb_d D_Law_name 1 rfl) rfl (lv_at hl 1 rfl) ?_
  obtain ⟨hk1, hw⟩ := hw
  refine xb_call (D := D) (A := A) (σ := σ) (h := h) (d := 6) (mc := bc) (ms := bs) (maxL := 3) (rest := []) (av := [.ref x0, .int x1]) (fun T hT X => by obtain ⟨cb9, ra9, rb9, rc9⟩ := xb_recv (ci := 0) hR rfl hk1 (by decide); exact xt_invV X hx hown (hts _ m_1e58883b) (hts _ m_16c13a2b) (hts _ m_a417b121) (xt_sigOf (hts _ m_c702f377)) nm_H_name (by rw [hT]; exact ra9) rb9 rc9 (g := F0 m 2 ls [.int x1, .ref x0]) rfl (argsL := [.int x1]) (rest := []) rfl rfl (by rw [hb]; exact (xb_d D_Law_name 2 rfl))) (ok_H_name l hfl D A σ x0 x1 h bc bs _ _ hw) (hml.trans hl.1.symm) (by rw [hb]; exact (xb_d D_Law_name 2 rfl)) (Nat.le_of_ble_eq_true rfl) (Nat.le_of_ble_eq_true rfl) (Nat.le_of_ble_eq_true rfl) (show k + bc ≤ MC by omega) (show n + bs ≤ MS by omega) (xt_w1 hB.1 m_c702f377) (xt_cdOf hB.1 m_c702f377) (hts _ m_ba0734f5) hB hR hS hA (fun vv h2 bc3 bs3 kk3 nn3 H locs hk3 hn3 hq hEh2 hR hS => ?_) (fun XX ax h2 bc3 bs3 kk3 nn3 H locs hk3 hn3 hq hEh2 hex hR hS => ?_)
  · obtain ⟨rfl, hw⟩ := hq
    have hw := hw hEh2
    have hE := hE.tr hEh2
    refine W.eq (g2 := F0 m 5 ls []) rfl ?_
    refine lv_goto (tgt := 11) hx hb (xb_d D_Law_name 3 rfl) rfl ?_
    refine lv_iconst (v := 0) hx hb (xb_d D_Law_name 7 rfl) (by decide) ?_
    exact xb_iret bc3 bs3 hx hb hr hlocks (show (k + kk3) + bc3 ≤ MC by omega) (show (n + nn3) + bs3 ≤ MS by omega) hE hR hS (xb_d D_Law_name 8 rfl) hw
  · have hw := hq hEh2 ax
    have hE := hE.tr hEh2
    obtain ⟨rfl, hw⟩ := hw
    refine xt_catch (own := "StackHostLaw") (name := "java/lang/IndexOutOfBoundsException") (Xn := "java/lang/IndexOutOfBoundsException") hown ⟨0, 5, 8, 29⟩ [] htab (by decide) (by decide) (hts _ m_17a0b3c6) (hts _ m_b0d3d118) hex ?_
    refine W.eq (g2 := F0 m 8 ls [.ref ax]) rfl ?_
    refine lv_astore_n hx hb (xb_d D_Law_name 4 rfl) rfl hl (by decide) rfl (fun ls hl => ?_)
    have hl : lv_has ls 3 [(2, .ref ax), (0, .ref x0), (1, .int x1)] := hl
    refine lv_iconst (v := 1) hx hb (xb_d D_Law_name 5 rfl) (by decide) ?_
    exact xb_iret bc3 bs3 hx hb hr hlocks (show (k + kk3) + bc3 ≤ MC by omega) (show (n + nn3) + bs3 ≤ MS by omega) hE hR hS (xb_d D_Law_name 6 rfl) hw

theorem m_9bc902ef : (.methodLink "StackHostModel" 354 y_M_limitsFault : Cond) ∈ xt_tbl := xt_in (xt_t11 (List.mem_of_getElem? (i := 88) (by decide +kernel))) (by decide +kernel)
theorem m_d2d6a5ba : (.instanceMethod y_M_limitsFault : Cond) ∈ xt_tbl := xt_in (xt_t11 (List.mem_of_getElem? (i := 90) (by decide +kernel))) (by decide +kernel)
theorem m_f84d1ef4 : (.selects "StackHostModel" y_M_limitsFault y_M_limitsFault : Cond) ∈ xt_tbl := xt_in (xt_v10 (q := (⟨"StackHostModel", "limitsFault", "(ZIZ)V"⟩, 97)) (List.mem_of_getElem? (i := 14) (by decide +kernel))) (by decide +kernel)
theorem m_7cec8d21 : (.code y_M_limitsFault b_M_limitsFault 7 none : Cond) ∈ xt_tbl := xt_in (xt_t11 (List.mem_of_getElem? (i := 91) (by decide +kernel))) (by decide +kernel)
theorem m_eabb9d5c : (.methodLink "StackHostModel" 327 y_M_importAt : Cond) ∈ xt_tbl := xt_in (xt_t11 (List.mem_of_getElem? (i := 84) (by decide +kernel))) (by decide +kernel)
theorem m_79671d92 : (.instanceMethod y_M_importAt : Cond) ∈ xt_tbl := xt_in (xt_t11 (List.mem_of_getElem? (i := 86) (by decide +kernel))) (by decide +kernel)
theorem m_0429489b : (.selects "StackHostModel" y_M_importAt y_M_importAt : Cond) ∈ xt_tbl := xt_in (xt_v10 (q := (⟨"StackHostModel", "importAt", "(II)I"⟩, 97)) (List.mem_of_getElem? (i := 13) (by decide +kernel))) (by decide +kernel)
theorem m_2f1c0a34 : (.code y_M_importAt b_M_importAt 3 (some .int) : Cond) ∈ xt_tbl := xt_in (xt_t11 (List.mem_of_getElem? (i := 87) (by decide +kernel))) (by decide +kernel)
theorem nm_M_limitsFault : xt_nm y_M_limitsFault 3 := ⟨by decide +kernel, by decide +kernel⟩
theorem nm_M_importAt : xt_nm y_M_importAt 2 := ⟨by decide +kernel, by decide +kernel⟩
set_option maxRecDepth 100000 in
def T_M_checkImports : List (Nat × Instr × Nat) := [(0, .iconst 0, 1), (1, .istore_n 2, 1), (2, .iconst 0, 1), (3, .istore_n 3, 1), (4, .iconst 0, 1), (5, .istore 4, 2), (7, .iload 4, 2), (9, .aload_n 0, 1), (10, .iload_n 1, 1), (11, .iconst 2, 1), (12, .invokevirtual 316, 3), (15, .if_icmp .ge 129, 3), (18, .aload_n 0, 1), (19, .getfield 193, 3), (22, .ifCond .ne 122, 3), (25, .aload_n 0, 1), (26, .iload_n 1, 1), (27, .iconst 2, 1), (28, .iload 4, 2), (30, .invokevirtual 320, 3), (33, .istore 5, 2), (35, .aload_n 0, 1), (36, .iload_n 1, 1), (37, .iload 4, 2), (39, .invokevirtual 327, 3), (42, .istore 6, 2), (44, .iload 6, 2), (46, .ifCond .ne 29, 3), (49, .aload_n 0, 1), (50, .invokevirtual 218, 3), (53, .aload_n 0, 1), (54, .iload_n 1, 1), (55, .iconst 1, 1), (56, .invokevirtual 316, 3), (59, .i2l, 1), (60, .lcmp, 1), (61, .ifCond .lt 77, 3), (64, .aload_n 0, 1), (65, .bipush 20, 2), (67, .iload 5, 2), (69, .invokevirtual 208, 3), (72, .goto 66, 3), (75, .iload 6, 2), (77, .iconst 1, 1), (78, .if_icmp .ne 35, 3), (81, .aload_n 0, 1), (82, .dup, 1), (83, .getfield 202, 3), (86, .iconst 1, 1), (87, .iadd, 1), (88, .putfield 202, 3), (91, .aload_n 0, 1), (92, .iconst 0, 1), (93, .iload 5, 2), (95, .iload_n 2, 1), (96, .ifCond .le 7, 3), (99, .iconst 1, 1), (100, .goto 4, 3), (103, .iconst 0, 1), (104, .invokevirtual 354, 3), (107, .iinc 2 1, 3), (110, .goto 28, 3), (113, .iload 6, 2), (115, .iconst 2, 1), (116, .if_icmp .ne 22, 3), (119, .aload_n 0, 1), (120, .iconst 1, 1), (121, .iload 5, 2), (123, .iload_n 3, 1), (124, .ifCond .le 7, 3), (127, .iconst 1, 1), (128, .goto 4, 3), (131, .iconst 0, 1), (132, .invokevirtual 354, 3), (135, .iinc 3 1, 3), (138, .iinc 4 1, 3), (141, .goto (-134), 3), (144, .return_, 1)]
theorem D_M_checkImports : ∀ q ∈ T_M_checkImports, decode b_M_checkImports q.1 = .ok (q.2.1, q.2.2) := by decide +kernel

set_option maxHeartbeats 4000000 in
set_option maxRecDepth 100000 in
theorem am_M_checkImports_L144 (l : Launch) (hfl : l.flags = pinnedFlags ++ [noTraceFlag]) (D : va_G) (A : Nat → Prop) (σ MC MS : Nat) (h0 : xb_H) (Qr : xb_H → Prop) (h : xb_H) (hw : w_M_checkImports_L144 Qr h) : xb_am l D A σ 7 MC MS h0 (fun v h _ _ => v = none ∧ Qr h) (fun _ _ _ _ => False) y_M_checkImports.cls y_M_checkImports.name b_M_checkImports 7 ([] : List ExceptionTableEntry) none 144 [] [] h 0 0 := by
  unfold w_M_checkImports_L144 at hw
  intro p e s m args below meth c hC H locs ls k n hE hl hR hS hk hn
  obtain ⟨hx, hb, hown, hlocks, htab, hml, hr, hB, hA, hnm⟩ := id hC
  have hts := hB.1.1.at args
  exact xb_vret 0 0 hx hb hr hlocks (show k + 0 ≤ MC by omega) (show n + 0 ≤ MS by omega) hE hR hS (xb_d D_M_checkImports 77 rfl) hw

set_option maxHeartbeats 4000000 in
set_option maxRecDepth 100000 in
theorem am_M_checkImports_L138 (l : Launch) (hfl : l.flags = pinnedFlags ++ [noTraceFlag]) (D : va_G) (A : Nat → Prop) (σ MC MS : Nat) (h0 : xb_H) (Qr : xb_H → Prop) (K7 : Nat → Int32 → Int32 → Int32 → Int32 → xb_H → Prop) (hK7 : ∀ (x0 : Nat) (x1 : Int32) (x2 : Int32) (x3 : Int32) (x4 : Int32) (h : xb_H), K7 x0 x1 x2 x3 x4 h → xb_am l D A σ 7 MC MS h0 (fun v h _ _ => v = none ∧ Qr h) (fun _ _ _ _ => False) y_M_checkImports.cls y_M_checkImports.name b_M_checkImports 7 ([] : List ExceptionTableEntry) none 7 [(0, .ref x0), (1, .int x1), (2, .int x2), (3, .int x3), (4, .int x4)] [] h 0 0) (x0 : Nat) (x1 : Int32) (x2 : Int32) (x3 : Int32) (x4 : Int32) (h : xb_H) (hw : w_M_checkImports_L138 K7 Qr x0 x1 x2 x3 x4 h) : xb_am l D A σ 7 MC MS h0 (fun v h _ _ => v = none ∧ Qr h) (fun _ _ _ _ => False) y_M_checkImports.cls y_M_checkImports.name b_M_checkImports 7 ([] : List ExceptionTableEntry) none 138 [(0, .ref x0), (1, .int x1), (2, .int x2), (3, .int x3), (4, .int x4)] [] h 0 0 := by
  unfold w_M_checkImports_L138 at hw
  intro p e s m args below meth c hC H locs ls k n hE hl hR hS hk hn
  obtain ⟨hx, hb, hown, hlocks, htab, hml, hr, hB, hA, hnm⟩ := id hC
  have hts := hB.1.1.at args
  refine lv_iinc (v := (x4 + 1)) (k := 4) hx hb (xb_d D_M_checkImports 75 rfl) hl rfl (by first | rfl | decide) (by decide) rfl (fun ls hl => ?_)
  have hl : lv_has ls 7 [(4, .int (x4 + 1)), (0, .ref x0), (1, .int x1), (2, .int x2), (3, .int x3)] := hl
  refine lv_goto (tgt := 7) hx hb (xb_d D_M_checkImports 76 rfl) rfl ?_
  exact hK7 x0 x1 x2 x3 (x4 + 1) h hw p e s m args below meth c hC H locs ls k n hE (lv_sub hl [1, 2, 3, 4, 0] rfl) hR hS (by omega) (by omega)

set_option maxHeartbeats 4000000 in
set_option maxRecDepth 100000 in
theorem am_M_checkImports_L132 (l : Launch) (hfl : l.flags = pinnedFlags ++ [noTraceFlag]) (D : va_G) (A : Nat → Prop) (σ MC MS : Nat) (h0 : xb_H) (Qr : xb_H → Prop) (K7 : Nat → Int32 → Int32 → Int32 → Int32 → xb_H → Prop) (hK7 : ∀ (x0 : Nat) (x1 : Int32) (x2 : Int32) (x3 : Int32) (x4 : Int32) (h : xb_H), K7 x0 x1 x2 x3 x4 h → xb_am l D A σ 7 MC MS h0 (fun v h _ _ => v = none ∧ Qr h) (fun _ _ _ _ => False) y_M_checkImports.cls y_M_checkImports.name b_M_checkImports 7 ([] : List ExceptionTableEntry) none 7 [(0, .ref x0), (1, .int x1), (2, .int x2), (3, .int x3), (4, .int x4)] [] h 0 0) (x0 : Nat) (x1 : Int32) (x2 : Int32) (x3 : Int32) (x4 : Int32) (y0 : Int32) (y1 : Int32) (y2 : Int32) (y3 : Nat) (h : xb_H) (hw : w_M_checkImports_L132 K7 Qr x0 x1 x2 x3 x4 y0 y1 y2 y3 h) : xb_am l D A σ 7 MC MS h0 (fun v h _ _ => v = none ∧ Qr h) (fun _ _ _ _ => False) y_M_checkImports.cls y_M_checkImports.name b_M_checkImports 7 ([] : List ExceptionTableEntry) none 132 [(0, .ref x0), (1, .int x1), (2, .int x2), (3, .int x3), (4, .int x4)] [.int y0, .int y1, .int y2, .ref y3] h 0 0 := by
  unfold w_M_checkImports_L132 at hw
  intro p e s m args below meth c hC H locs ls k n hE hl hR hS hk hn
  obtain ⟨hx, hb, hown, hlocks, htab, hml, hr, hB, hA, hnm⟩ := id hC
  have hts := hB.1.1.at args
  obtain ⟨hk1, hw⟩ := hw
  refine xb_call0 (D := D) (A := A) (σ := σ) (h := h) (d := 6) (maxL := 7) (rest := []) (av := [.ref y3, .int y2, .int y1, .int y0]) (fun T hT X => by obtain ⟨cb9, ra9, rb9, rc9⟩ := xb_recv (ci := 8) hR rfl hk1 (by decide); exact xt_invV X hx hown (hts _ m_9bc902ef) (hts _ m_d2d6a5ba) (hts _ m_f84d1ef4) (xt_sigOf (hts _ m_7cec8d21)) nm_M_limitsFault (by rw [hT]; exact ra9) rb9 rc9 (g := F0 m 132 ls [.int y0, .int y1, .int y2, .ref y3]) rfl (argsL := [.int y2, .int y1, .int y0]) (rest := []) rfl rfl (by rw [hb]; exact (xb_d D_M_checkImports 73 rfl))) (ok_M_limitsFault l hfl D A σ y3 y2 y1 y0 h _ hw) (hml.trans hl.1.symm) (by rw [hb]; exact (xb_d D_M_checkImports 73 rfl)) (Nat.le_of_ble_eq_true rfl) (Nat.le_of_ble_eq_true rfl) (Nat.le_of_ble_eq_true rfl) (show k ≤ MC by omega) (show n ≤ MS by omega) (xt_w1 hB.1 m_7cec8d21) (xt_cdOf hB.1 m_7cec8d21) (hts _ m_d5ed7bed) hB hR hS hA (fun vv h2 H locs hq hEh2 hR hS => ?_)
  obtain ⟨rfl, hw⟩ := hq
  have hw := hw hEh2
  have hE := hE.tr hEh2
  refine W.eq (g2 := F0 m 135 ls []) rfl ?_
  refine lv_iinc (v := (x3 + 1)) (k := 3) hx hb (xb_d D_M_checkImports 74 rfl) hl rfl (by first | rfl | decide) (by decide) rfl (fun ls hl => ?_)
  have hl : lv_has ls 7 [(3, .int (x3 + 1)), (0, .ref x0), (1, .int x1), (2, .int x2), (4, .int x4)] := hl
  exact am_M_checkImports_L138 l hfl D A σ MC MS h0 Qr K7 hK7 x0 x1 x2 (x3 + 1) x4 h2 hw p e s m args below meth c hC H locs ls k n hE (lv_sub hl [1, 2, 3, 0, 4] rfl) hR hS (by omega) (by omega)

set_option maxHeartbeats 4000000 in
set_option maxRecDepth 100000 in
theorem am_M_checkImports_L104 (l : Launch) (hfl : l.flags = pinnedFlags ++ [noTraceFlag]) (D : va_G) (A : Nat → Prop) (σ MC MS : Nat) (h0 : xb_H) (Qr : xb_H → Prop) (K7 : Nat → Int32 → Int32 → Int32 → Int32 → xb_H → Prop) (hK7 : ∀ (x0 : Nat) (x1 : Int32) (x2 : Int32) (x3 : Int32) (x4 : Int32) (h : xb_H), K7 x0 x1 x2 x3 x4 h → xb_am l D A σ 7 MC MS h0 (fun v h _ _ => v = none ∧ Qr h) (fun _ _ _ _ => False) y_M_checkImports.cls y_M_checkImports.name b_M_checkImports 7 ([] : List ExceptionTableEntry) none 7 [(0, .ref x0), (1, .int x1), (2, .int x2), (3, .int x3), (4, .int x4)] [] h 0 0) (x0 : Nat) (x1 : Int32) (x2 : Int32) (x3 : Int32) (x4 : Int32) (y0 : Int32) (y1 : Int32) (y2 : Int32) (y3 : Nat) (h : xb_H) (hw : w_M_checkImports_L104 K7 Qr x0 x1 x2 x3 x4 y0 y1 y2 y3 h) : xb_am l D A σ 7 MC MS h0 (fun v h _ _ => v = none ∧ Qr h) (fun _ _ _ _ => False) y_M_checkImports.cls y_M_checkImports.name b_M_checkImports 7 ([] : List ExceptionTableEntry) none 104 [(0, .ref x0), (1, .int x1), (2, .int x2), (3, .int x3), (4, .int x4)] [.int y0, .int y1, .int y2, .ref y3] h 0 0 := by
  unfold w_M_checkImports_L104 at hw
  intro p e s m args below meth c hC H locs ls k n hE hl hR hS hk hn
  obtain ⟨hx, hb, hown, hlocks, htab, hml, hr, hB, hA, hnm⟩ := id hC
  have hts := hB.1.1.at args
  obtain ⟨hk1, hw⟩ := hw
  refine xb_call0 (D := D) (A := A) (σ := σ) (h := h) (d := 6) (maxL := 7) (rest := []) (av := [.ref y3, .int y2, .int y1, .int y0]) (fun T hT X => by obtain ⟨cb9, ra9, rb9, rc9⟩ := xb_recv (ci := 8) hR rfl hk1 (by decide); exact xt_invV X hx hown (hts _ m_9bc902ef) (hts _ m_d2d6a5ba) (hts _ m_f84d1ef4) (xt_sigOf (hts _ m_7cec8d21)) nm_M_limitsFault (by rw [hT]; exact ra9) rb9 rc9 (g := F0 m 104 ls [.int y0, .int y1, .int y2, .ref y3]) rfl (argsL := [.int y2, .int y1, .int y0]) (rest := []) rfl rfl (by rw [hb]; exact (xb_d D_M_checkImports 59 rfl))) (ok_M_limitsFault l hfl D A σ y3 y2 y1 y0 h _ hw) (hml.trans hl.1.symm) (by rw [hb]; exact (xb_d D_M_checkImports 59 rfl)) (Nat.le_of_ble_eq_true rfl) (Nat.le_of_ble_eq_true rfl) (Nat.le_of_ble_eq_true rfl) (show k ≤ MC by omega) (show n ≤ MS by omega) (xt_w1 hB.1 m_7cec8d21) (xt_cdOf hB.1 m_7cec8d21) (hts _ m_d5ed7bed) hB hR hS hA (fun vv h2 H locs hq hEh2 hR hS => ?_)
  obtain ⟨rfl, hw⟩ := hq
  have hw := hw hEh2
  have hE := hE.tr hEh2
  refine W.eq (g2 := F0 m 107 ls []) rfl ?_
  refine lv_iinc (v := (x2 + 1)) (k := 2) hx hb (xb_d D_M_checkImports 60 rfl) hl rfl (by first | rfl | decide) (by decide) rfl (fun ls hl => ?_)
  have hl : lv_has ls 7 [(2, .int (x2 + 1)), (0, .ref x0), (1, .int x1), (3, .int x3), (4, .int x4)] := hl
  refine lv_goto (tgt := 138) hx hb (xb_d D_M_checkImports 61 rfl) rfl ?_
  exact am_M_checkImports_L138 l hfl D A σ MC MS h0 Qr K7 hK7 x0 x1 (x2 + 1) x3 x4 h2 hw p e s m args below meth c hC H locs ls k n hE (lv_sub hl [1, 2, 0, 3, 4] rfl) hR hS (by omega) (by omega)

set_option maxHeartbeats 4000000 in
set_option maxRecDepth 100000 in
theorem am_M_checkImports_L7 (l : Launch) (hfl : l.flags = pinnedFlags ++ [noTraceFlag]) (D : va_G) (A : Nat → Prop) (σ MC MS : Nat) (h0 : xb_H) (Qr : xb_H → Prop) (n9 : Nat) : ∀ (x0 : Nat) (x1 : Int32) (x2 : Int32) (x3 : Int32) (x4 : Int32) (h : xb_H), w_M_checkImports_L7 Qr n9 x0 x1 x2 x3 x4 h → xb_am l D A σ 7 MC MS h0 (fun v h _ _ => v = none ∧ Qr h) (fun _ _ _ _ => False) y_M_checkImports.cls y_M_checkImports.name b_M_checkImports 7 ([] : List ExceptionTableEntry) none 7 [(0, .ref x0), (1, .int x1), (2, .int x2), (3, .int x3), (4, .int x4)] [] h 0 0 := by
  induction n9 with
  | zero => intro x0 x1 x2 x3 x4 h hw; exact False.elim hw
  | succ n9 ih =>
    intro x0 x1 x2 x3 x4 h hw
    unfold w_M_checkImports_L7 at hw
    intro p e s m args below meth c hC H locs ls k n hE hl hR hS hk hn
    obtain ⟨hx, hb, hown, hlocks, htab, hml, hr, hB, hA, hnm⟩ := id hC
    have hts := hB.1.1.at args
    refine lv_iload hx hb (xb_d D_M_checkImports 6 rfl) (lv_at hl 4 rfl) ?_
    refine lv_aload_n hx hb (xb_d D_M_checkImports 7 rfl) rfl (lv_at hl 0 rfl) ?_
    refine lv_iload_n hx hb (xb_d D_M_checkImports 8 rfl) rfl (lv_at hl 1 rfl) ?_
    refine lv_iconst (v := 2) hx hb (xb_d D_M_checkImports 9 rfl) (by decide) ?_
    obtain ⟨hk1, hw⟩ := hw
    refine xb_call0 (D := D) (A := A) (σ := σ) (h := h) (d := 2) (maxL := 3) (rest := [.int x4]) (av := [.ref x0, .int x1, .int 2]) (fun T hT X => by obtain ⟨cb9, ra9, rb9, rc9⟩ := xb_recv (ci := 8) hR rfl hk1 (by decide); exact xt_invV X hx hown (hts _ m_b47f62c2) (hts _ m_9f071faf) (hts _ m_e1bb5c84) (xt_sigOf (hts _ m_3a6212d6)) nm_M_manyOf (by rw [hT]; exact ra9) rb9 rc9 (g := F0 m 12 ls [.int 2, .int x1, .ref x0, .int x4]) rfl (argsL := [.int x1, .int 2]) (rest := [.int x4]) rfl rfl (by rw [hb]; exact (xb_d D_M_checkImports 10 rfl))) (ok_M_manyOf l hfl D A σ x0 x1 2 h _ hw) (hml.trans hl.1.symm) (by rw [hb]; exact (xb_d D_M_checkImports 10 rfl)) (Nat.le_of_ble_eq_true rfl) (Nat.le_of_ble_eq_true rfl) (Nat.le_of_ble_eq_true rfl) (show k ≤ MC by omega) (show n ≤ MS by omega) (xt_w1 hB.1 m_3a6212d6) (xt_cdOf hB.1 m_3a6212d6) (hts _ m_d5ed7bed) hB hR hS hA (fun vv h2 H locs hq hEh2 hR hS => ?_)
    obtain ⟨r3, rfl, hw⟩ := hq
    have hw := hw hEh2
    have hE := hE.tr hEh2
    refine W.eq (g2 := F0 m 15 ls [.int r3, .int x4]) rfl ?_
    refine lv_icmp_ge (tgt := 144) hx hb (xb_d D_M_checkImports 11 rfl) rfl (fun hc4 => ?_) (fun hc4 => ?_)
    · have hw := hw.1 hc4
      exact am_M_checkImports_L144 l hfl D A σ MC MS h0 Qr h2 hw p e s m args below meth c hC H locs ls k n hE (lv_sub hl [] rfl) hR hS (by omega) (by omega)
    · have hw := hw.2 hc4
      refine lv_aload_n hx hb (xb_d D_M_checkImports 12 rfl) rfl (lv_at hl 0 rfl) ?_
      have hk1 : xb_k h2 x0 = 9 := hEh2.k hk1
      refine xb_getI (C := R_M) (T := F_M) (N := 97) hx hb 8 17 hts fin_M hown hR hk1 (by decide) rfl (by decide) rfl (hts _ m_ff69da61) (fun _ h9 => h9) (xb_d D_M_checkImports 13 rfl) ?_
      refine lv_if_ne (tgt := 144) hx hb (xb_d D_M_checkImports 14 rfl) rfl (fun hc5 => ?_) (fun hc5 => ?_)
      · have hw := hw.1 hc5
        exact am_M_checkImports_L144 l hfl D A σ MC MS h0 Qr h2 hw p e s m args below meth c hC H locs ls k n hE (lv_sub hl [] rfl) hR hS (by omega) (by omega)
      · have hw := hw.2 hc5
        refine lv_aload_n hx hb (xb_d D_M_checkImports 15 rfl) rfl (lv_at hl 0 rfl) ?_
        refine lv_iload_n hx hb (xb_d D_M_checkImports 16 rfl) rfl (lv_at hl 1 rfl) ?_
        refine lv_iconst (v := 2) hx hb (xb_d D_M_checkImports 17 rfl) (by decide) ?_
        refine lv_iload hx hb (xb_d D_M_checkImports 18 rfl) (lv_at hl 4 rfl) ?_
        refine xb_call0 (D := D) (A := A) (σ := σ) (h := h2) (d := 2) (maxL := 4) (rest := []) (av := [.ref x0, .int x1, .int 2, .int x4]) (fun T hT X => by obtain ⟨cb9, ra9, rb9, rc9⟩ := xb_recv (ci := 8) hR rfl hk1 (by decide); exact xt_invV X hx hown (hts _ m_7f41753e) (hts _ m_8cdd7108) (hts _ m_e228318f) (xt_sigOf (hts _ m_89667ad5)) nm_M_placeOf (by rw [hT]; exact ra9) rb9 rc9 (g := F0 m 30 ls [.int x4, .int 2, .int x1, .ref x0]) rfl (argsL := [.int x1, .int 2, .int x4]) (rest := []) rfl rfl (by rw [hb]; exact (xb_d D_M_checkImports 19 rfl))) (ok_M_placeOf l hfl D A σ x0 x1 2 x4 h2 _ hw) (hml.trans hl.1.symm) (by rw [hb]; exact (xb_d D_M_checkImports 19 rfl)) (Nat.le_of_ble_eq_true rfl) (Nat.le_of_ble_eq_true rfl) (Nat.le_of_ble_eq_true rfl) (show k ≤ MC by omega) (show n ≤ MS by omega) (xt_w1 hB.1 m_89667ad5) (xt_cdOf hB.1 m_89667ad5) (hts _ m_d5ed7bed) hB hR hS hA (fun vv h6 H locs hq hEh6 hR hS => ?_)
        obtain ⟨r7, rfl, hw⟩ := hq
        have hw := hw hEh6
        have hE := hE.tr hEh6
        refine W.eq (g2 := F0 m 33 ls [.int r7]) rfl ?_
        refine lv_istore hx hb (xb_d D_M_checkImports 20 rfl) hl (by decide) rfl (fun ls hl => ?_)
        have hl : lv_has ls 7 [(5, .int r7), (0, .ref x0), (1, .int x1), (2, .int x2), (3, .int x3), (4, .int x4)] := hl
        refine lv_aload_n hx hb (xb_d D_M_checkImports 21 rfl) rfl (lv_at hl 1 rfl) ?_
        refine lv_iload_n hx hb (xb_d D_M_checkImports 22 rfl) rfl (lv_at hl 2 rfl) ?_
        refine lv_iload hx hb (xb_d D_M_checkImports 23 rfl) (lv_at hl 5 rfl) ?_
        have hk1 : xb_k h6 x0 = 9 := hEh6.k hk1
        refine xb_call0 (D := D) (A := A) (σ := σ) (h := h6) (d := 6) (maxL := 3) (rest := []) (av := [.ref x0, .int x1, .int x4]) (fun T hT X => by obtain ⟨cb9, ra9, rb9, rc9⟩ := xb_recv (ci := 8) hR rfl hk1 (by decide); exact xt_invV X hx hown (hts _ m_eabb9d5c) (hts _ m_79671d92) (hts _ m_0429489b) (xt_sigOf (hts _ m_2f1c0a34)) nm_M_importAt (by rw [hT]; exact ra9) rb9 rc9 (g := F0 m 39 ls [.int x4, .int x1, .ref x0]) rfl (argsL := [.int x1, .int x4]) (rest := []) rfl rfl (by rw [hb]; exact (xb_d D_M_checkImports 24 rfl))) (ok_M_importAt l hfl D A σ x0 x1 x4 h6 _ hw) (hml.trans hl.1.symm) (by rw [hb]; exact (xb_d D_M_checkImports 24 rfl)) (Nat.le_of_ble_eq_true rfl) (Nat.le_of_ble_eq_true rfl) (Nat.le_of_ble_eq_true rfl) (show k ≤ MC by omega) (show n ≤ MS by omega) (xt_w1 hB.1 m_2f1c0a34) (xt_cdOf hB.1 m_2f1c0a34) (hts _ m_d5ed7bed) hB hR hS hA (fun vv h8 H locs hq hEh8 hR hS => ?_)
        obtain ⟨r9, rfl, hw⟩ := hq
        have hw := hw hEh8
        have hE := hE.tr hEh8
        refine W.eq (g2 := F0 m 42 ls [.int r9]) rfl ?_
        refine lv_istore hx hb (xb_d D_M_checkImports 25 rfl) hl (by decide) rfl (fun ls hl => ?_)
        have hl : lv_has ls 7 [(6, .int r9), (5, .int r7), (0, .ref x0), (1, .int x1), (2, .int x2), (3, .int x3), (4, .int x4)] := hl
        refine lv_iload hx hb (xb_d D_M_checkImports 26 rfl) (lv_at hl 0 rfl) ?_
        refine lv_if_ne (tgt := 75) hx hb (xb_d D_M_checkImports 27 rfl) rfl (fun hc10 => ?_) (fun hc10 => ?_)
        · have hw := hw.1 hc10
          refine lv_iload hx hb (xb_d D_M_checkImports 42 rfl) (lv_at hl 0 rfl) ?_
          refine lv_iconst (v := 1) hx hb (xb_d D_M_checkImports 43 rfl) (by decide) ?_
          refine lv_icmp_ne (tgt := 113) hx hb (xb_d D_M_checkImports 44 rfl) rfl (fun hc11 => ?_) (fun hc11 => ?_)
          · have hw := hw.1 hc11
            refine lv_iload hx hb (xb_d D_M_checkImports 62 rfl) (lv_at hl 0 rfl) ?_
            refine lv_iconst (v := 2) hx hb (xb_d D_M_checkImports 63 rfl) (by decide) ?_
            refine lv_icmp_ne (tgt := 138) hx hb (xb_d D_M_checkImports 64 rfl) rfl (fun hc12 => ?_) (fun hc12 => ?_)
            · have hw := hw.1 hc12
              exact am_M_checkImports_L138 l hfl D A σ MC MS h0 Qr (w_M_checkImports_L7 Qr n9) ih x0 x1 x2 x3 x4 h8 hw p e s m args below meth c hC H locs ls k n hE (lv_sub hl [2, 3, 4, 5, 6] rfl) hR hS (by omega) (by omega)
            · have hw := hw.2 hc12
              refine lv_aload_n hx hb (xb_d D_M_checkImports 65 rfl) rfl (lv_at hl 2 rfl) ?_
              refine lv_iconst (v := 1) hx hb (xb_d D_M_checkImports 66 rfl) (by decide) ?_
              refine lv_iload hx hb (xb_d D_M_checkImports 67 rfl) (lv_at hl 1 rfl) ?_
              refine lv_iload_n hx hb (xb_d D_M_checkImports 68 rfl) rfl (lv_at hl 5 rfl) ?_
              refine lv_if_le (tgt := 131) hx hb (xb_d D_M_checkImports 69 rfl) rfl (fun hc13 => ?_) (fun hc13 => ?_)
              · have hw := hw.1 hc13
                refine lv_iconst (v := 0) hx hb (xb_d D_M_checkImports 72 rfl) (by decide) ?_
                exact am_M_checkImports_L132 l hfl D A σ MC MS h0 Qr (w_M_checkImports_L7 Qr n9) ih x0 x1 x2 x3 x4 0 r7 1 x0 h8 hw p e s m args below meth c hC H locs ls k n hE (lv_sub hl [2, 3, 4, 5, 6] rfl) hR hS (by omega) (by omega)
              · have hw := hw.2 hc13
                refine lv_iconst (v := 1) hx hb (xb_d D_M_checkImports 70 rfl) (by decide) ?_
                refine lv_goto (tgt := 132) hx hb (xb_d D_M_checkImports 71 rfl) rfl ?_
                exact am_M_checkImports_L132 l hfl D A σ MC MS h0 Qr (w_M_checkImports_L7 Qr n9) ih x0 x1 x2 x3 x4 1 r7 1 x0 h8 hw p e s m args below meth c hC H locs ls k n hE (lv_sub hl [2, 3, 4, 5, 6] rfl) hR hS (by omega) (by omega)
          · have hw := hw.2 hc11
            refine lv_aload_n hx hb (xb_d D_M_checkImports 45 rfl) rfl (lv_at hl 2 rfl) ?_
            refine lv_dup hx hb (xb_d D_M_checkImports 46 rfl) rfl ?_
            have hk1 : xb_k h8 x0 = 9 := hEh8.k hk1
            refine xb_getI (C := R_M) (T := F_M) (N := 97) hx hb 8 15 hts fin_M hown hR hk1 (by decide) rfl (by decide) rfl (hts _ m_6c2d27ad) (fun _ h9 => h9) (xb_d D_M_checkImports 47 rfl) ?_
            refine lv_iconst (v := 1) hx hb (xb_d D_M_checkImports 48 rfl) (by decide) ?_
            refine lv_iadd hx hb (xb_d D_M_checkImports 49 rfl) ?_
            refine xb_putI (C := R_M) (T := F_M) (N := 97) (ty := .int) (x := ((xb_i h8 x0 15) + 1)) hx hb 8 15 hts fin_M t_M t_M_ok n_M hown hR hS hk1 (by decide) rfl (by decide) rfl (hts _ m_6c2d27ad) (fun _ h9 => h9) rfl (by decide +kernel) rfl rfl (xb_d D_M_checkImports 50 rfl) (fun H locs hR hS => ?_)
            obtain ⟨h14, eh14⟩ : ∃ x : xb_H, x = xb_I h8 x0 15 ((xb_i h8 x0 15) + 1) := ⟨_, rfl⟩
            rw [← eh14] at hR
            have hw := hw h14 eh14
            have hE : xb_ext h0 h14 := by rw [eh14]; exact hE
            refine lv_aload_n hx hb (xb_d D_M_checkImports 51 rfl) rfl (lv_at hl 2 rfl) ?_
            refine lv_iconst (v := 0) hx hb (xb_d D_M_checkImports 52 rfl) (by decide) ?_
            refine lv_iload hx hb (xb_d D_M_checkImports 53 rfl) (lv_at hl 1 rfl) ?_
            refine lv_iload_n hx hb (xb_d D_M_checkImports 54 rfl) rfl (lv_at hl 4 rfl) ?_
            refine lv_if_le (tgt := 103) hx hb (xb_d D_M_checkImports 55 rfl) rfl (fun hc15 => ?_) (fun hc15 => ?_)
            · have hw := hw.1 hc15
              refine lv_iconst (v := 0) hx hb (xb_d D_M_checkImports 58 rfl) (by decide) ?_
              exact am_M_checkImports_L104 l hfl D A σ MC MS h0 Qr (w_M_checkImports_L7 Qr n9) ih x0 x1 x2 x3 x4 0 r7 0 x0 h14 hw p e s m args below meth c hC H locs ls k n hE (lv_sub hl [2, 3, 4, 5, 6] rfl) hR hS (by omega) (by omega)
            · have hw := hw.2 hc15
              refine lv_iconst (v := 1) hx hb (xb_d D_M_checkImports 56 rfl) (by decide) ?_
              refine lv_goto (tgt := 104) hx hb (xb_d D_M_checkImports 57 rfl) rfl ?_
              exact am_M_checkImports_L104 l hfl D A σ MC MS h0 Qr (w_M_checkImports_L7 Qr n9) ih x0 x1 x2 x3 x4 1 r7 0 x0 h14 hw p e s m args below meth c hC H locs ls k n hE (lv_sub hl [2, 3, 4, 5, 6] rfl) hR hS (by omega) (by omega)
        · have hw := hw.2 hc10
          refine lv_aload_n hx hb (xb_d D_M_checkImports 28 rfl) rfl (lv_at hl 2 rfl) ?_
          have hk1 : xb_k h8 x0 = 9 := hEh8.k hk1
          refine xb_call0 (D := D) (A := A) (σ := σ) (h := h8) (d := 4) (maxL := 5) (rest := []) (av := [.ref x0]) (fun T hT X => by obtain ⟨cb9, ra9, rb9, rc9⟩ := xb_recv (ci := 8) hR rfl hk1 (by decide); exact xt_invV X hx hown (hts _ m_e991293f) (hts _ m_385a74b3) (hts _ m_c9fbcd02) (xt_sigOf (hts _ m_1f53f210)) nm_M_count (by rw [hT]; exact ra9) rb9 rc9 (g := F0 m 50 ls [.ref x0]) rfl (argsL := []) (rest := []) rfl rfl (by rw [hb]; exact (xb_d D_M_checkImports 29 rfl))) (ok_M_count l hfl D A σ x0 h8 _ hw) (hml.trans hl.1.symm) (by rw [hb]; exact (xb_d D_M_checkImports 29 rfl)) (Nat.le_of_ble_eq_true rfl) (Nat.le_of_ble_eq_true rfl) (Nat.le_of_ble_eq_true rfl) (show k ≤ MC by omega) (show n ≤ MS by omega) (xt_w1 hB.1 m_1f53f210) (xt_cdOf hB.1 m_1f53f210) (hts _ m_d5ed7bed) hB hR hS hA (fun vv h16 H locs hq hEh16 hR hS => ?_)
          obtain ⟨r17, rfl, hw⟩ := hq
          have hw := hw hEh16
          have hE := hE.tr hEh16
          refine W.eq (g2 := F0 m 53 ls [.long r17]) rfl ?_
          refine lv_aload_n hx hb (xb_d D_M_checkImports 30 rfl) rfl (lv_at hl 2 rfl) ?_
          refine lv_iload_n hx hb (xb_d D_M_checkImports 31 rfl) rfl (lv_at hl 3 rfl) ?_
          refine lv_iconst (v := 1) hx hb (xb_d D_M_checkImports 32 rfl) (by decide) ?_
          have hk1 : xb_k h16 x0 = 9 := hEh16.k hk1
          refine xb_call0 (D := D) (A := A) (σ := σ) (h := h16) (d := 2) (maxL := 3) (rest := [.long r17]) (av := [.ref x0, .int x1, .int 1]) (fun T hT X => by obtain ⟨cb9, ra9, rb9, rc9⟩ := xb_recv (ci := 8) hR rfl hk1 (by decide); exact xt_invV X hx hown (hts _ m_b47f62c2) (hts _ m_9f071faf) (hts _ m_e1bb5c84) (xt_sigOf (hts _ m_3a6212d6)) nm_M_manyOf (by rw [hT]; exact ra9) rb9 rc9 (g := F0 m 56 ls [.int 1, .int x1, .ref x0, .long r17]) rfl (argsL := [.int x1, .int 1]) (rest := [.long r17]) rfl rfl (by rw [hb]; exact (xb_d D_M_checkImports 33 rfl))) (ok_M_manyOf l hfl D A σ x0 x1 1 h16 _ hw) (hml.trans hl.1.symm) (by rw [hb]; exact (xb_d D_M_checkImports 33 rfl)) (Nat.le_of_ble_eq_true rfl) (Nat.le_of_ble_eq_true rfl) (Nat.le_of_ble_eq_true rfl) (show k ≤ MC by omega) (show n ≤ MS by omega) (xt_w1 hB.1 m_3a6212d6) (xt_cdOf hB.1 m_3a6212d6) (hts _ m_d5ed7bed) hB hR hS hA (fun vv h18 H locs hq hEh18 hR hS => ?_)
          obtain ⟨r19, rfl, hw⟩ := hq
          have hw := hw hEh18
          have hE := hE.tr hEh18
          refine W.eq (g2 := F0 m 59 ls [.int r19, .long r17]) rfl ?_
          refine lv_i2l hx hb (xb_d D_M_checkImports 34 rfl) rfl ?_
          refine xb_lc_lt (tgt := 138) hx hb (xb_d D_M_checkImports 35 rfl) (xb_d D_M_checkImports 36 rfl) rfl (fun hc20 => ?_) (fun hc20 => ?_)
          · have hw := hw.1 hc20
            exact am_M_checkImports_L138 l hfl D A σ MC MS h0 Qr (w_M_checkImports_L7 Qr n9) ih x0 x1 x2 x3 x4 h18 hw p e s m args below meth c hC H locs ls k n hE (lv_sub hl [2, 3, 4, 5, 6] rfl) hR hS (by omega) (by omega)
          · have hw := hw.2 hc20
            refine lv_aload_n hx hb (xb_d D_M_checkImports 37 rfl) rfl (lv_at hl 2 rfl) ?_
            refine lv_bipush (v := 20) hx hb (xb_d D_M_checkImports 38 rfl) (by decide) ?_
            refine lv_iload hx hb (xb_d D_M_checkImports 39 rfl) (lv_at hl 1 rfl) ?_
            have hk1 : xb_k h18 x0 = 9 := hEh18.k hk1
            refine xb_call0 (D := D) (A := A) (σ := σ) (h := h18) (d := 2) (maxL := 3) (rest := []) (av := [.ref x0, .int 20, .int r7]) (fun T hT X => by obtain ⟨cb9, ra9, rb9, rc9⟩ := xb_recv (ci := 8) hR rfl hk1 (by decide); exact xt_invV X hx hown (hts _ m_939052ad) (hts _ m_29cc8c73) (hts _ m_3b1ac7ab) (xt_sigOf (hts _ m_8f062ecd)) nm_M_fail (by rw [hT]; exact ra9) rb9 rc9 (g := F0 m 69 ls [.int r7, .int 20, .ref x0]) rfl (argsL := [.int 20, .int r7]) (rest := []) rfl rfl (by rw [hb]; exact (xb_d D_M_checkImports 40 rfl))) (ok_M_fail l hfl D A σ x0 20 r7 h18 _ hw) (hml.trans hl.1.symm) (by rw [hb]; exact (xb_d D_M_checkImports 40 rfl)) (Nat.le_of_ble_eq_true rfl) (Nat.le_of_ble_eq_true rfl) (Nat.le_of_ble_eq_true rfl) (show k ≤ MC by omega) (show n ≤ MS by omega) (xt_w1 hB.1 m_8f062ecd) (xt_cdOf hB.1 m_8f062ecd) (hts _ m_d5ed7bed) hB hR hS hA (fun vv h21 H locs hq hEh21 hR hS => ?_)
            obtain ⟨rfl, hw⟩ := hq
            have hw := hw hEh21
            have hE := hE.tr hEh21
            refine W.eq (g2 := F0 m 72 ls []) rfl ?_
            refine lv_goto (tgt := 138) hx hb (xb_d D_M_checkImports 41 rfl) rfl ?_
            exact am_M_checkImports_L138 l hfl D A σ MC MS h0 Qr (w_M_checkImports_L7 Qr n9) ih x0 x1 x2 x3 x4 h21 hw p e s m args below meth c hC H locs ls k n hE (lv_sub hl [2, 3, 4, 5, 6] rfl) hR hS (by omega) (by omega)

set_option maxHeartbeats 4000000 in
set_option maxRecDepth 100000 in
theorem ok_M_checkImports (l : Launch) (hfl : l.flags = pinnedFlags ++ [noTraceFlag]) (D : va_G) (A : Nat → Prop) (σ : Nat) (x0 : Nat) (x1 : Int32) (h : xb_H) (Qr : xb_H → Prop) (hw : w_M_checkImports x0 x1 h Qr) : xb_Met l y_M_checkImports [.code y_M_checkImports b_M_checkImports 7 none] (xb_rm 7 0 0) (xb_Pc D A σ h [.ref x0, .int x1]) (xb_Qc D A h 0 0 (fun v h _ _ => v = none ∧ Qr h) (fun _ _ _ _ => False)) A := by
  refine xb_ofAm (cc := b_M_checkImports) (by decide) (Nat.le_of_ble_eq_true rfl) ?_
  unfold w_M_checkImports at hw
  show xb_am l D A σ 7 0 0 h (fun v h _ _ => v = none ∧ Qr h) (fun _ _ _ _ => False) y_M_checkImports.cls y_M_checkImports.name b_M_checkImports 7 ([] : List ExceptionTableEntry) none 0 [(0, .ref x0), (1, .int x1)] [] h 0 0
  obtain ⟨MC, hMC⟩ : ∃ x, x = 0 := ⟨_, rfl⟩
  obtain ⟨MS, hMS⟩ : ∃ x, x = 0 := ⟨_, rfl⟩
  rw [show xb_am l D A σ 7 0 0 = xb_am l D A σ 7 MC MS by rw [hMC, hMS]]
  obtain ⟨h0, hh0⟩ : ∃ x, x = h := ⟨_, rfl⟩
  rw [show xb_am l D A σ 7 MC MS h = xb_am l D A σ 7 MC MS h0 by rw [hh0]]
  intro p e s m args below meth c hC H locs ls k n hE hl hR hS hk hn
  obtain ⟨hx, hb, hown, hlocks, htab, hml, hr, hB, hA, hnm⟩ := id hC
  have hts := hB.1.1.at args
  refine lv_iconst (v := 0) hx hb (xb_d D_M_checkImports 0 rfl) (by decide) ?_
  refine lv_istore_n hx hb (xb_d D_M_checkImports 1 rfl) rfl hl (by decide) rfl (fun ls hl => ?_)
  have hl : lv_has ls 7 [(2, .int 0), (0, .ref x0), (1, .int x1)] := hl
  refine lv_iconst (v := 0) hx hb (xb_d D_M_checkImports 2 rfl) (by decide) ?_
  refine lv_istore_n hx hb (xb_d D_M_checkImports 3 rfl) rfl hl (by decide) rfl (fun ls hl => ?_)
  have hl : lv_has ls 7 [(3, .int 0), (2, .int 0), (0, .ref x0), (1, .int x1)] := hl
  refine lv_iconst (v := 0) hx hb (xb_d D_M_checkImports 4 rfl) (by decide) ?_
  refine lv_istore hx hb (xb_d D_M_checkImports 5 rfl) hl (by decide) rfl (fun ls hl => ?_)
  have hl : lv_has ls 7 [(4, .int 0), (3, .int 0), (2, .int 0), (0, .ref x0), (1, .int x1)] := hl
  obtain ⟨n8, hw⟩ := hw
  exact am_M_checkImports_L7 l hfl D A σ MC MS h0 Qr n8 x0 x1 0 0 0 h hw p e s m args below meth c hC H locs ls k n hE (lv_sub hl [3, 4, 2, 1, 0] rfl) hR hS (by omega) (by omega)

theorem m_c71d5853 : (.methodLink "StackHostModel" 486 y_M_exportKind : Cond) ∈ xt_tbl := xt_in (xt_t12 (List.mem_of_getElem? (i := 54) (by decide +kernel))) (by decide +kernel)
theorem m_3fd4c934 : (.instanceMethod y_M_exportKind : Cond) ∈ xt_tbl := xt_in (xt_t12 (List.mem_of_getElem? (i := 56) (by decide +kernel))) (by decide +kernel)
theorem m_0b430860 : (.selects "StackHostModel" y_M_exportKind y_M_exportKind : Cond) ∈ xt_tbl := xt_in (xt_v13 (q := (⟨"StackHostModel", "exportKind", "(II)I"⟩, 97)) (List.mem_of_getElem? (i := 6) (by decide +kernel))) (by decide +kernel)
theorem m_c14fc813 : (.code y_M_exportKind b_M_exportKind 3 (some .int) : Cond) ∈ xt_tbl := xt_in (xt_t12 (List.mem_of_getElem? (i := 57) (by decide +kernel))) (by decide +kernel)
theorem nm_M_exportKind : xt_nm y_M_exportKind 2 := ⟨by decide +kernel, by decide +kernel⟩
set_option maxRecDepth 100000 in
def T_M_exportNumber : List (Nat × Instr × Nat) := [(0, .aload_n 0, 1), (1, .iload_n 1, 1), (2, .iload_n 2, 1), (3, .invokevirtual 486, 3), (6, .pop, 1), (7, .aload_n 0, 1), (8, .invokevirtual 218, 3), (11, .l2i, 1), (12, .ireturn, 1)]
theorem D_M_exportNumber : ∀ q ∈ T_M_exportNumber, decode b_M_exportNumber q.1 = .ok (q.2.1, q.2.2) := by decide +kernel

set_option maxHeartbeats 4000000 in
set_option maxRecDepth 100000 in
theorem ok_M_exportNumber (l : Launch) (hfl : l.flags = pinnedFlags ++ [noTraceFlag]) (D : va_G) (A : Nat → Prop) (σ : Nat) (x0 : Nat) (x1 : Int32) (x2 : Int32) (h : xb_H) (Qr : Int32 → xb_H → Prop) (hw : w_M_exportNumber x0 x1 x2 h Qr) : xb_Met l y_M_exportNumber [.code y_M_exportNumber b_M_exportNumber 3 (some .int)] (xb_rm 7 0 0) (xb_Pc D A σ h [.ref x0, .int x1, .int x2]) (xb_Qc D A h 0 0 (fun v h _ _ => ∃ r, v = some (.int r) ∧ Qr r h) (fun _ _ _ _ => False)) A := by
  refine xb_ofAm (cc := b_M_exportNumber) (by decide) (Nat.le_of_ble_eq_true rfl) ?_
  unfold w_M_exportNumber at hw
  show xb_am l D A σ 7 0 0 h (fun v h _ _ => ∃ r, v = some (.int r) ∧ Qr r h) (fun _ _ _ _ => False) y_M_exportNumber.cls y_M_exportNumber.name b_M_exportNumber 3 ([] : List ExceptionTableEntry) (some .int) 0 [(0, .ref x0), (1, .int x1), (2, .int x2)] [] h 0 0
  obtain ⟨MC, hMC⟩ : ∃ x, x = 0 := ⟨_, rfl⟩
  obtain ⟨MS, hMS⟩ : ∃ x, x = 0 := ⟨_, rfl⟩
  rw [show xb_am l D A σ 7 0 0 = xb_am l D A σ 7 MC MS by rw [hMC, hMS]]
  obtain ⟨h0, hh0⟩ : ∃ x, x = h := ⟨_, rfl⟩
  rw [show xb_am l D A σ 7 MC MS h = xb_am l D A σ 7 MC MS h0 by rw [hh0]]
  intro p e s m args below meth c hC H locs ls k n hE hl hR hS hk hn
  obtain ⟨hx, hb, hown, hlocks, htab, hml, hr, hB, hA, hnm⟩ := id hC
  have hts := hB.1.1.at args
  refine lv_aload_n hx hb (xb_d D_M_exportNumber 0 rfl) rfl (lv_at hl 0 rfl) ?_
  refine lv_iload_n hx hb (xb_d D_M_exportNumber 1 rfl) rfl (lv_at hl 1 rfl) ?_
  refine lv_iload_n hx hb (xb_d D_M_exportNumber 2 rfl) rfl (lv_at hl 2 rfl) ?_
  obtain ⟨hk1, hw⟩ := hw
  refine xb_call0 (D := D) (A := A) (σ := σ) (h := h) (d := 6) (maxL := 3) (rest := []) (av := [.ref x0, .int x1, .int x2]) (fun T hT X => by obtain ⟨cb9, ra9, rb9, rc9⟩ := xb_recv (ci := 8) hR rfl hk1 (by decide); exact xt_invV X hx hown (hts _ m_c71d5853) (hts _ m_3fd4c934) (hts _ m_0b430860) (xt_sigOf (hts _ m_c14fc813)) nm_M_exportKind (by rw [hT]; exact ra9) rb9 rc9 (g := F0 m 3 ls [.int x2, .int x1, .ref x0]) rfl (argsL := [.int x1, .int x2]) (rest := []) rfl rfl (by rw [hb]; exact (xb_d D_M_exportNumber 3 rfl))) (ok_M_exportKind l hfl D A σ x0 x1 x2 h _ hw) (hml.trans hl.1.symm) (by rw [hb]; exact (xb_d D_M_exportNumber 3 rfl)) (Nat.le_of_ble_eq_true rfl) (Nat.le_of_ble_eq_true rfl) (Nat.le_of_ble_eq_true rfl) (show k ≤ MC by omega) (show n ≤ MS by omega) (xt_w1 hB.1 m_c14fc813) (xt_cdOf hB.1 m_c14fc813) (hts _ m_d5ed7bed) hB hR hS hA (fun vv h2 H locs hq hEh2 hR hS => ?_)
  obtain ⟨r3, rfl, hw⟩ := hq
  have hw := hw hEh2
  have hE := hE.tr hEh2
  refine W.eq (g2 := F0 m 6 ls [.int r3]) rfl ?_
  refine lv_pop hx hb (xb_d D_M_exportNumber 4 rfl) rfl ?_
  refine lv_aload_n hx hb (xb_d D_M_exportNumber 5 rfl) rfl (lv_at hl 0 rfl) ?_
  have hk1 : xb_k h2 x0 = 9 := hEh2.k hk1
  refine xb_call0 (D := D) (A := A) (σ := σ) (h := h2) (d := 4) (maxL := 5) (rest := []) (av := [.ref x0]) (fun T hT X => by obtain ⟨cb9, ra9, rb9, rc9⟩ := xb_recv (ci := 8) hR rfl hk1 (by decide); exact xt_invV X hx hown (hts _ m_e991293f) (hts _ m_385a74b3) (hts _ m_c9fbcd02) (xt_sigOf (hts _ m_1f53f210)) nm_M_count (by rw [hT]; exact ra9) rb9 rc9 (g := F0 m 8 ls [.ref x0]) rfl (argsL := []) (rest := []) rfl rfl (by rw [hb]; exact (xb_d D_M_exportNumber 6 rfl))) (ok_M_count l hfl D A σ x0 h2 _ hw) (hml.trans hl.1.symm) (by rw [hb]; exact (xb_d D_M_exportNumber 6 rfl)) (Nat.le_of_ble_eq_true rfl) (Nat.le_of_ble_eq_true rfl) (Nat.le_of_ble_eq_true rfl) (show k ≤ MC by omega) (show n ≤ MS by omega) (xt_w1 hB.1 m_1f53f210) (xt_cdOf hB.1 m_1f53f210) (hts _ m_d5ed7bed) hB hR hS hA (fun vv h4 H locs hq hEh4 hR hS => ?_)
  obtain ⟨r5, rfl, hw⟩ := hq
  have hw := hw hEh4
  have hE := hE.tr hEh4
  refine W.eq (g2 := F0 m 11 ls [.long r5]) rfl ?_
  refine lv_l2i hx hb (xb_d D_M_exportNumber 7 rfl) rfl ?_
  exact xb_iret 0 0 hx hb hr hlocks (show k + 0 ≤ MC by omega) (show n + 0 ≤ MS by omega) hE hR hS (xb_d D_M_exportNumber 8 rfl) hw

theorem m_9a2ddc48 : (.methodLink "StackHostModel" 259 y_M_written : Cond) ∈ xt_tbl := xt_in (xt_t11 (List.mem_of_getElem? (i := 40) (by decide +kernel))) (by decide +kernel)
theorem m_7986a93e : (.instanceMethod y_M_written : Cond) ∈ xt_tbl := xt_in (xt_t11 (List.mem_of_getElem? (i := 42) (by decide +kernel))) (by decide +kernel)
theorem m_abba4888 : (.selects "StackHostModel" y_M_written y_M_written : Cond) ∈ xt_tbl := xt_in (xt_v10 (q := (⟨"StackHostModel", "written", "(II)V"⟩, 97)) (List.mem_of_getElem? (i := 3) (by decide +kernel))) (by decide +kernel)
theorem m_a433953a : (.code y_M_written b_M_written 4 none : Cond) ∈ xt_tbl := xt_in (xt_t11 (List.mem_of_getElem? (i := 43) (by decide +kernel))) (by decide +kernel)
theorem nm_M_written : xt_nm y_M_written 2 := ⟨by decide +kernel, by decide +kernel⟩
set_option maxRecDepth 100000 in
def T_M_expression : List (Nat × Instr × Nat) := [(0, .iconst 0, 1), (1, .istore_n 1, 1), (2, .iconst 1, 1), (3, .istore_n 2, 1), (4, .iload_n 2, 1), (5, .ifCond .eq 149, 3), (8, .aload_n 0, 1), (9, .getfield 193, 3), (12, .ifCond .ne 142, 3), (15, .aload_n 0, 1), (16, .getfield 202, 3), (19, .istore_n 3, 1), (20, .aload_n 0, 1), (21, .invokevirtual 212, 3), (24, .istore 4, 2), (26, .aload_n 0, 1), (27, .getfield 193, 3), (30, .ifCond .eq 4, 3), (33, .return_, 1), (34, .iload 4, 2), (36, .iconst 2, 1), (37, .if_icmp .lt 37, 3), (40, .iload 4, 2), (42, .iconst 4, 1), (43, .if_icmp .gt 31, 3), (46, .iload_n 1, 1), (47, .sipush 200, 3), (50, .if_icmp .ne 10, 3), (53, .aload_n 0, 1), (54, .bipush 10, 2), (56, .iload_n 3, 1), (57, .invokevirtual 208, 3), (60, .aload_n 0, 1), (61, .getfield 46, 3), (64, .iload_n 1, 1), (65, .iload 4, 2), (67, .iastore, 1), (68, .iinc 1 1, 3), (71, .goto 66, 3), (74, .iload 4, 2), (76, .iconst 5, 1), (77, .if_icmp .ne 40, 3), (80, .iload_n 1, 1), (81, .ifCond .eq 15, 3), (84, .aload_n 0, 1), (85, .getfield 46, 3), (88, .iload_n 1, 1), (89, .iconst 1, 1), (90, .isub, 1), (91, .iaload, 1), (92, .iconst 4, 1), (93, .if_icmp .eq 12, 3), (96, .aload_n 0, 1), (97, .iconst 5, 1), (98, .iload_n 3, 1), (99, .invokevirtual 208, 3), (102, .goto 35, 3), (105, .aload_n 0, 1), (106, .getfield 46, 3), (109, .iload_n 1, 1), (110, .iconst 1, 1), (111, .isub, 1), (112, .iconst 5, 1), (113, .iastore, 1), (114, .goto 23, 3), (117, .iload 4, 2), (119, .bipush 11, 2), (121, .if_icmp .ne 16, 3), (124, .iload_n 1, 1), (125, .ifCond .le 7, 3), (128, .iconst 1, 1), (129, .goto 4, 3), (132, .iconst 0, 1), (133, .istore_n 2, 1), (134, .iinc 1 (-1), 3), (137, .aload_n 0, 1), (138, .getfield 193, 3), (141, .ifCond .ne 10, 3), (144, .aload_n 0, 1), (145, .iload 4, 2), (147, .iload_n 3, 1), (148, .invokevirtual 259, 3), (151, .goto (-147), 3), (154, .return_, 1)]
theorem D_M_expression : ∀ q ∈ T_M_expression, decode b_M_expression q.1 = .ok (q.2.1, q.2.2) := by decide +kernel

set_option maxHeartbeats 4000000 in
set_option maxRecDepth 100000 in
theorem am_M_expression_L154 (l : Launch) (hfl : l.flags = pinnedFlags ++ [noTraceFlag]) (D : va_G) (A : Nat → Prop) (σ MC MS : Nat) (h0 : xb_H) (Qr : xb_H → Prop) (h : xb_H) (hw : w_M_expression_L154 Qr h) : xb_am l D A σ 7 MC MS h0 (fun v h _ _ => v = none ∧ Qr h) (fun _ _ _ _ => False) y_M_expression.cls y_M_expression.name b_M_expression 5 ([] : List ExceptionTableEntry) none 154 [] [] h 0 0 := by
  unfold w_M_expression_L154 at hw
  intro p e s m args below meth c hC H locs ls k n hE hl hR hS hk hn
  obtain ⟨hx, hb, hown, hlocks, htab, hml, hr, hB, hA, hnm⟩ := id hC
  have hts := hB.1.1.at args
  exact xb_vret 0 0 hx hb hr hlocks (show k + 0 ≤ MC by omega) (show n + 0 ≤ MS by omega) hE hR hS (xb_d D_M_expression 83 rfl) hw

set_option maxHeartbeats 4000000 in
set_option maxRecDepth 100000 in
theorem am_M_expression_L151 (l : Launch) (hfl : l.flags = pinnedFlags ++ [noTraceFlag]) (D : va_G) (A : Nat → Prop) (σ MC MS : Nat) (h0 : xb_H) (Qr : xb_H → Prop) (K4 : Nat → Int32 → Int32 → xb_H → Prop) (hK4 : ∀ (x0 : Nat) (x1 : Int32) (x2 : Int32) (h : xb_H), K4 x0 x1 x2 h → xb_am l D A σ 7 MC MS h0 (fun v h _ _ => v = none ∧ Qr h) (fun _ _ _ _ => False) y_M_expression.cls y_M_expression.name b_M_expression 5 ([] : List ExceptionTableEntry) none 4 [(0, .ref x0), (1, .int x1), (2, .int x2)] [] h 0 0) (x0 : Nat) (x1 : Int32) (x2 : Int32) (h : xb_H) (hw : w_M_expression_L151 K4 Qr x0 x1 x2 h) : xb_am l D A σ 7 MC MS h0 (fun v h _ _ => v = none ∧ Qr h) (fun _ _ _ _ => False) y_M_expression.cls y_M_expression.name b_M_expression 5 ([] : List ExceptionTableEntry) none 151 [(0, .ref x0), (1, .int x1), (2, .int x2)] [] h 0 0 := by
  unfold w_M_expression_L151 at hw
  intro p e s m args below meth c hC H locs ls k n hE hl hR hS hk hn
  obtain ⟨hx, hb, hown, hlocks, htab, hml, hr, hB, hA, hnm⟩ := id hC
  have hts := hB.1.1.at args
  refine lv_goto (tgt := 4) hx hb (xb_d D_M_expression 82 rfl) rfl ?_
  exact hK4 x0 x1 x2 h hw p e s m args below meth c hC H locs ls k n hE (lv_sub hl [0, 1, 2] rfl) hR hS (by omega) (by omega)

set_option maxHeartbeats 4000000 in
set_option maxRecDepth 100000 in
theorem am_M_expression_L137 (l : Launch) (hfl : l.flags = pinnedFlags ++ [noTraceFlag]) (D : va_G) (A : Nat → Prop) (σ MC MS : Nat) (h0 : xb_H) (Qr : xb_H → Prop) (K4 : Nat → Int32 → Int32 → xb_H → Prop) (hK4 : ∀ (x0 : Nat) (x1 : Int32) (x2 : Int32) (h : xb_H), K4 x0 x1 x2 h → xb_am l D A σ 7 MC MS h0 (fun v h _ _ => v = none ∧ Qr h) (fun _ _ _ _ => False) y_M_expression.cls y_M_expression.name b_M_expression 5 ([] : List ExceptionTableEntry) none 4 [(0, .ref x0), (1, .int x1), (2, .int x2)] [] h 0 0) (x0 : Nat) (x1 : Int32) (x2 : Int32) (x3 : Int32) (x4 : Int32) (h : xb_H) (hw : w_M_expression_L137 K4 Qr x0 x1 x2 x3 x4 h) : xb_am l D A σ 7 MC MS h0 (fun v h _ _ => v = none ∧ Qr h) (fun _ _ _ _ => False) y_M_expression.cls y_M_expression.name b_M_expression 5 ([] : List ExceptionTableEntry) none 137 [(0, .ref x0), (1, .int x1), (2, .int x2), (3, .int x3), (4, .int x4)] [] h 0 0 := by
  unfold w_M_expression_L137 at hw
  intro p e s m args below meth c hC H locs ls k n hE hl hR hS hk hn
  obtain ⟨hx, hb, hown, hlocks, htab, hml, hr, hB, hA, hnm⟩ := id hC
  have hts := hB.1.1.at args
  refine lv_aload_n hx hb (xb_d D_M_expression 75 rfl) rfl (lv_at hl 0 rfl) ?_
  obtain ⟨hk1, hw⟩ := hw
  refine xb_getI (C := R_M) (T := F_M) (N := 97) hx hb 8 17 hts fin_M hown hR hk1 (by decide) rfl (by decide) rfl (hts _ m_ff69da61) (fun _ h9 => h9) (xb_d D_M_expression 76 rfl) ?_
  refine lv_if_ne (tgt := 151) hx hb (xb_d D_M_expression 77 rfl) rfl (fun hc2 => ?_) (fun hc2 => ?_)
  · have hw := hw.1 hc2
    exact am_M_expression_L151 l hfl D A σ MC MS h0 Qr K4 hK4 x0 x1 x2 h hw p e s m args below meth c hC H locs ls k n hE (lv_sub hl [0, 1, 2] rfl) hR hS (by omega) (by omega)
  · have hw := hw.2 hc2
    refine lv_aload_n hx hb (xb_d D_M_expression 78 rfl) rfl (lv_at hl 0 rfl) ?_
    refine lv_iload hx hb (xb_d D_M_expression 79 rfl) (lv_at hl 4 rfl) ?_
    refine lv_iload_n hx hb (xb_d D_M_expression 80 rfl) rfl (lv_at hl 3 rfl) ?_
    refine xb_call0 (D := D) (A := A) (σ := σ) (h := h) (d := 6) (maxL := 4) (rest := []) (av := [.ref x0, .int x4, .int x3]) (fun T hT X => by obtain ⟨cb9, ra9, rb9, rc9⟩ := xb_recv (ci := 8) hR rfl hk1 (by decide); exact xt_invV X hx hown (hts _ m_9a2ddc48) (hts _ m_7986a93e) (hts _ m_abba4888) (xt_sigOf (hts _ m_a433953a)) nm_M_written (by rw [hT]; exact ra9) rb9 rc9 (g := F0 m 148 ls [.int x3, .int x4, .ref x0]) rfl (argsL := [.int x4, .int x3]) (rest := []) rfl rfl (by rw [hb]; exact (xb_d D_M_expression 81 rfl))) (ok_M_written l hfl D A σ x0 x4 x3 h _ hw) (hml.trans hl.1.symm) (by rw [hb]; exact (xb_d D_M_expression 81 rfl)) (Nat.le_of_ble_eq_true rfl) (Nat.le_of_ble_eq_true rfl) (Nat.le_of_ble_eq_true rfl) (show k ≤ MC by omega) (show n ≤ MS by omega) (xt_w1 hB.1 m_a433953a) (xt_cdOf hB.1 m_a433953a) (hts _ m_d5ed7bed) hB hR hS hA (fun vv h3 H locs hq hEh3 hR hS => ?_)
    obtain ⟨rfl, hw⟩ := hq
    have hw := hw hEh3
    have hE := hE.tr hEh3
    refine W.eq (g2 := F0 m 151 ls []) rfl ?_
    exact am_M_expression_L151 l hfl D A σ MC MS h0 Qr K4 hK4 x0 x1 x2 h3 hw p e s m args below meth c hC H locs ls k n hE (lv_sub hl [0, 1, 2] rfl) hR hS (by omega) (by omega)

set_option maxHeartbeats 4000000 in
set_option maxRecDepth 100000 in
theorem am_M_expression_L133 (l : Launch) (hfl : l.flags = pinnedFlags ++ [noTraceFlag]) (D : va_G) (A : Nat → Prop) (σ MC MS : Nat) (h0 : xb_H) (Qr : xb_H → Prop) (K4 : Nat → Int32 → Int32 → xb_H → Prop) (hK4 : ∀ (x0 : Nat) (x1 : Int32) (x2 : Int32) (h : xb_H), K4 x0 x1 x2 h → xb_am l D A σ 7 MC MS h0 (fun v h _ _ => v = none ∧ Qr h) (fun _ _ _ _ => False) y_M_expression.cls y_M_expression.name b_M_expression 5 ([] : List ExceptionTableEntry) none 4 [(0, .ref x0), (1, .int x1), (2, .int x2)] [] h 0 0) (x0 : Nat) (x1 : Int32) (x3 : Int32) (x4 : Int32) (y0 : Int32) (h : xb_H) (hw : w_M_expression_L133 K4 Qr x0 x1 x3 x4 y0 h) : xb_am l D A σ 7 MC MS h0 (fun v h _ _ => v = none ∧ Qr h) (fun _ _ _ _ => False) y_M_expression.cls y_M_expression.name b_M_expression 5 ([] : List ExceptionTableEntry) none 133 [(0, .ref x0), (1, .int x1), (3, .int x3), (4, .int x4)] [.int y0] h 0 0 := by
  unfold w_M_expression_L133 at hw
  intro p e s m args below meth c hC H locs ls k n hE hl hR hS hk hn
  obtain ⟨hx, hb, hown, hlocks, htab, hml, hr, hB, hA, hnm⟩ := id hC
  have hts := hB.1.1.at args
  refine lv_istore_n hx hb (xb_d D_M_expression 73 rfl) rfl hl (by decide) rfl (fun ls hl => ?_)
  have hl : lv_has ls 5 [(2, .int y0), (0, .ref x0), (1, .int x1), (3, .int x3), (4, .int x4)] := hl
  refine lv_iinc (v := (x1 + (-1))) (k := 2) hx hb (xb_d D_M_expression 74 rfl) hl rfl (by first | rfl | decide) (by decide) rfl (fun ls hl => ?_)
  have hl : lv_has ls 5 [(1, .int (x1 + (-1))), (2, .int y0), (0, .ref x0), (3, .int x3), (4, .int x4)] := hl
  exact am_M_expression_L137 l hfl D A σ MC MS h0 Qr K4 hK4 x0 (x1 + (-1)) y0 x3 x4 h hw p e s m args below meth c hC H locs ls k n hE (lv_sub hl [2, 0, 1, 3, 4] rfl) hR hS (by omega) (by omega)

set_option maxHeartbeats 4000000 in
set_option maxRecDepth 100000 in
theorem am_M_expression_L96 (l : Launch) (hfl : l.flags = pinnedFlags ++ [noTraceFlag]) (D : va_G) (A : Nat → Prop) (σ MC MS : Nat) (h0 : xb_H) (Qr : xb_H → Prop) (K4 : Nat → Int32 → Int32 → xb_H → Prop) (hK4 : ∀ (x0 : Nat) (x1 : Int32) (x2 : Int32) (h : xb_H), K4 x0 x1 x2 h → xb_am l D A σ 7 MC MS h0 (fun v h _ _ => v = none ∧ Qr h) (fun _ _ _ _ => False) y_M_expression.cls y_M_expression.name b_M_expression 5 ([] : List ExceptionTableEntry) none 4 [(0, .ref x0), (1, .int x1), (2, .int x2)] [] h 0 0) (x0 : Nat) (x1 : Int32) (x2 : Int32) (x3 : Int32) (x4 : Int32) (h : xb_H) (hw : w_M_expression_L96 K4 Qr x0 x1 x2 x3 x4 h) : xb_am l D A σ 7 MC MS h0 (fun v h _ _ => v = none ∧ Qr h) (fun _ _ _ _ => False) y_M_expression.cls y_M_expression.name b_M_expression 5 ([] : List ExceptionTableEntry) none 96 [(0, .ref x0), (1, .int x1), (2, .int x2), (3, .int x3), (4, .int x4)] [] h 0 0 := by
  unfold w_M_expression_L96 at hw
  intro p e s m args below meth c hC H locs ls k n hE hl hR hS hk hn
  obtain ⟨hx, hb, hown, hlocks, htab, hml, hr, hB, hA, hnm⟩ := id hC
  have hts := hB.1.1.at args
  refine lv_aload_n hx hb (xb_d D_M_expression 52 rfl) rfl (lv_at hl 0 rfl) ?_
  refine lv_iconst (v := 5) hx hb (xb_d D_M_expression 53 rfl) (by decide) ?_
  refine lv_iload_n hx hb (xb_d D_M_expression 54 rfl) rfl (lv_at hl 3 rfl) ?_
  obtain ⟨hk1, hw⟩ := hw
  refine xb_call0 (D := D) (A := A) (σ := σ) (h := h) (d := 2) (maxL := 3) (rest := []) (av := [.ref x0, .int 5, .int x3]) (fun T hT X => by obtain ⟨cb9, ra9, rb9, rc9⟩ := xb_recv (ci := 8) hR rfl hk1 (by decide); exact xt_invV X hx hown (hts _ m_939052ad) (hts _ m_29cc8c73) (hts _ m_3b1ac7ab) (xt_sigOf (hts _ m_8f062ecd)) nm_M_fail (by rw [hT]; exact ra9) rb9 rc9 (g := F0 m 99 ls [.int x3, .int 5, .ref x0]) rfl (argsL := [.int 5, .int x3]) (rest := []) rfl rfl (by rw [hb]; exact (xb_d D_M_expression 55 rfl))) (ok_M_fail l hfl D A σ x0 5 x3 h _ hw) (hml.trans hl.1.symm) (by rw [hb]; exact (xb_d D_M_expression 55 rfl)) (Nat.le_of_ble_eq_true rfl) (Nat.le_of_ble_eq_true rfl) (Nat.le_of_ble_eq_true rfl) (show k ≤ MC by omega) (show n ≤ MS by omega) (xt_w1 hB.1 m_8f062ecd) (xt_cdOf hB.1 m_8f062ecd) (hts _ m_d5ed7bed) hB hR hS hA (fun vv h2 H locs hq hEh2 hR hS => ?_)
  obtain ⟨rfl, hw⟩ := hq
  have hw := hw hEh2
  have hE := hE.tr hEh2
  refine W.eq (g2 := F0 m 102 ls []) rfl ?_
  refine lv_goto (tgt := 137) hx hb (xb_d D_M_expression 56 rfl) rfl ?_
  exact am_M_expression_L137 l hfl D A σ MC MS h0 Qr K4 hK4 x0 x1 x2 x3 x4 h2 hw p e s m args below meth c hC H locs ls k n hE (lv_sub hl [0, 1, 2, 3, 4] rfl) hR hS (by omega) (by omega)

set_option maxHeartbeats 4000000 in
set_option maxRecDepth 100000 in
theorem am_M_expression_L74 (l : Launch) (hfl : l.flags = pinnedFlags ++ [noTraceFlag]) (D : va_G) (A : Nat → Prop) (σ MC MS : Nat) (h0 : xb_H) (Qr : xb_H → Prop) (K4 : Nat → Int32 → Int32 → xb_H → Prop) (hK4 : ∀ (x0 : Nat) (x1 : Int32) (x2 : Int32) (h : xb_H), K4 x0 x1 x2 h → xb_am l D A σ 7 MC MS h0 (fun v h _ _ => v = none ∧ Qr h) (fun _ _ _ _ => False) y_M_expression.cls y_M_expression.name b_M_expression 5 ([] : List ExceptionTableEntry) none 4 [(0, .ref x0), (1, .int x1), (2, .int x2)] [] h 0 0) (x0 : Nat) (x1 : Int32) (x2 : Int32) (x3 : Int32) (x4 : Int32) (h : xb_H) (hw : w_M_expression_L74 K4 Qr x0 x1 x2 x3 x4 h) : xb_am l D A σ 7 MC MS h0 (fun v h _ _ => v = none ∧ Qr h) (fun _ _ _ _ => False) y_M_expression.cls y_M_expression.name b_M_expression 5 ([] : List ExceptionTableEntry) none 74 [(0, .ref x0), (1, .int x1), (2, .int x2), (3, .int x3), (4, .int x4)] [] h 0 0 := by
  unfold w_M_expression_L74 at hw
  intro p e s m args below meth c hC H locs ls k n hE hl hR hS hk hn
  obtain ⟨hx, hb, hown, hlocks, htab, hml, hr, hB, hA, hnm⟩ := id hC
  have hts := hB.1.1.at args
  refine lv_iload hx hb (xb_d D_M_expression 39 rfl) (lv_at hl 4 rfl) ?_
  refine lv_iconst (v := 5) hx hb (xb_d D_M_expression 40 rfl) (by decide) ?_
  refine lv_icmp_ne (tgt := 117) hx hb (xb_d D_M_expression 41 rfl) rfl (fun hc1 => ?_) (fun hc1 => ?_)
  · have hw := hw.1 hc1
    refine lv_iload hx hb (xb_d D_M_expression 65 rfl) (lv_at hl 4 rfl) ?_
    refine lv_bipush (v := 11) hx hb (xb_d D_M_expression 66 rfl) (by decide) ?_
    refine lv_icmp_ne (tgt := 137) hx hb (xb_d D_M_expression 67 rfl) rfl (fun hc2 => ?_) (fun hc2 => ?_)
    · have hw := hw.1 hc2
      exact am_M_expression_L137 l hfl D A σ MC MS h0 Qr K4 hK4 x0 x1 x2 x3 x4 h hw p e s m args below meth c hC H locs ls k n hE (lv_sub hl [0, 1, 2, 3, 4] rfl) hR hS (by omega) (by omega)
    · have hw := hw.2 hc2
      refine lv_iload_n hx hb (xb_d D_M_expression 68 rfl) rfl (lv_at hl 1 rfl) ?_
      refine lv_if_le (tgt := 132) hx hb (xb_d D_M_expression 69 rfl) rfl (fun hc3 => ?_) (fun hc3 => ?_)
      · have hw := hw.1 hc3
        refine lv_iconst (v := 0) hx hb (xb_d D_M_expression 72 rfl) (by decide) ?_
        exact am_M_expression_L133 l hfl D A σ MC MS h0 Qr K4 hK4 x0 x1 x3 x4 0 h hw p e s m args below meth c hC H locs ls k n hE (lv_sub hl [0, 1, 3, 4] rfl) hR hS (by omega) (by omega)
      · have hw := hw.2 hc3
        refine lv_iconst (v := 1) hx hb (xb_d D_M_expression 70 rfl) (by decide) ?_
        refine lv_goto (tgt := 133) hx hb (xb_d D_M_expression 71 rfl) rfl ?_
        exact am_M_expression_L133 l hfl D A σ MC MS h0 Qr K4 hK4 x0 x1 x3 x4 1 h hw p e s m args below meth c hC H locs ls k n hE (lv_sub hl [0, 1, 3, 4] rfl) hR hS (by omega) (by omega)
  · have hw := hw.2 hc1
    refine lv_iload_n hx hb (xb_d D_M_expression 42 rfl) rfl (lv_at hl 1 rfl) ?_
    refine lv_if_eq (tgt := 96) hx hb (xb_d D_M_expression 43 rfl) rfl (fun hc4 => ?_) (fun hc4 => ?_)
    · have hw := hw.1 hc4
      exact am_M_expression_L96 l hfl D A σ MC MS h0 Qr K4 hK4 x0 x1 x2 x3 x4 h hw p e s m args below meth c hC H locs ls k n hE (lv_sub hl [0, 1, 2, 3, 4] rfl) hR hS (by omega) (by omega)
    · have hw := hw.2 hc4
      refine lv_aload_n hx hb (xb_d D_M_expression 44 rfl) rfl (lv_at hl 0 rfl) ?_
      obtain ⟨hk5, hw⟩ := hw
      refine xb_getP (C := R_M) (T := F_M) (N := 97) hx hb 8 24 hts fin_M hown hR hk5 (by decide) rfl (by decide) rfl (hts _ m_6889d050) (fun _ h9 => h9) (xb_d D_M_expression 45 rfl) ?_
      obtain ⟨b6, eb6, hw⟩ := hw
      refine xb_some eb6 ?_
      refine lv_iload_n hx hb (xb_d D_M_expression 46 rfl) rfl (lv_at hl 1 rfl) ?_
      refine lv_iconst (v := 1) hx hb (xb_d D_M_expression 47 rfl) (by decide) ?_
      refine lv_isub hx hb (xb_d D_M_expression 48 rfl) ?_
      obtain ⟨hk8, hw⟩ := hw
      obtain ⟨hi7, hw⟩ := hw
      refine xb_iald hx hb hR hk8 hi7 (xb_d D_M_expression 49 rfl) ?_
      refine lv_iconst (v := 4) hx hb (xb_d D_M_expression 50 rfl) (by decide) ?_
      refine lv_icmp_eq (tgt := 105) hx hb (xb_d D_M_expression 51 rfl) rfl (fun hc9 => ?_) (fun hc9 => ?_)
      · have hw := hw.1 hc9
        refine lv_aload_n hx hb (xb_d D_M_expression 57 rfl) rfl (lv_at hl 0 rfl) ?_
        refine xb_getP (C := R_M) (T := F_M) (N := 97) hx hb 8 24 hts fin_M hown hR hk5 (by decide) rfl (by decide) rfl (hts _ m_6889d050) (fun _ h9 => h9) (xb_d D_M_expression 58 rfl) ?_
        obtain ⟨b10, eb10, hw⟩ := hw
        refine xb_some eb10 ?_
        refine lv_iload_n hx hb (xb_d D_M_expression 59 rfl) rfl (lv_at hl 1 rfl) ?_
        refine lv_iconst (v := 1) hx hb (xb_d D_M_expression 60 rfl) (by decide) ?_
        refine lv_isub hx hb (xb_d D_M_expression 61 rfl) ?_
        refine lv_iconst (v := 5) hx hb (xb_d D_M_expression 62 rfl) (by decide) ?_
        obtain ⟨hk11, hw⟩ := hw
        obtain ⟨hi12, hw⟩ := hw
        refine xb_iast hx hb hR hS hk11 hi12 (xb_d D_M_expression 63 rfl) (fun H locs hR hS => ?_)
        obtain ⟨h13, eh13⟩ : ∃ x : xb_H, x = xb_I h b10 (Int32.toNatClampNeg (x1 - 1)) 5 := ⟨_, rfl⟩
        rw [← eh13] at hR
        have hw := hw h13 eh13
        have hE : xb_ext h0 h13 := by rw [eh13]; exact hE
        refine lv_goto (tgt := 137) hx hb (xb_d D_M_expression 64 rfl) rfl ?_
        exact am_M_expression_L137 l hfl D A σ MC MS h0 Qr K4 hK4 x0 x1 x2 x3 x4 h13 hw p e s m args below meth c hC H locs ls k n hE (lv_sub hl [0, 1, 2, 3, 4] rfl) hR hS (by omega) (by omega)
      · have hw := hw.2 hc9
        exact am_M_expression_L96 l hfl D A σ MC MS h0 Qr K4 hK4 x0 x1 x2 x3 x4 h hw p e s m args below meth c hC H locs ls k n hE (lv_sub hl [0, 1, 2, 3, 4] rfl) hR hS (by omega) (by omega)

set_option maxHeartbeats 4000000 in
set_option maxRecDepth 100000 in
theorem am_M_expression_L60 (l : Launch) (hfl : l.flags = pinnedFlags ++ [noTraceFlag]) (D : va_G) (A : Nat → Prop) (σ MC MS : Nat) (h0 : xb_H) (Qr : xb_H → Prop) (K4 : Nat → Int32 → Int32 → xb_H → Prop) (hK4 : ∀ (x0 : Nat) (x1 : Int32) (x2 : Int32) (h : xb_H), K4 x0 x1 x2 h → xb_am l D A σ 7 MC MS h0 (fun v h _ _ => v = none ∧ Qr h) (fun _ _ _ _ => False) y_M_expression.cls y_M_expression.name b_M_expression 5 ([] : List ExceptionTableEntry) none 4 [(0, .ref x0), (1, .int x1), (2, .int x2)] [] h 0 0) (x0 : Nat) (x1 : Int32) (x2 : Int32) (x3 : Int32) (x4 : Int32) (h : xb_H) (hw : w_M_expression_L60 K4 Qr x0 x1 x2 x3 x4 h) : xb_am l D A σ 7 MC MS h0 (fun v h _ _ => v = none ∧ Qr h) (fun _ _ _ _ => False) y_M_expression.cls y_M_expression.name b_M_expression 5 ([] : List ExceptionTableEntry) none 60 [(0, .ref x0), (1, .int x1), (2, .int x2), (3, .int x3), (4, .int x4)] [] h 0 0 := by
  unfold w_M_expression_L60 at hw
  intro p e s m args below meth c hC H locs ls k n hE hl hR hS hk hn
  obtain ⟨hx, hb, hown, hlocks, htab, hml, hr, hB, hA, hnm⟩ := id hC
  have hts := hB.1.1.at args
  refine lv_aload_n hx hb (xb_d D_M_expression 32 rfl) rfl (lv_at hl 0 rfl) ?_
  obtain ⟨hk1, hw⟩ := hw
  refine xb_getP (C := R_M) (T := F_M) (N := 97) hx hb 8 24 hts fin_M hown hR hk1 (by decide) rfl (by decide) rfl (hts _ m_6889d050) (fun _ h9 => h9) (xb_d D_M_expression 33 rfl) ?_
  obtain ⟨b2, eb2, hw⟩ := hw
  refine xb_some eb2 ?_
  refine lv_iload_n hx hb (xb_d D_M_expression 34 rfl) rfl (lv_at hl 1 rfl) ?_
  refine lv_iload hx hb (xb_d D_M_expression 35 rfl) (lv_at hl 4 rfl) ?_
  obtain ⟨hk3, hw⟩ := hw
  obtain ⟨hi4, hw⟩ := hw
  refine xb_iast hx hb hR hS hk3 hi4 (xb_d D_M_expression 36 rfl) (fun H locs hR hS => ?_)
  obtain ⟨h5, eh5⟩ : ∃ x : xb_H, x = xb_I h b2 (Int32.toNatClampNeg x1) x4 := ⟨_, rfl⟩
  rw [← eh5] at hR
  have hw := hw h5 eh5
  have hE : xb_ext h0 h5 := by rw [eh5]; exact hE
  refine lv_iinc (v := (x1 + 1)) (k := 1) hx hb (xb_d D_M_expression 37 rfl) hl rfl (by first | rfl | decide) (by decide) rfl (fun ls hl => ?_)
  have hl : lv_has ls 5 [(1, .int (x1 + 1)), (0, .ref x0), (2, .int x2), (3, .int x3), (4, .int x4)] := hl
  refine lv_goto (tgt := 137) hx hb (xb_d D_M_expression 38 rfl) rfl ?_
  exact am_M_expression_L137 l hfl D A σ MC MS h0 Qr K4 hK4 x0 (x1 + 1) x2 x3 x4 h5 hw p e s m args below meth c hC H locs ls k n hE (lv_sub hl [1, 0, 2, 3, 4] rfl) hR hS (by omega) (by omega)

set_option maxHeartbeats 4000000 in
set_option maxRecDepth 100000 in
theorem am_M_expression_L4 (l : Launch) (hfl : l.flags = pinnedFlags ++ [noTraceFlag]) (D : va_G) (A : Nat → Prop) (σ MC MS : Nat) (h0 : xb_H) (Qr : xb_H → Prop) (n9 : Nat) : ∀ (x0 : Nat) (x1 : Int32) (x2 : Int32) (h : xb_H), w_M_expression_L4 Qr n9 x0 x1 x2 h → xb_am l D A σ 7 MC MS h0 (fun v h _ _ => v = none ∧ Qr h) (fun _ _ _ _ => False) y_M_expression.cls y_M_expression.name b_M_expression 5 ([] : List ExceptionTableEntry) none 4 [(0, .ref x0), (1, .int x1), (2, .int x2)] [] h 0 0 := by
  induction n9 with
  | zero => intro x0 x1 x2 h hw; exact False.elim hw
  | succ n9 ih =>
    intro x0 x1 x2 h hw
    unfold w_M_expression_L4 at hw
    intro p e s m args below meth c hC H locs ls k n hE hl hR hS hk hn
    obtain ⟨hx, hb, hown, hlocks, htab, hml, hr, hB, hA, hnm⟩ := id hC
    have hts := hB.1.1.at args
    refine lv_iload_n hx hb (xb_d D_M_expression 4 rfl) rfl (lv_at hl 2 rfl) ?_
    refine lv_if_eq (tgt := 154) hx hb (xb_d D_M_expression 5 rfl) rfl (fun hc1 => ?_) (fun hc1 => ?_)
    · have hw := hw.1 hc1
      exact am_M_expression_L154 l hfl D A σ MC MS h0 Qr h hw p e s m args below meth c hC H locs ls k n hE (lv_sub hl [] rfl) hR hS (by omega) (by omega)
    · have hw := hw.2 hc1
      refine lv_aload_n hx hb (xb_d D_M_expression 6 rfl) rfl (lv_at hl 0 rfl) ?_
      obtain ⟨hk2, hw⟩ := hw
      refine xb_getI (C := R_M) (T := F_M) (N := 97) hx hb 8 17 hts fin_M hown hR hk2 (by decide) rfl (by decide) rfl (hts _ m_ff69da61) (fun _ h9 => h9) (xb_d D_M_expression 7 rfl) ?_
      refine lv_if_ne (tgt := 154) hx hb (xb_d D_M_expression 8 rfl) rfl (fun hc3 => ?_) (fun hc3 => ?_)
      · have hw := hw.1 hc3
        exact am_M_expression_L154 l hfl D A σ MC MS h0 Qr h hw p e s m args below meth c hC H locs ls k n hE (lv_sub hl [] rfl) hR hS (by omega) (by omega)
      · have hw := hw.2 hc3
        refine lv_aload_n hx hb (xb_d D_M_expression 9 rfl) rfl (lv_at hl 0 rfl) ?_
        refine xb_getI (C := R_M) (T := F_M) (N := 97) hx hb 8 15 hts fin_M hown hR hk2 (by decide) rfl (by decide) rfl (hts _ m_6c2d27ad) (fun _ h9 => h9) (xb_d D_M_expression 10 rfl) ?_
        obtain ⟨v4, ev4⟩ : ∃ x : Int32, x = (xb_i h x0 15) := ⟨_, rfl⟩
        have hw := hw v4 ev4
        refine xt_numi (y := v4) ev4.symm ?_
        refine lv_istore_n hx hb (xb_d D_M_expression 11 rfl) rfl hl (by decide) rfl (fun ls hl => ?_)
        have hl : lv_has ls 5 [(3, .int v4), (0, .ref x0), (1, .int x1), (2, .int x2)] := hl
        refine lv_aload_n hx hb (xb_d D_M_expression 12 rfl) rfl (lv_at hl 1 rfl) ?_
        refine xb_call0 (D := D) (A := A) (σ := σ) (h := h) (d := 3) (maxL := 2) (rest := []) (av := [.ref x0]) (fun T hT X => by obtain ⟨cb9, ra9, rb9, rc9⟩ := xb_recv (ci := 8) hR rfl hk2 (by decide); exact xt_invV X hx hown (hts _ m_0e978570) (hts _ m_40099f98) (hts _ m_a7dbfd07) (xt_sigOf (hts _ m_0af1ec6a)) nm_M_next (by rw [hT]; exact ra9) rb9 rc9 (g := F0 m 21 ls [.ref x0]) rfl (argsL := []) (rest := []) rfl rfl (by rw [hb]; exact (xb_d D_M_expression 13 rfl))) (ok_M_next l hfl D A σ x0 h _ hw) (hml.trans hl.1.symm) (by rw [hb]; exact (xb_d D_M_expression 13 rfl)) (Nat.le_of_ble_eq_true rfl) (Nat.le_of_ble_eq_true rfl) (Nat.le_of_ble_eq_true rfl) (show k ≤ MC by omega) (show n ≤ MS by omega) (xt_w1 hB.1 m_0af1ec6a) (xt_cdOf hB.1 m_0af1ec6a) (hts _ m_d5ed7bed) hB hR hS hA (fun vv h5 H locs hq hEh5 hR hS => ?_)
        obtain ⟨r6, rfl, hw⟩ := hq
        have hw := hw hEh5
        have hE := hE.tr hEh5
        refine W.eq (g2 := F0 m 24 ls [.int r6]) rfl ?_
        refine lv_istore hx hb (xb_d D_M_expression 14 rfl) hl (by decide) rfl (fun ls hl => ?_)
        have hl : lv_has ls 5 [(4, .int r6), (3, .int v4), (0, .ref x0), (1, .int x1), (2, .int x2)] := hl
        refine lv_aload_n hx hb (xb_d D_M_expression 15 rfl) rfl (lv_at hl 2 rfl) ?_
        have hk2 : xb_k h5 x0 = 9 := hEh5.k hk2
        refine xb_getI (C := R_M) (T := F_M) (N := 97) hx hb 8 17 hts fin_M hown hR hk2 (by decide) rfl (by decide) rfl (hts _ m_ff69da61) (fun _ h9 => h9) (xb_d D_M_expression 16 rfl) ?_
        refine lv_if_eq (tgt := 34) hx hb (xb_d D_M_expression 17 rfl) rfl (fun hc7 => ?_) (fun hc7 => ?_)
        · have hw := hw.1 hc7
          refine lv_iload hx hb (xb_d D_M_expression 19 rfl) (lv_at hl 0 rfl) ?_
          refine lv_iconst (v := 2) hx hb (xb_d D_M_expression 20 rfl) (by decide) ?_
          refine lv_icmp_lt (tgt := 74) hx hb (xb_d D_M_expression 21 rfl) rfl (fun hc8 => ?_) (fun hc8 => ?_)
          · have hw := hw.1 hc8
            exact am_M_expression_L74 l hfl D A σ MC MS h0 Qr (w_M_expression_L4 Qr n9) ih x0 x1 x2 v4 r6 h5 hw p e s m args below meth c hC H locs ls k n hE (lv_sub hl [2, 3, 4, 1, 0] rfl) hR hS (by omega) (by omega)
          · have hw := hw.2 hc8
            refine lv_iload hx hb (xb_d D_M_expression 22 rfl) (lv_at hl 0 rfl) ?_
            refine lv_iconst (v := 4) hx hb (xb_d D_M_expression 23 rfl) (by decide) ?_
            refine lv_icmp_gt (tgt := 74) hx hb (xb_d D_M_expression 24 rfl) rfl (fun hc9 => ?_) (fun hc9 => ?_)
            · have hw := hw.1 hc9
              exact am_M_expression_L74 l hfl D A σ MC MS h0 Qr (w_M_expression_L4 Qr n9) ih x0 x1 x2 v4 r6 h5 hw p e s m args below meth c hC H locs ls k n hE (lv_sub hl [2, 3, 4, 1, 0] rfl) hR hS (by omega) (by omega)
            · have hw := hw.2 hc9
              refine lv_iload_n hx hb (xb_d D_M_expression 25 rfl) rfl (lv_at hl 3 rfl) ?_
              refine lv_sipush (v := 200) hx hb (xb_d D_M_expression 26 rfl) (by decide) ?_
              refine lv_icmp_ne (tgt := 60) hx hb (xb_d D_M_expression 27 rfl) rfl (fun hc10 => ?_) (fun hc10 => ?_)
              · have hw := hw.1 hc10
                exact am_M_expression_L60 l hfl D A σ MC MS h0 Qr (w_M_expression_L4 Qr n9) ih x0 x1 x2 v4 r6 h5 hw p e s m args below meth c hC H locs ls k n hE (lv_sub hl [2, 3, 4, 1, 0] rfl) hR hS (by omega) (by omega)
              · have hw := hw.2 hc10
                refine lv_aload_n hx hb (xb_d D_M_expression 28 rfl) rfl (lv_at hl 2 rfl) ?_
                refine lv_bipush (v := 10) hx hb (xb_d D_M_expression 29 rfl) (by decide) ?_
                refine lv_iload_n hx hb (xb_d D_M_expression 30 rfl) rfl (lv_at hl 1 rfl) ?_
                refine xb_call0 (D := D) (A := A) (σ := σ) (h := h5) (d := 2) (maxL := 3) (rest := []) (av := [.ref x0, .int 10, .int v4]) (fun T hT X => by obtain ⟨cb9, ra9, rb9, rc9⟩ := xb_recv (ci := 8) hR rfl hk2 (by decide); exact xt_invV X hx hown (hts _ m_939052ad) (hts _ m_29cc8c73) (hts _ m_3b1ac7ab) (xt_sigOf (hts _ m_8f062ecd)) nm_M_fail (by rw [hT]; exact ra9) rb9 rc9 (g := F0 m 57 ls [.int v4, .int 10, .ref x0]) rfl (argsL := [.int 10, .int v4]) (rest := []) rfl rfl (by rw [hb]; exact (xb_d D_M_expression 31 rfl))) (ok_M_fail l hfl D A σ x0 10 v4 h5 _ hw) (hml.trans hl.1.symm) (by rw [hb]; exact (xb_d D_M_expression 31 rfl)) (Nat.le_of_ble_eq_true rfl) (Nat.le_of_ble_eq_true rfl) (Nat.le_of_ble_eq_true rfl) (show k ≤ MC by omega) (show n ≤ MS by omega) (xt_w1 hB.1 m_8f062ecd) (xt_cdOf hB.1 m_8f062ecd) (hts _ m_d5ed7bed) hB hR hS hA (fun vv h11 H locs hq hEh11 hR hS => ?_)
                obtain ⟨rfl, hw⟩ := hq
                have hw := hw hEh11
                have hE := hE.tr hEh11
                refine W.eq (g2 := F0 m 60 ls []) rfl ?_
                exact am_M_expression_L60 l hfl D A σ MC MS h0 Qr (w_M_expression_L4 Qr n9) ih x0 x1 x2 v4 r6 h11 hw p e s m args below meth c hC H locs ls k n hE (lv_sub hl [2, 3, 4, 1, 0] rfl) hR hS (by omega) (by omega)
        · have hw := hw.2 hc7
          exact xb_vret 0 0 hx hb hr hlocks (show k + 0 ≤ MC by omega) (show n + 0 ≤ MS by omega) hE hR hS (xb_d D_M_expression 18 rfl) hw

set_option maxHeartbeats 4000000 in
set_option maxRecDepth 100000 in
theorem ok_M_expression (l : Launch) (hfl : l.flags = pinnedFlags ++ [noTraceFlag]) (D : va_G) (A : Nat → Prop) (σ : Nat) (x0 : Nat) (h : xb_H) (Qr : xb_H → Prop) (hw : w_M_expression x0 h Qr) : xb_Met l y_M_expression [.code y_M_expression b_M_expression 5 none] (xb_rm 7 0 0) (xb_Pc D A σ h [.ref x0]) (xb_Qc D A h 0 0 (fun v h _ _ => v = none ∧ Qr h) (fun _ _ _ _ => False)) A := by
  refine xb_ofAm (cc := b_M_expression) (by decide) (Nat.le_of_ble_eq_true rfl) ?_
  unfold w_M_expression at hw
  show xb_am l D A σ 7 0 0 h (fun v h _ _ => v = none ∧ Qr h) (fun _ _ _ _ => False) y_M_expression.cls y_M_expression.name b_M_expression 5 ([] : List ExceptionTableEntry) none 0 [(0, .ref x0)] [] h 0 0
  obtain ⟨MC, hMC⟩ : ∃ x, x = 0 := ⟨_, rfl⟩
  obtain ⟨MS, hMS⟩ : ∃ x, x = 0 := ⟨_, rfl⟩
  rw [show xb_am l D A σ 7 0 0 = xb_am l D A σ 7 MC MS by rw [hMC, hMS]]
  obtain ⟨h0, hh0⟩ : ∃ x, x = h := ⟨_, rfl⟩
  rw [show xb_am l D A σ 7 MC MS h = xb_am l D A σ 7 MC MS h0 by rw [hh0]]
  intro p e s m args below meth c hC H locs ls k n hE hl hR hS hk hn
  obtain ⟨hx, hb, hown, hlocks, htab, hml, hr, hB, hA, hnm⟩ := id hC
  have hts := hB.1.1.at args
  refine lv_iconst (v := 0) hx hb (xb_d D_M_expression 0 rfl) (by decide) ?_
  refine lv_istore_n hx hb (xb_d D_M_expression 1 rfl) rfl hl (by decide) rfl (fun ls hl => ?_)
  have hl : lv_has ls 5 [(1, .int 0), (0, .ref x0)] := hl
  refine lv_iconst (v := 1) hx hb (xb_d D_M_expression 2 rfl) (by decide) ?_
  refine lv_istore_n hx hb (xb_d D_M_expression 3 rfl) rfl hl (by decide) rfl (fun ls hl => ?_)
  have hl : lv_has ls 5 [(2, .int 1), (1, .int 0), (0, .ref x0)] := hl
  obtain ⟨n8, hw⟩ := hw
  exact am_M_expression_L4 l hfl D A σ MC MS h0 Qr n8 x0 0 1 h hw p e s m args below meth c hC H locs ls k n hE (lv_sub hl [2, 1, 0] rfl) hR hS (by omega) (by omega)

theorem m_ae35450b : (.methodLink "StackHostModel" 508 y_M_exportNamed : Cond) ∈ xt_tbl := xt_in (xt_t12 (List.mem_of_getElem? (i := 46) (by decide +kernel))) (by decide +kernel)
theorem m_d0e07f44 : (.instanceMethod y_M_exportNamed : Cond) ∈ xt_tbl := xt_in (xt_t12 (List.mem_of_getElem? (i := 48) (by decide +kernel))) (by decide +kernel)
theorem m_1f43b3bf : (.selects "StackHostModel" y_M_exportNamed y_M_exportNamed : Cond) ∈ xt_tbl := xt_in (xt_v13 (q := (⟨"StackHostModel", "exportNamed", "(III)I"⟩, 97)) (List.mem_of_getElem? (i := 4) (by decide +kernel))) (by decide +kernel)
theorem m_6eaddeb7 : (.code y_M_exportNamed b_M_exportNamed 6 (some .int) : Cond) ∈ xt_tbl := xt_in (xt_t12 (List.mem_of_getElem? (i := 49) (by decide +kernel))) (by decide +kernel)
theorem nm_M_exportNamed : xt_nm y_M_exportNamed 3 := ⟨by decide +kernel, by decide +kernel⟩
set_option maxRecDepth 100000 in
def T_M_find : List (Nat × Instr × Nat) := [(0, .aload_n 0, 1), (1, .aload_n 0, 1), (2, .iload_n 1, 1), (3, .invokevirtual 592, 3), (6, .ifCond .eq 7, 3), (9, .iconst 0, 1), (10, .goto 4, 3), (13, .iconst 1, 1), (14, .putfield 189, 3), (17, .aload_n 0, 1), (18, .getfield 189, 3), (21, .ifCond .le 5, 3), (24, .iconst 0, 1), (25, .ireturn, 1), (26, .aload_n 0, 1), (27, .getfield 265, 3), (30, .istore_n 2, 1), (31, .aload_n 0, 1), (32, .invokevirtual 307, 3), (35, .istore_n 3, 1), (36, .aload_n 0, 1), (37, .iload_n 3, 1), (38, .putfield 262, 3), (41, .aload_n 0, 1), (42, .iload_n 1, 1), (43, .iload_n 3, 1), (44, .iload_n 2, 1), (45, .invokevirtual 508, 3), (48, .ireturn, 1)]
theorem D_M_find : ∀ q ∈ T_M_find, decode b_M_find q.1 = .ok (q.2.1, q.2.2) := by decide +kernel

set_option maxHeartbeats 4000000 in
set_option maxRecDepth 100000 in
theorem am_M_find_L14 (l : Launch) (hfl : l.flags = pinnedFlags ++ [noTraceFlag]) (D : va_G) (A : Nat → Prop) (σ MC MS : Nat) (h0 : xb_H) (Qr : Int32 → xb_H → Nat → Nat → Prop) (x0 : Nat) (x1 : Int32) (y0 : Int32) (y1 : Nat) (h : xb_H) (bc : Nat) (bs : Nat) (hw : w_M_find_L14 Qr x0 x1 y0 y1 h bc bs) : xb_am l D A σ 7 MC MS h0 (fun v h bc bs => ∃ r, v = some (.int r) ∧ Qr r h bc bs) (fun _ _ _ _ => False) y_M_find.cls y_M_find.name b_M_find 4 ([] : List ExceptionTableEntry) (some .int) 14 [(0, .ref x0), (1, .int x1)] [.int y0, .ref y1] h bc bs := by
  unfold w_M_find_L14 at hw
  intro p e s m args below meth c hC H locs ls k n hE hl hR hS hk hn
  obtain ⟨hx, hb, hown, hlocks, htab, hml, hr, hB, hA, hnm⟩ := id hC
  have hts := hB.1.1.at args
  obtain ⟨hk1, hw⟩ := hw
  refine xb_putI (C := R_M) (T := F_M) (N := 97) (ty := .int) (x := y0) hx hb 8 0 hts fin_M t_M t_M_ok n_M hown hR hS hk1 (by decide) rfl (by decide) rfl (hts _ m_afabd6a0) (fun _ h9 => h9) rfl (by decide +kernel) rfl rfl (xb_d D_M_find 8 rfl) (fun H locs hR hS => ?_)
  obtain ⟨h2, eh2⟩ : ∃ x : xb_H, x = xb_I h y1 0 y0 := ⟨_, rfl⟩
  rw [← eh2] at hR
  have hw := hw h2 eh2
  have hE : xb_ext h0 h2 := by rw [eh2]; exact hE
  refine lv_aload_n hx hb (xb_d D_M_find 9 rfl) rfl (lv_at hl 0 rfl) ?_
  obtain ⟨hk3, hw⟩ := hw
  refine xb_getI (C := R_M) (T := F_M) (N := 97) hx hb 8 0 hts fin_M hown hR hk3 (by decide) rfl (by decide) rfl (hts _ m_afabd6a0) (fun _ h9 => h9) (xb_d D_M_find 10 rfl) ?_
  refine lv_if_le (tgt := 26) hx hb (xb_d D_M_find 11 rfl) rfl (fun hc4 => ?_) (fun hc4 => ?_)
  · have hw := hw.1 hc4
    refine lv_aload_n hx hb (xb_d D_M_find 14 rfl) rfl (lv_at hl 0 rfl) ?_
    refine xb_getI (C := R_M) (T := F_M) (N := 97) hx hb 8 2 hts fin_M hown hR hk3 (by decide) rfl (by decide) rfl (hts _ m_7895fa0a) (fun _ h9 => h9) (xb_d D_M_find 15 rfl) ?_
    obtain ⟨v5, ev5⟩ : ∃ x : Int32, x = (xb_i h2 x0 2) := ⟨_, rfl⟩
    have hw := hw v5 ev5
    refine xt_numi (y := v5) ev5.symm ?_
    refine lv_istore_n hx hb (xb_d D_M_find 16 rfl) rfl hl (by decide) rfl (fun ls hl => ?_)
    have hl : lv_has ls 4 [(2, .int v5), (0, .ref x0), (1, .int x1)] := hl
    refine lv_aload_n hx hb (xb_d D_M_find 17 rfl) rfl (lv_at hl 1 rfl) ?_
    refine xb_call (D := D) (A := A) (σ := σ) (h := h2) (d := 3) (mc := bc) (ms := bs) (maxL := 2) (rest := []) (av := [.ref x0]) (fun T hT X => by obtain ⟨cb9, ra9, rb9, rc9⟩ := xb_recv (ci := 8) hR rfl hk3 (by decide); exact xt_invV X hx hown (hts _ m_75691c4a) (hts _ m_ab8b88b5) (hts _ m_465bbb27) (xt_sigOf (hts _ m_0e3942d4)) nm_M_keepTape (by rw [hT]; exact ra9) rb9 rc9 (g := F0 m 32 ls [.ref x0]) rfl (argsL := []) (rest := []) rfl rfl (by rw [hb]; exact (xb_d D_M_find 18 rfl))) (ok_M_keepTape l hfl D A σ x0 h2 bc bs _ hw) (hml.trans hl.1.symm) (by rw [hb]; exact (xb_d D_M_find 18 rfl)) (Nat.le_of_ble_eq_true rfl) (Nat.le_of_ble_eq_true rfl) (Nat.le_of_ble_eq_true rfl) (show k + bc ≤ MC by omega) (show n + bs ≤ MS by omega) (xt_w1 hB.1 m_0e3942d4) (xt_cdOf hB.1 m_0e3942d4) (hts _ m_d5ed7bed) hB hR hS hA (fun vv h6 bc7 bs7 kk7 nn7 H locs hk7 hn7 hq hEh6 hR hS => ?_) (fun XX ax h6 bc7 bs7 kk7 nn7 H locs hk7 hn7 hq hEh6 hex hR hS => ?_)
    · obtain ⟨r7, rfl, hw⟩ := hq
      have hw := hw hEh6
      have hE := hE.tr hEh6
      refine W.eq (g2 := F0 m 35 ls [.int r7]) rfl ?_
      refine lv_istore_n hx hb (xb_d D_M_find 19 rfl) rfl hl (by decide) rfl (fun ls hl => ?_)
      have hl : lv_has ls 4 [(3, .int r7), (2, .int v5), (0, .ref x0), (1, .int x1)] := hl
      refine lv_aload_n hx hb (xb_d D_M_find 20 rfl) rfl (lv_at hl 2 rfl) ?_
      refine lv_iload_n hx hb (xb_d D_M_find 21 rfl) rfl (lv_at hl 0 rfl) ?_
      have hk3 : xb_k h6 x0 = 9 := hEh6.k hk3
      refine xb_putI (C := R_M) (T := F_M) (N := 97) (ty := .int) (x := r7) hx hb 8 4 hts fin_M t_M t_M_ok n_M hown hR hS hk3 (by decide) rfl (by decide) rfl (hts _ m_a4223f90) (fun _ h9 => h9) rfl (by decide +kernel) rfl rfl (xb_d D_M_find 22 rfl) (fun H locs hR hS => ?_)
      obtain ⟨h8, eh8⟩ : ∃ x : xb_H, x = xb_I h6 x0 4 r7 := ⟨_, rfl⟩
      rw [← eh8] at hR
      have hw := hw h8 eh8
      have hE : xb_ext h0 h8 := by rw [eh8]; exact hE
      refine lv_aload_n hx hb (xb_d D_M_find 23 rfl) rfl (lv_at hl 2 rfl) ?_
      refine lv_iload_n hx hb (xb_d D_M_find 24 rfl) rfl (lv_at hl 3 rfl) ?_
      refine lv_iload_n hx hb (xb_d D_M_find 25 rfl) rfl (lv_at hl 0 rfl) ?_
      refine lv_iload_n hx hb (xb_d D_M_find 26 rfl) rfl (lv_at hl 1 rfl) ?_
      have hk3 : xb_k h8 x0 = 9 := by rw [eh8]; exact hk3
      refine xb_call0 (D := D) (A := A) (σ := σ) (h := h8) (d := 6) (maxL := 6) (rest := []) (av := [.ref x0, .int x1, .int r7, .int v5]) (fun T hT X => by obtain ⟨cb9, ra9, rb9, rc9⟩ := xb_recv (ci := 8) hR rfl hk3 (by decide); exact xt_invV X hx hown (hts _ m_ae35450b) (hts _ m_d0e07f44) (hts _ m_1f43b3bf) (xt_sigOf (hts _ m_6eaddeb7)) nm_M_exportNamed (by rw [hT]; exact ra9) rb9 rc9 (g := F0 m 45 ls [.int v5, .int r7, .int x1, .ref x0]) rfl (argsL := [.int x1, .int r7, .int v5]) (rest := []) rfl rfl (by rw [hb]; exact (xb_d D_M_find 27 rfl))) (ok_M_exportNamed l hfl D A σ x0 x1 r7 v5 h8 _ hw) (hml.trans hl.1.symm) (by rw [hb]; exact (xb_d D_M_find 27 rfl)) (Nat.le_of_ble_eq_true rfl) (Nat.le_of_ble_eq_true rfl) (Nat.le_of_ble_eq_true rfl) (show (k + kk7) ≤ MC by omega) (show (n + nn7) ≤ MS by omega) (xt_w1 hB.1 m_6eaddeb7) (xt_cdOf hB.1 m_6eaddeb7) (hts _ m_d5ed7bed) hB hR hS hA (fun vv h9 H locs hq hEh9 hR hS => ?_)
      obtain ⟨r10, rfl, hw⟩ := hq
      have hw := hw hEh9
      have hE := hE.tr hEh9
      refine W.eq (g2 := F0 m 48 ls [.int r10]) rfl ?_
      exact xb_iret bc7 bs7 hx hb hr hlocks (show (k + kk7) + bc7 ≤ MC by omega) (show (n + nn7) + bs7 ≤ MS by omega) hE hR hS (xb_d D_M_find 28 rfl) hw
    · exact False.elim hq
  · have hw := hw.2 hc4
    refine lv_iconst (v := 0) hx hb (xb_d D_M_find 12 rfl) (by decide) ?_
    exact xb_iret bc bs hx hb hr hlocks (show k + bc ≤ MC by omega) (show n + bs ≤ MS by omega) hE hR hS (xb_d D_M_find 13 rfl) hw

set_option maxHeartbeats 4000000 in
set_option maxRecDepth 100000 in
theorem ok_M_find (l : Launch) (hfl : l.flags = pinnedFlags ++ [noTraceFlag]) (D : va_G) (A : Nat → Prop) (σ : Nat) (x0 : Nat) (x1 : Int32) (h : xb_H) (bc : Nat) (bs : Nat) (Qr : Int32 → xb_H → Nat → Nat → Prop) (hw : w_M_find x0 x1 h bc bs Qr) : xb_Met l y_M_find [.code y_M_find b_M_find 4 (some .int)] (xb_rm 7 bc bs) (xb_Pc D A σ h [.ref x0, .int x1]) (xb_Qc D A h bc bs (fun v h bc bs => ∃ r, v = some (.int r) ∧ Qr r h bc bs) (fun _ _ _ _ => False)) A := by
  refine xb_ofAm (cc := b_M_find) (by decide) (Nat.le_of_ble_eq_true rfl) ?_
  unfold w_M_find at hw
  show xb_am l D A σ 7 bc bs h (fun v h bc bs => ∃ r, v = some (.int r) ∧ Qr r h bc bs) (fun _ _ _ _ => False) y_M_find.cls y_M_find.name b_M_find 4 ([] : List ExceptionTableEntry) (some .int) 0 [(0, .ref x0), (1, .int x1)] [] h bc bs
  obtain ⟨MC, hMC⟩ : ∃ x, x = bc := ⟨_, rfl⟩
  obtain ⟨MS, hMS⟩ : ∃ x, x = bs := ⟨_, rfl⟩
  rw [show xb_am l D A σ 7 bc bs = xb_am l D A σ 7 MC MS by rw [hMC, hMS]]
  obtain ⟨h0, hh0⟩ : ∃ x, x = h := ⟨_, rfl⟩
  rw [show xb_am l D A σ 7 MC MS h = xb_am l D A σ 7 MC MS h0 by rw [hh0]]
  intro p e s m args below meth c hC H locs ls k n hE hl hR hS hk hn
  obtain ⟨hx, hb, hown, hlocks, htab, hml, hr, hB, hA, hnm⟩ := id hC
  have hts := hB.1.1.at args
  refine lv_aload_n hx hb (xb_d D_M_find 0 rfl) rfl (lv_at hl 0 rfl) ?_
  refine lv_aload_n hx hb (xb_d D_M_find 1 rfl) rfl (lv_at hl 0 rfl) ?_
  refine lv_iload_n hx hb (xb_d D_M_find 2 rfl) rfl (lv_at hl 1 rfl) ?_
  obtain ⟨hk1, hw⟩ := hw
  refine xb_call0 (D := D) (A := A) (σ := σ) (h := h) (d := 2) (maxL := 2) (rest := [.ref x0]) (av := [.ref x0, .int x1]) (fun T hT X => by obtain ⟨cb9, ra9, rb9, rc9⟩ := xb_recv (ci := 8) hR rfl hk1 (by decide); exact xt_invV X hx hown (hts _ m_ec7c79cd) (hts _ m_cefd1701) (hts _ m_d2ca0421) (xt_sigOf (hts _ m_5aaa69eb)) nm_M_isInstance (by rw [hT]; exact ra9) rb9 rc9 (g := F0 m 3 ls [.int x1, .ref x0, .ref x0]) rfl (argsL := [.int x1]) (rest := [.ref x0]) rfl rfl (by rw [hb]; exact (xb_d D_M_find 3 rfl))) (ok_M_isInstance l hfl D A σ x0 x1 h _ hw) (hml.trans hl.1.symm) (by rw [hb]; exact (xb_d D_M_find 3 rfl)) (Nat.le_of_ble_eq_true rfl) (Nat.le_of_ble_eq_true rfl) (Nat.le_of_ble_eq_true rfl) (show k ≤ MC by omega) (show n ≤ MS by omega) (xt_w1 hB.1 m_5aaa69eb) (xt_cdOf hB.1 m_5aaa69eb) (hts _ m_d5ed7bed) hB hR hS hA (fun vv h2 H locs hq hEh2 hR hS => ?_)
  obtain ⟨r3, rfl, hw⟩ := hq
  have hw := hw hEh2
  have hE := hE.tr hEh2
  refine W.eq (g2 := F0 m 6 ls [.int r3, .ref x0]) rfl ?_
  refine lv_if_eq (tgt := 13) hx hb (xb_d D_M_find 4 rfl) rfl (fun hc4 => ?_) (fun hc4 => ?_)
  · have hw := hw.1 hc4
    refine lv_iconst (v := 1) hx hb (xb_d D_M_find 7 rfl) (by decide) ?_
    exact am_M_find_L14 l hfl D A σ MC MS h0 Qr x0 x1 1 x0 h2 bc bs hw p e s m args below meth c hC H locs ls k n hE (lv_sub hl [0, 1] rfl) hR hS (by omega) (by omega)
  · have hw := hw.2 hc4
    refine lv_iconst (v := 0) hx hb (xb_d D_M_find 5 rfl) (by decide) ?_
    refine lv_goto (tgt := 14) hx hb (xb_d D_M_find 6 rfl) rfl ?_
    exact am_M_find_L14 l hfl D A σ MC MS h0 Qr x0 x1 0 x0 h2 bc bs hw p e s m args below meth c hC H locs ls k n hE (lv_sub hl [0, 1] rfl) hR hS (by omega) (by omega)

theorem m_d7224fd9 : (.methodLink "StackHostModel" 287 y_M_variableKind : Cond) ∈ xt_tbl := xt_in (xt_t11 (List.mem_of_getElem? (i := 32) (by decide +kernel))) (by decide +kernel)
theorem m_4ba67653 : (.instanceMethod y_M_variableKind : Cond) ∈ xt_tbl := xt_in (xt_t11 (List.mem_of_getElem? (i := 34) (by decide +kernel))) (by decide +kernel)
theorem m_0264d432 : (.selects "StackHostModel" y_M_variableKind y_M_variableKind : Cond) ∈ xt_tbl := xt_in (xt_v10 (q := (⟨"StackHostModel", "variableKind", "()V"⟩, 97)) (List.mem_of_getElem? (i := 1) (by decide +kernel))) (by decide +kernel)
theorem m_db18be48 : (.code y_M_variableKind b_M_variableKind 1 none : Cond) ∈ xt_tbl := xt_in (xt_t11 (List.mem_of_getElem? (i := 35) (by decide +kernel))) (by decide +kernel)
theorem m_649f8fdd : (.methodLink "StackHostModel" 284 y_M_tableType : Cond) ∈ xt_tbl := xt_in (xt_t11 (List.mem_of_getElem? (i := 24) (by decide +kernel))) (by decide +kernel)
theorem m_5adfa267 : (.instanceMethod y_M_tableType : Cond) ∈ xt_tbl := xt_in (xt_t11 (List.mem_of_getElem? (i := 26) (by decide +kernel))) (by decide +kernel)
theorem m_d7022070 : (.selects "StackHostModel" y_M_tableType y_M_tableType : Cond) ∈ xt_tbl := xt_in (xt_v9 (q := (⟨"StackHostModel", "tableType", "()V"⟩, 97)) (List.mem_of_getElem? (i := 15) (by decide +kernel))) (by decide +kernel)
theorem m_11c8eedd : (.code y_M_tableType b_M_tableType 1 none : Cond) ∈ xt_tbl := xt_in (xt_t11 (List.mem_of_getElem? (i := 27) (by decide +kernel))) (by decide +kernel)
theorem nm_M_variableKind : xt_nm y_M_variableKind 0 := ⟨by decide +kernel, by decide +kernel⟩
theorem nm_M_tableType : xt_nm y_M_tableType 0 := ⟨by decide +kernel, by decide +kernel⟩
set_option maxRecDepth 100000 in
def T_M_importEntry : List (Nat × Instr × Nat) := [(0, .aload_n 0, 1), (1, .invokevirtual 293, 3), (4, .aload_n 0, 1), (5, .invokevirtual 293, 3), (8, .aload_n 0, 1), (9, .invokevirtual 212, 3), (12, .istore_n 1, 1), (13, .aload_n 0, 1), (14, .getfield 193, 3), (17, .ifCond .eq 4, 3), (20, .return_, 1), (21, .iload_n 1, 1), (22, .ifCond .ne 11, 3), (25, .aload_n 0, 1), (26, .invokevirtual 218, 3), (29, .pop2, 1), (30, .goto 50, 3), (33, .iload_n 1, 1), (34, .iconst 1, 1), (35, .if_icmp .ne 10, 3), (38, .aload_n 0, 1), (39, .invokevirtual 284, 3), (42, .goto 38, 3), (45, .iload_n 1, 1), (46, .iconst 2, 1), (47, .if_icmp .ne 10, 3), (50, .aload_n 0, 1), (51, .invokevirtual 237, 3), (54, .goto 26, 3), (57, .iload_n 1, 1), (58, .iconst 3, 1), (59, .if_icmp .ne 10, 3), (62, .aload_n 0, 1), (63, .invokevirtual 287, 3), (66, .goto 14, 3), (69, .aload_n 0, 1), (70, .iconst 5, 1), (71, .aload_n 0, 1), (72, .getfield 202, 3), (75, .iconst 1, 1), (76, .isub, 1), (77, .invokevirtual 208, 3), (80, .aload_n 0, 1), (81, .getfield 193, 3), (84, .ifCond .ne 20, 3), (87, .aload_n 0, 1), (88, .getfield 30, 3), (91, .iconst 4, 1), (92, .aload_n 0, 1), (93, .getfield 275, 3), (96, .imul, 1), (97, .iload_n 1, 1), (98, .iadd, 1), (99, .dup2, 1), (100, .iaload, 1), (101, .iconst 1, 1), (102, .iadd, 1), (103, .iastore, 1), (104, .return_, 1)]
theorem D_M_importEntry : ∀ q ∈ T_M_importEntry, decode b_M_importEntry q.1 = .ok (q.2.1, q.2.2) := by decide +kernel

set_option maxHeartbeats 4000000 in
set_option maxRecDepth 100000 in
theorem am_M_importEntry_L104 (l : Launch) (hfl : l.flags = pinnedFlags ++ [noTraceFlag]) (D : va_G) (A : Nat → Prop) (σ MC MS : Nat) (h0 : xb_H) (Qr : xb_H → Prop) (h : xb_H) (hw : w_M_importEntry_L104 Qr h) : xb_am l D A σ 7 MC MS h0 (fun v h _ _ => v = none ∧ Qr h) (fun _ _ _ _ => False) y_M_importEntry.cls y_M_importEntry.name b_M_importEntry 2 ([] : List ExceptionTableEntry) none 104 [] [] h 0 0 := by
  unfold w_M_importEntry_L104 at hw
  intro p e s m args below meth c hC H locs ls k n hE hl hR hS hk hn
  obtain ⟨hx, hb, hown, hlocks, htab, hml, hr, hB, hA, hnm⟩ := id hC
  have hts := hB.1.1.at args
  exact xb_vret 0 0 hx hb hr hlocks (show k + 0 ≤ MC by omega) (show n + 0 ≤ MS by omega) hE hR hS (xb_d D_M_importEntry 58 rfl) hw

set_option maxHeartbeats 4000000 in
set_option maxRecDepth 100000 in
theorem am_M_importEntry_L80 (l : Launch) (hfl : l.flags = pinnedFlags ++ [noTraceFlag]) (D : va_G) (A : Nat → Prop) (σ MC MS : Nat) (h0 : xb_H) (Qr : xb_H → Prop) (x0 : Nat) (x1 : Int32) (h : xb_H) (hw : w_M_importEntry_L80 Qr x0 x1 h) : xb_am l D A σ 7 MC MS h0 (fun v h _ _ => v = none ∧ Qr h) (fun _ _ _ _ => False) y_M_importEntry.cls y_M_importEntry.name b_M_importEntry 2 ([] : List ExceptionTableEntry) none 80 [(0, .ref x0), (1, .int x1)] [] h 0 0 := by
  unfold w_M_importEntry_L80 at hw
  intro p e s m args below meth c hC H locs ls k n hE hl hR hS hk hn
  obtain ⟨hx, hb, hown, hlocks, htab, hml, hr, hB, hA, hnm⟩ := id hC
  have hts := hB.1.1.at args
  refine lv_aload_n hx hb (xb_d D_M_importEntry 42 rfl) rfl (lv_at hl 0 rfl) ?_
  obtain ⟨hk1, hw⟩ := hw
  refine xb_getI (C := R_M) (T := F_M) (N := 97) hx hb 8 17 hts fin_M hown hR hk1 (by decide) rfl (by decide) rfl (hts _ m_ff69da61) (fun _ h9 => h9) (xb_d D_M_importEntry 43 rfl) ?_
  refine lv_if_ne (tgt := 104) hx hb (xb_d D_M_importEntry 44 rfl) rfl (fun hc2 => ?_) (fun hc2 => ?_)
  · have hw := hw.1 hc2
    exact am_M_importEntry_L104 l hfl D A σ MC MS h0 Qr h hw p e s m args below meth c hC H locs ls k n hE (lv_sub hl [] rfl) hR hS (by omega) (by omega)
  · have hw := hw.2 hc2
    refine lv_aload_n hx hb (xb_d D_M_importEntry 45 rfl) rfl (lv_at hl 0 rfl) ?_
    refine xb_getP (C := R_M) (T := F_M) (N := 97) hx hb 8 10 hts fin_M hown hR hk1 (by decide) rfl (by decide) rfl (hts _ m_01d0d957) (fun _ h9 => h9) (xb_d D_M_importEntry 46 rfl) ?_
    obtain ⟨b3, eb3, hw⟩ := hw
    refine xb_some eb3 ?_
    refine lv_iconst (v := 4) hx hb (xb_d D_M_importEntry 47 rfl) (by decide) ?_
    refine lv_aload_n hx hb (xb_d D_M_importEntry 48 rfl) rfl (lv_at hl 0 rfl) ?_
    refine xb_getI (C := R_M) (T := F_M) (N := 97) hx hb 8 5 hts fin_M hown hR hk1 (by decide) rfl (by decide) rfl (hts _ m_b0f42f6b) (fun _ h9 => h9) (xb_d D_M_importEntry 49 rfl) ?_
    refine lv_imul hx hb (xb_d D_M_importEntry 50 rfl) ?_
    refine lv_iload_n hx hb (xb_d D_M_importEntry 51 rfl) rfl (lv_at hl 1 rfl) ?_
    refine lv_iadd hx hb (xb_d D_M_importEntry 52 rfl) ?_
    refine lv_dup2_11 hx hb (xb_d D_M_importEntry 53 rfl) rfl rfl ?_
    obtain ⟨hk5, hw⟩ := hw
    obtain ⟨hi4, hw⟩ := hw
    refine xb_iald hx hb hR hk5 hi4 (xb_d D_M_importEntry 54 rfl) ?_
    refine lv_iconst (v := 1) hx hb (xb_d D_M_importEntry 55 rfl) (by decide) ?_
    refine lv_iadd hx hb (xb_d D_M_importEntry 56 rfl) ?_
    obtain ⟨hi6, hw⟩ := hw
    refine xb_iast hx hb hR hS hk5 hi6 (xb_d D_M_importEntry 57 rfl) (fun H locs hR hS => ?_)
    obtain ⟨h7, eh7⟩ : ∃ x : xb_H, x = xb_I h b3 (Int32.toNatClampNeg ((4 * (xb_i h x0 5)) + x1)) ((xb_i h b3 (Int32.toNatClampNeg ((4 * (xb_i h x0 5)) + x1))) + 1) := ⟨_, rfl⟩
    rw [← eh7] at hR
    have hw := hw h7 eh7
    have hE : xb_ext h0 h7 := by rw [eh7]; exact hE
    exact am_M_importEntry_L104 l hfl D A σ MC MS h0 Qr h7 hw p e s m args below meth c hC H locs ls k n hE (lv_sub hl [] rfl) hR hS (by omega) (by omega)

set_option maxHeartbeats 4000000 in
set_option maxRecDepth 100000 in
theorem ok_M_importEntry (l : Launch) (hfl : l.flags = pinnedFlags ++ [noTraceFlag]) (D : va_G) (A : Nat → Prop) (σ : Nat) (x0 : Nat) (h : xb_H) (Qr : xb_H → Prop) (hw : w_M_importEntry x0 h Qr) : xb_Met l y_M_importEntry [.code y_M_importEntry b_M_importEntry 2 none] (xb_rm 7 0 0) (xb_Pc D A σ h [.ref x0]) (xb_Qc D A h 0 0 (fun v h _ _ => v = none ∧ Qr h) (fun _ _ _ _ => False)) A := by
  refine xb_ofAm (cc := b_M_importEntry) (by decide) (Nat.le_of_ble_eq_true rfl) ?_
  unfold w_M_importEntry at hw
  show xb_am l D A σ 7 0 0 h (fun v h _ _ => v = none ∧ Qr h) (fun _ _ _ _ => False) y_M_importEntry.cls y_M_importEntry.name b_M_importEntry 2 ([] : List ExceptionTableEntry) none 0 [(0, .ref x0)] [] h 0 0
  obtain ⟨MC, hMC⟩ : ∃ x, x = 0 := ⟨_, rfl⟩
  obtain ⟨MS, hMS⟩ : ∃ x, x = 0 := ⟨_, rfl⟩
  rw [show xb_am l D A σ 7 0 0 = xb_am l D A σ 7 MC MS by rw [hMC, hMS]]
  obtain ⟨h0, hh0⟩ : ∃ x, x = h := ⟨_, rfl⟩
  rw [show xb_am l D A σ 7 MC MS h = xb_am l D A σ 7 MC MS h0 by rw [hh0]]
  intro p e s m args below meth c hC H locs ls k n hE hl hR hS hk hn
  obtain ⟨hx, hb, hown, hlocks, htab, hml, hr, hB, hA, hnm⟩ := id hC
  have hts := hB.1.1.at args
  refine lv_aload_n hx hb (xb_d D_M_importEntry 0 rfl) rfl (lv_at hl 0 rfl) ?_
  obtain ⟨hk1, hw⟩ := hw
  refine xb_call0 (D := D) (A := A) (σ := σ) (h := h) (d := 5) (maxL := 5) (rest := []) (av := [.ref x0]) (fun T hT X => by obtain ⟨cb9, ra9, rb9, rc9⟩ := xb_recv (ci := 8) hR rfl hk1 (by decide); exact xt_invV X hx hown (hts _ m_32411888) (hts _ m_1909bcad) (hts _ m_471efb70) (xt_sigOf (hts _ m_06b9cb5d)) nm_M_name0 (by rw [hT]; exact ra9) rb9 rc9 (g := F0 m 1 ls [.ref x0]) rfl (argsL := []) (rest := []) rfl rfl (by rw [hb]; exact (xb_d D_M_importEntry 1 rfl))) (ok_M_name0 l hfl D A σ x0 h _ hw) (hml.trans hl.1.symm) (by rw [hb]; exact (xb_d D_M_importEntry 1 rfl)) (Nat.le_of_ble_eq_true rfl) (Nat.le_of_ble_eq_true rfl) (Nat.le_of_ble_eq_true rfl) (show k ≤ MC by omega) (show n ≤ MS by omega) (xt_w1 hB.1 m_06b9cb5d) (xt_cdOf hB.1 m_06b9cb5d) (hts _ m_d5ed7bed) hB hR hS hA (fun vv h2 H locs hq hEh2 hR hS => ?_)
  obtain ⟨rfl, hw⟩ := hq
  have hw := hw hEh2
  have hE := hE.tr hEh2
  refine W.eq (g2 := F0 m 4 ls []) rfl ?_
  refine lv_aload_n hx hb (xb_d D_M_importEntry 2 rfl) rfl (lv_at hl 0 rfl) ?_
  have hk1 : xb_k h2 x0 = 9 := hEh2.k hk1
  refine xb_call0 (D := D) (A := A) (σ := σ) (h := h2) (d := 5) (maxL := 5) (rest := []) (av := [.ref x0]) (fun T hT X => by obtain ⟨cb9, ra9, rb9, rc9⟩ := xb_recv (ci := 8) hR rfl hk1 (by decide); exact xt_invV X hx hown (hts _ m_32411888) (hts _ m_1909bcad) (hts _ m_471efb70) (xt_sigOf (hts _ m_06b9cb5d)) nm_M_name0 (by rw [hT]; exact ra9) rb9 rc9 (g := F0 m 5 ls [.ref x0]) rfl (argsL := []) (rest := []) rfl rfl (by rw [hb]; exact (xb_d D_M_importEntry 3 rfl))) (ok_M_name0 l hfl D A σ x0 h2 _ hw) (hml.trans hl.1.symm) (by rw [hb]; exact (xb_d D_M_importEntry 3 rfl)) (Nat.le_of_ble_eq_true rfl) (Nat.le_of_ble_eq_true rfl) (Nat.le_of_ble_eq_true rfl) (show k ≤ MC by omega) (show n ≤ MS by omega) (xt_w1 hB.1 m_06b9cb5d) (xt_cdOf hB.1 m_06b9cb5d) (hts _ m_d5ed7bed) hB hR hS hA (fun vv h4 H locs hq hEh4 hR hS => ?_)
  obtain ⟨rfl, hw⟩ := hq
  have hw := hw hEh4
  have hE := hE.tr hEh4
  refine W.eq (g2 := F0 m 8 ls []) rfl ?_
  refine lv_aload_n hx hb (xb_d D_M_importEntry 4 rfl) rfl (lv_at hl 0 rfl) ?_
  have hk1 : xb_k h4 x0 = 9 := hEh4.k hk1
  refine xb_call0 (D := D) (A := A) (σ := σ) (h := h4) (d := 3) (maxL := 2) (rest := []) (av := [.ref x0]) (fun T hT X => by obtain ⟨cb9, ra9, rb9, rc9⟩ := xb_recv (ci := 8) hR rfl hk1 (by decide); exact xt_invV X hx hown (hts _ m_0e978570) (hts _ m_40099f98) (hts _ m_a7dbfd07) (xt_sigOf (hts _ m_0af1ec6a)) nm_M_next (by rw [hT]; exact ra9) rb9 rc9 (g := F0 m 9 ls [.ref x0]) rfl (argsL := []) (rest := []) rfl rfl (by rw [hb]; exact (xb_d D_M_importEntry 5 rfl))) (ok_M_next l hfl D A σ x0 h4 _ hw) (hml.trans hl.1.symm) (by rw [hb]; exact (xb_d D_M_importEntry 5 rfl)) (Nat.le_of_ble_eq_true rfl) (Nat.le_of_ble_eq_true rfl) (Nat.le_of_ble_eq_true rfl) (show k ≤ MC by omega) (show n ≤ MS by omega) (xt_w1 hB.1 m_0af1ec6a) (xt_cdOf hB.1 m_0af1ec6a) (hts _ m_d5ed7bed) hB hR hS hA (fun vv h6 H locs hq hEh6 hR hS => ?_)
  obtain ⟨r7, rfl, hw⟩ := hq
  have hw := hw hEh6
  have hE := hE.tr hEh6
  refine W.eq (g2 := F0 m 12 ls [.int r7]) rfl ?_
  refine lv_istore_n hx hb (xb_d D_M_importEntry 6 rfl) rfl hl (by decide) rfl (fun ls hl => ?_)
  have hl : lv_has ls 2 [(1, .int r7), (0, .ref x0)] := hl
  refine lv_aload_n hx hb (xb_d D_M_importEntry 7 rfl) rfl (lv_at hl 1 rfl) ?_
  have hk1 : xb_k h6 x0 = 9 := hEh6.k hk1
  refine xb_getI (C := R_M) (T := F_M) (N := 97) hx hb 8 17 hts fin_M hown hR hk1 (by decide) rfl (by decide) rfl (hts _ m_ff69da61) (fun _ h9 => h9) (xb_d D_M_importEntry 8 rfl) ?_
  refine lv_if_eq (tgt := 21) hx hb (xb_d D_M_importEntry 9 rfl) rfl (fun hc8 => ?_) (fun hc8 => ?_)
  · have hw := hw.1 hc8
    refine lv_iload_n hx hb (xb_d D_M_importEntry 11 rfl) rfl (lv_at hl 0 rfl) ?_
    refine lv_if_ne (tgt := 33) hx hb (xb_d D_M_importEntry 12 rfl) rfl (fun hc9 => ?_) (fun hc9 => ?_)
    · have hw := hw.1 hc9
      refine lv_iload_n hx hb (xb_d D_M_importEntry 17 rfl) rfl (lv_at hl 0 rfl) ?_
      refine lv_iconst (v := 1) hx hb (xb_d D_M_importEntry 18 rfl) (by decide) ?_
      refine lv_icmp_ne (tgt := 45) hx hb (xb_d D_M_importEntry 19 rfl) rfl (fun hc10 => ?_) (fun hc10 => ?_)
      · have hw := hw.1 hc10
        refine lv_iload_n hx hb (xb_d D_M_importEntry 23 rfl) rfl (lv_at hl 0 rfl) ?_
        refine lv_iconst (v := 2) hx hb (xb_d D_M_importEntry 24 rfl) (by decide) ?_
        refine lv_icmp_ne (tgt := 57) hx hb (xb_d D_M_importEntry 25 rfl) rfl (fun hc11 => ?_) (fun hc11 => ?_)
        · have hw := hw.1 hc11
          refine lv_iload_n hx hb (xb_d D_M_importEntry 29 rfl) rfl (lv_at hl 0 rfl) ?_
          refine lv_iconst (v := 3) hx hb (xb_d D_M_importEntry 30 rfl) (by decide) ?_
          refine lv_icmp_ne (tgt := 69) hx hb (xb_d D_M_importEntry 31 rfl) rfl (fun hc12 => ?_) (fun hc12 => ?_)
          · have hw := hw.1 hc12
            refine lv_aload_n hx hb (xb_d D_M_importEntry 35 rfl) rfl (lv_at hl 1 rfl) ?_
            refine lv_iconst (v := 5) hx hb (xb_d D_M_importEntry 36 rfl) (by decide) ?_
            refine lv_aload_n hx hb (xb_d D_M_importEntry 37 rfl) rfl (lv_at hl 1 rfl) ?_
            refine xb_getI (C := R_M) (T := F_M) (N := 97) hx hb 8 15 hts fin_M hown hR hk1 (by decide) rfl (by decide) rfl (hts _ m_6c2d27ad) (fun _ h9 => h9) (xb_d D_M_importEntry 38 rfl) ?_
            refine lv_iconst (v := 1) hx hb (xb_d D_M_importEntry 39 rfl) (by decide) ?_
            refine lv_isub hx hb (xb_d D_M_importEntry 40 rfl) ?_
            refine xb_call0 (D := D) (A := A) (σ := σ) (h := h6) (d := 2) (maxL := 3) (rest := []) (av := [.ref x0, .int 5, .int ((xb_i h6 x0 15) - 1)]) (fun T hT X => by obtain ⟨cb9, ra9, rb9, rc9⟩ := xb_recv (ci := 8) hR rfl hk1 (by decide); exact xt_invV X hx hown (hts _ m_939052ad) (hts _ m_29cc8c73) (hts _ m_3b1ac7ab) (xt_sigOf (hts _ m_8f062ecd)) nm_M_fail (by rw [hT]; exact ra9) rb9 rc9 (g := F0 m 77 ls [.int ((xb_i h6 x0 15) - 1), .int 5, .ref x0]) rfl (argsL := [.int 5, .int ((xb_i h6 x0 15) - 1)]) (rest := []) rfl rfl (by rw [hb]; exact (xb_d D_M_importEntry 41 rfl))) (ok_M_fail l hfl D A σ x0 5 ((xb_i h6 x0 15) - 1) h6 _ hw) (hml.trans hl.1.symm) (by rw [hb]; exact (xb_d D_M_importEntry 41 rfl)) (Nat.le_of_ble_eq_true rfl) (Nat.le_of_ble_eq_true rfl) (Nat.le_of_ble_eq_true rfl) (show k ≤ MC by omega) (show n ≤ MS by omega) (xt_w1 hB.1 m_8f062ecd) (xt_cdOf hB.1 m_8f062ecd) (hts _ m_d5ed7bed) hB hR hS hA (fun vv h13 H locs hq hEh13 hR hS => ?_)
            obtain ⟨rfl, hw⟩ := hq
            have hw := hw hEh13
            have hE := hE.tr hEh13
            refine W.eq (g2 := F0 m 80 ls []) rfl ?_
            exact am_M_importEntry_L80 l hfl D A σ MC MS h0 Qr x0 r7 h13 hw p e s m args below meth c hC H locs ls k n hE (lv_sub hl [1, 0] rfl) hR hS (by omega) (by omega)
          · have hw := hw.2 hc12
            refine lv_aload_n hx hb (xb_d D_M_importEntry 32 rfl) rfl (lv_at hl 1 rfl) ?_
            refine xb_call0 (D := D) (A := A) (σ := σ) (h := h6) (d := 5) (maxL := 1) (rest := []) (av := [.ref x0]) (fun T hT X => by obtain ⟨cb9, ra9, rb9, rc9⟩ := xb_recv (ci := 8) hR rfl hk1 (by decide); exact xt_invV X hx hown (hts _ m_d7224fd9) (hts _ m_4ba67653) (hts _ m_0264d432) (xt_sigOf (hts _ m_db18be48)) nm_M_variableKind (by rw [hT]; exact ra9) rb9 rc9 (g := F0 m 63 ls [.ref x0]) rfl (argsL := []) (rest := []) rfl rfl (by rw [hb]; exact (xb_d D_M_importEntry 33 rfl))) (ok_M_variableKind l hfl D A σ x0 h6 _ hw) (hml.trans hl.1.symm) (by rw [hb]; exact (xb_d D_M_importEntry 33 rfl)) (Nat.le_of_ble_eq_true rfl) (Nat.le_of_ble_eq_true rfl) (Nat.le_of_ble_eq_true rfl) (show k ≤ MC by omega) (show n ≤ MS by omega) (xt_w1 hB.1 m_db18be48) (xt_cdOf hB.1 m_db18be48) (hts _ m_d5ed7bed) hB hR hS hA (fun vv h15 H locs hq hEh15 hR hS => ?_)
            obtain ⟨rfl, hw⟩ := hq
            have hw := hw hEh15
            have hE := hE.tr hEh15
            refine W.eq (g2 := F0 m 66 ls []) rfl ?_
            refine lv_goto (tgt := 80) hx hb (xb_d D_M_importEntry 34 rfl) rfl ?_
            exact am_M_importEntry_L80 l hfl D A σ MC MS h0 Qr x0 r7 h15 hw p e s m args below meth c hC H locs ls k n hE (lv_sub hl [1, 0] rfl) hR hS (by omega) (by omega)
        · have hw := hw.2 hc11
          refine lv_aload_n hx hb (xb_d D_M_importEntry 26 rfl) rfl (lv_at hl 1 rfl) ?_
          refine xb_call0 (D := D) (A := A) (σ := σ) (h := h6) (d := 5) (maxL := 3) (rest := []) (av := [.ref x0]) (fun T hT X => by obtain ⟨cb9, ra9, rb9, rc9⟩ := xb_recv (ci := 8) hR rfl hk1 (by decide); exact xt_invV X hx hown (hts _ m_27918af5) (hts _ m_8f0ce704) (hts _ m_1c9ac27d) (xt_sigOf (hts _ m_c998ef6e)) nm_M_limits (by rw [hT]; exact ra9) rb9 rc9 (g := F0 m 51 ls [.ref x0]) rfl (argsL := []) (rest := []) rfl rfl (by rw [hb]; exact (xb_d D_M_importEntry 27 rfl))) (ok_M_limits l hfl D A σ x0 h6 _ hw) (hml.trans hl.1.symm) (by rw [hb]; exact (xb_d D_M_importEntry 27 rfl)) (Nat.le_of_ble_eq_true rfl) (Nat.le_of_ble_eq_true rfl) (Nat.le_of_ble_eq_true rfl) (show k ≤ MC by omega) (show n ≤ MS by omega) (xt_w1 hB.1 m_c998ef6e) (xt_cdOf hB.1 m_c998ef6e) (hts _ m_d5ed7bed) hB hR hS hA (fun vv h17 H locs hq hEh17 hR hS => ?_)
          obtain ⟨rfl, hw⟩ := hq
          have hw := hw hEh17
          have hE := hE.tr hEh17
          refine W.eq (g2 := F0 m 54 ls []) rfl ?_
          refine lv_goto (tgt := 80) hx hb (xb_d D_M_importEntry 28 rfl) rfl ?_
          exact am_M_importEntry_L80 l hfl D A σ MC MS h0 Qr x0 r7 h17 hw p e s m args below meth c hC H locs ls k n hE (lv_sub hl [1, 0] rfl) hR hS (by omega) (by omega)
      · have hw := hw.2 hc10
        refine lv_aload_n hx hb (xb_d D_M_importEntry 20 rfl) rfl (lv_at hl 1 rfl) ?_
        refine xb_call0 (D := D) (A := A) (σ := σ) (h := h6) (d := 6) (maxL := 1) (rest := []) (av := [.ref x0]) (fun T hT X => by obtain ⟨cb9, ra9, rb9, rc9⟩ := xb_recv (ci := 8) hR rfl hk1 (by decide); exact xt_invV X hx hown (hts _ m_649f8fdd) (hts _ m_5adfa267) (hts _ m_d7022070) (xt_sigOf (hts _ m_11c8eedd)) nm_M_tableType (by rw [hT]; exact ra9) rb9 rc9 (g := F0 m 39 ls [.ref x0]) rfl (argsL := []) (rest := []) rfl rfl (by rw [hb]; exact (xb_d D_M_importEntry 21 rfl))) (ok_M_tableType l hfl D A σ x0 h6 _ hw) (hml.trans hl.1.symm) (by rw [hb]; exact (xb_d D_M_importEntry 21 rfl)) (Nat.le_of_ble_eq_true rfl) (Nat.le_of_ble_eq_true rfl) (Nat.le_of_ble_eq_true rfl) (show k ≤ MC by omega) (show n ≤ MS by omega) (xt_w1 hB.1 m_11c8eedd) (xt_cdOf hB.1 m_11c8eedd) (hts _ m_d5ed7bed) hB hR hS hA (fun vv h19 H locs hq hEh19 hR hS => ?_)
        obtain ⟨rfl, hw⟩ := hq
        have hw := hw hEh19
        have hE := hE.tr hEh19
        refine W.eq (g2 := F0 m 42 ls []) rfl ?_
        refine lv_goto (tgt := 80) hx hb (xb_d D_M_importEntry 22 rfl) rfl ?_
        exact am_M_importEntry_L80 l hfl D A σ MC MS h0 Qr x0 r7 h19 hw p e s m args below meth c hC H locs ls k n hE (lv_sub hl [1, 0] rfl) hR hS (by omega) (by omega)
    · have hw := hw.2 hc9
      refine lv_aload_n hx hb (xb_d D_M_importEntry 13 rfl) rfl (lv_at hl 1 rfl) ?_
      refine xb_call0 (D := D) (A := A) (σ := σ) (h := h6) (d := 4) (maxL := 5) (rest := []) (av := [.ref x0]) (fun T hT X => by obtain ⟨cb9, ra9, rb9, rc9⟩ := xb_recv (ci := 8) hR rfl hk1 (by decide); exact xt_invV X hx hown (hts _ m_e991293f) (hts _ m_385a74b3) (hts _ m_c9fbcd02) (xt_sigOf (hts _ m_1f53f210)) nm_M_count (by rw [hT]; exact ra9) rb9 rc9 (g := F0 m 26 ls [.ref x0]) rfl (argsL := []) (rest := []) rfl rfl (by rw [hb]; exact (xb_d D_M_importEntry 14 rfl))) (ok_M_count l hfl D A σ x0 h6 _ hw) (hml.trans hl.1.symm) (by rw [hb]; exact (xb_d D_M_importEntry 14 rfl)) (Nat.le_of_ble_eq_true rfl) (Nat.le_of_ble_eq_true rfl) (Nat.le_of_ble_eq_true rfl) (show k ≤ MC by omega) (show n ≤ MS by omega) (xt_w1 hB.1 m_1f53f210) (xt_cdOf hB.1 m_1f53f210) (hts _ m_d5ed7bed) hB hR hS hA (fun vv h21 H locs hq hEh21 hR hS => ?_)
      obtain ⟨r22, rfl, hw⟩ := hq
      have hw := hw hEh21
      have hE := hE.tr hEh21
      refine W.eq (g2 := F0 m 29 ls [.long r22]) rfl ?_
      refine lv_pop2_2 hx hb (xb_d D_M_importEntry 15 rfl) rfl ?_
      refine lv_goto (tgt := 80) hx hb (xb_d D_M_importEntry 16 rfl) rfl ?_
      exact am_M_importEntry_L80 l hfl D A σ MC MS h0 Qr x0 r7 h21 hw p e s m args below meth c hC H locs ls k n hE (lv_sub hl [1, 0] rfl) hR hS (by omega) (by omega)
  · have hw := hw.2 hc8
    exact xb_vret 0 0 hx hb hr hlocks (show k + 0 ≤ MC by omega) (show n + 0 ≤ MS by omega) hE hR hS (xb_d D_M_importEntry 10 rfl) hw

set_option maxRecDepth 100000 in
def T_M_importOf : List (Nat × Instr × Nat) := [(0, .iload_n 3, 1), (1, .istore 4, 2), (3, .iconst 0, 1), (4, .istore 5, 2), (6, .iload 5, 2), (8, .aload_n 0, 1), (9, .iload_n 1, 1), (10, .iconst 2, 1), (11, .invokevirtual 316, 3), (14, .if_icmp .ge 31, 3), (17, .aload_n 0, 1), (18, .iload_n 1, 1), (19, .iload 5, 2), (21, .invokevirtual 327, 3), (24, .iload_n 2, 1), (25, .if_icmp .ne 14, 3), (28, .iload 4, 2), (30, .ifCond .ne 6, 3), (33, .iload 5, 2), (35, .ireturn, 1), (36, .iinc 4 (-1), 3), (39, .iinc 5 1, 3), (42, .goto (-36), 3), (45, .iconst (-1), 1), (46, .ireturn, 1)]
theorem D_M_importOf : ∀ q ∈ T_M_importOf, decode b_M_importOf q.1 = .ok (q.2.1, q.2.2) := by decide +kernel

set_option maxHeartbeats 4000000 in
set_option maxRecDepth 100000 in
theorem am_M_importOf_L39 (l : Launch) (hfl : l.flags = pinnedFlags ++ [noTraceFlag]) (D : va_G) (A : Nat → Prop) (σ MC MS : Nat) (h0 : xb_H) (Qr : Int32 → xb_H → Prop) (K6 : Nat → Int32 → Int32 → Int32 → Int32 → xb_H → Prop) (hK6 : ∀ (x0 : Nat) (x1 : Int32) (x2 : Int32) (x4 : Int32) (x5 : Int32) (h : xb_H), K6 x0 x1 x2 x4 x5 h → xb_am l D A σ 7 MC MS h0 (fun v h _ _ => ∃ r, v = some (.int r) ∧ Qr r h) (fun _ _ _ _ => False) y_M_importOf.cls y_M_importOf.name b_M_importOf 6 ([] : List ExceptionTableEntry) (some .int) 6 [(0, .ref x0), (1, .int x1), (2, .int x2), (4, .int x4), (5, .int x5)] [] h 0 0) (x0 : Nat) (x1 : Int32) (x2 : Int32) (x4 : Int32) (x5 : Int32) (h : xb_H) (hw : w_M_importOf_L39 K6 Qr x0 x1 x2 x4 x5 h) : xb_am l D A σ 7 MC MS h0 (fun v h _ _ => ∃ r, v = some (.int r) ∧ Qr r h) (fun _ _ _ _ => False) y_M_importOf.cls y_M_importOf.name b_M_importOf 6 ([] : List ExceptionTableEntry) (some .int) 39 [(0, .ref x0), (1, .int x1), (2, .int x2), (4, .int x4), (5, .int x5)] [] h 0 0 := by
  unfold w_M_importOf_L39 at hw
  intro p e s m args below meth c hC H locs ls k n hE hl hR hS hk hn
  obtain ⟨hx, hb, hown, hlocks, htab, hml, hr, hB, hA, hnm⟩ := id hC
  have hts := hB.1.1.at args
  refine lv_iinc (v := (x5 + 1)) (k := 4) hx hb (xb_d D_M_importOf 21 rfl) hl rfl (by first | rfl | decide) (by decide) rfl (fun ls hl => ?_)
  have hl : lv_has ls 6 [(5, .int (x5 + 1)), (0, .ref x0), (1, .int x1), (2, .int x2), (4, .int x4)] := hl
  refine lv_goto (tgt := 6) hx hb (xb_d D_M_importOf 22 rfl) rfl ?_
  exact hK6 x0 x1 x2 x4 (x5 + 1) h hw p e s m args below meth c hC H locs ls k n hE (lv_sub hl [1, 2, 3, 4, 0] rfl) hR hS (by omega) (by omega)

set_option maxHeartbeats 4000000 in
set_option maxRecDepth 100000 in
theorem am_M_importOf_L6 (l : Launch) (hfl : l.flags = pinnedFlags ++ [noTraceFlag]) (D : va_G) (A : Nat → Prop) (σ MC MS : Nat) (h0 : xb_H) (Qr : Int32 → xb_H → Prop) (n9 : Nat) : ∀ (x0 : Nat) (x1 : Int32) (x2 : Int32) (x4 : Int32) (x5 : Int32) (h : xb_H), w_M_importOf_L6 Qr n9 x0 x1 x2 x4 x5 h → xb_am l D A σ 7 MC MS h0 (fun v h _ _ => ∃ r, v = some (.int r) ∧ Qr r h) (fun _ _ _ _ => False) y_M_importOf.cls y_M_importOf.name b_M_importOf 6 ([] : List ExceptionTableEntry) (some .int) 6 [(0, .ref x0), (1, .int x1), (2, .int x2), (4, .int x4), (5, .int x5)] [] h 0 0 := by
  induction n9 with
  | zero => intro x0 x1 x2 x4 x5 h hw; exact False.elim hw
  | succ n9 ih =>
    intro x0 x1 x2 x4 x5 h hw
    unfold w_M_importOf_L6 at hw
    intro p e s m args below meth c hC H locs ls k n hE hl hR hS hk hn
    obtain ⟨hx, hb, hown, hlocks, htab, hml, hr, hB, hA, hnm⟩ := id hC
    have hts := hB.1.1.at args
    refine lv_iload hx hb (xb_d D_M_importOf 4 rfl) (lv_at hl 4 rfl) ?_
    refine lv_aload_n hx hb (xb_d D_M_importOf 5 rfl) rfl (lv_at hl 0 rfl) ?_
    refine lv_iload_n hx hb (xb_d D_M_importOf 6 rfl) rfl (lv_at hl 1 rfl) ?_
    refine lv_iconst (v := 2) hx hb (xb_d D_M_importOf 7 rfl) (by decide) ?_
    obtain ⟨hk1, hw⟩ := hw
    refine xb_call0 (D := D) (A := A) (σ := σ) (h := h) (d := 2) (maxL := 3) (rest := [.int x5]) (av := [.ref x0, .int x1, .int 2]) (fun T hT X => by obtain ⟨cb9, ra9, rb9, rc9⟩ := xb_recv (ci := 8) hR rfl hk1 (by decide); exact xt_invV X hx hown (hts _ m_b47f62c2) (hts _ m_9f071faf) (hts _ m_e1bb5c84) (xt_sigOf (hts _ m_3a6212d6)) nm_M_manyOf (by rw [hT]; exact ra9) rb9 rc9 (g := F0 m 11 ls [.int 2, .int x1, .ref x0, .int x5]) rfl (argsL := [.int x1, .int 2]) (rest := [.int x5]) rfl rfl (by rw [hb]; exact (xb_d D_M_importOf 8 rfl))) (ok_M_manyOf l hfl D A σ x0 x1 2 h _ hw) (hml.trans hl.1.symm) (by rw [hb]; exact (xb_d D_M_importOf 8 rfl)) (Nat.le_of_ble_eq_true rfl) (Nat.le_of_ble_eq_true rfl) (Nat.le_of_ble_eq_true rfl) (show k ≤ MC by omega) (show n ≤ MS by omega) (xt_w1 hB.1 m_3a6212d6) (xt_cdOf hB.1 m_3a6212d6) (hts _ m_d5ed7bed) hB hR hS hA (fun vv h2 H locs hq hEh2 hR hS => ?_)
    obtain ⟨r3, rfl, hw⟩ := hq
    have hw := hw hEh2
    have hE := hE.tr hEh2
    refine W.eq (g2 := F0 m 14 ls [.int r3, .int x5]) rfl ?_
    refine lv_icmp_ge (tgt := 45) hx hb (xb_d D_M_importOf 9 rfl) rfl (fun hc4 => ?_) (fun hc4 => ?_)
    · have hw := hw.1 hc4
      refine lv_iconst (v := (-1)) hx hb (xb_d D_M_importOf 23 rfl) (by decide) ?_
      exact xb_iret 0 0 hx hb hr hlocks (show k + 0 ≤ MC by omega) (show n + 0 ≤ MS by omega) hE hR hS (xb_d D_M_importOf 24 rfl) hw
    · have hw := hw.2 hc4
      refine lv_aload_n hx hb (xb_d D_M_importOf 10 rfl) rfl (lv_at hl 0 rfl) ?_
      refine lv_iload_n hx hb (xb_d D_M_importOf 11 rfl) rfl (lv_at hl 1 rfl) ?_
      refine lv_iload hx hb (xb_d D_M_importOf 12 rfl) (lv_at hl 4 rfl) ?_
      have hk1 : xb_k h2 x0 = 9 := hEh2.k hk1
      refine xb_call0 (D := D) (A := A) (σ := σ) (h := h2) (d := 6) (maxL := 3) (rest := []) (av := [.ref x0, .int x1, .int x5]) (fun T hT X => by obtain ⟨cb9, ra9, rb9, rc9⟩ := xb_recv (ci := 8) hR rfl hk1 (by decide); exact xt_invV X hx hown (hts _ m_eabb9d5c) (hts _ m_79671d92) (hts _ m_0429489b) (xt_sigOf (hts _ m_2f1c0a34)) nm_M_importAt (by rw [hT]; exact ra9) rb9 rc9 (g := F0 m 21 ls [.int x5, .int x1, .ref x0]) rfl (argsL := [.int x1, .int x5]) (rest := []) rfl rfl (by rw [hb]; exact (xb_d D_M_importOf 13 rfl))) (ok_M_importAt l hfl D A σ x0 x1 x5 h2 _ hw) (hml.trans hl.1.symm) (by rw [hb]; exact (xb_d D_M_importOf 13 rfl)) (Nat.le_of_ble_eq_true rfl) (Nat.le_of_ble_eq_true rfl) (Nat.le_of_ble_eq_true rfl) (show k ≤ MC by omega) (show n ≤ MS by omega) (xt_w1 hB.1 m_2f1c0a34) (xt_cdOf hB.1 m_2f1c0a34) (hts _ m_d5ed7bed) hB hR hS hA (fun vv h5 H locs hq hEh5 hR hS => ?_)
      obtain ⟨r6, rfl, hw⟩ := hq
      have hw := hw hEh5
      have hE := hE.tr hEh5
      refine W.eq (g2 := F0 m 24 ls [.int r6]) rfl ?_
      refine lv_iload_n hx hb (xb_d D_M_importOf 14 rfl) rfl (lv_at hl 2 rfl) ?_
      refine lv_icmp_ne (tgt := 39) hx hb (xb_d D_M_importOf 15 rfl) rfl (fun hc7 => ?_) (fun hc7 => ?_)
      · have hw := hw.1 hc7
        exact am_M_importOf_L39 l hfl D A σ MC MS h0 Qr (w_M_importOf_L6 Qr n9) ih x0 x1 x2 x4 x5 h5 hw p e s m args below meth c hC H locs ls k n hE (lv_sub hl [0, 1, 2, 3, 4] rfl) hR hS (by omega) (by omega)
      · have hw := hw.2 hc7
        refine lv_iload hx hb (xb_d D_M_importOf 16 rfl) (lv_at hl 3 rfl) ?_
        refine lv_if_ne (tgt := 36) hx hb (xb_d D_M_importOf 17 rfl) rfl (fun hc8 => ?_) (fun hc8 => ?_)
        · have hw := hw.1 hc8
          refine lv_iinc (v := (x4 + (-1))) (k := 3) hx hb (xb_d D_M_importOf 20 rfl) hl rfl (by first | rfl | decide) (by decide) rfl (fun ls hl => ?_)
          have hl : lv_has ls 6 [(4, .int (x4 + (-1))), (0, .ref x0), (1, .int x1), (2, .int x2), (5, .int x5)] := hl
          exact am_M_importOf_L39 l hfl D A σ MC MS h0 Qr (w_M_importOf_L6 Qr n9) ih x0 x1 x2 (x4 + (-1)) x5 h5 hw p e s m args below meth c hC H locs ls k n hE (lv_sub hl [1, 2, 3, 0, 4] rfl) hR hS (by omega) (by omega)
        · have hw := hw.2 hc8
          refine lv_iload hx hb (xb_d D_M_importOf 18 rfl) (lv_at hl 4 rfl) ?_
          exact xb_iret 0 0 hx hb hr hlocks (show k + 0 ≤ MC by omega) (show n + 0 ≤ MS by omega) hE hR hS (xb_d D_M_importOf 19 rfl) hw

set_option maxHeartbeats 4000000 in
set_option maxRecDepth 100000 in
theorem ok_M_importOf (l : Launch) (hfl : l.flags = pinnedFlags ++ [noTraceFlag]) (D : va_G) (A : Nat → Prop) (σ : Nat) (x0 : Nat) (x1 : Int32) (x2 : Int32) (x3 : Int32) (h : xb_H) (Qr : Int32 → xb_H → Prop) (hw : w_M_importOf x0 x1 x2 x3 h Qr) : xb_Met l y_M_importOf [.code y_M_importOf b_M_importOf 6 (some .int)] (xb_rm 7 0 0) (xb_Pc D A σ h [.ref x0, .int x1, .int x2, .int x3]) (xb_Qc D A h 0 0 (fun v h _ _ => ∃ r, v = some (.int r) ∧ Qr r h) (fun _ _ _ _ => False)) A := by
  refine xb_ofAm (cc := b_M_importOf) (by decide) (Nat.le_of_ble_eq_true rfl) ?_
  unfold w_M_importOf at hw
  show xb_am l D A σ 7 0 0 h (fun v h _ _ => ∃ r, v = some (.int r) ∧ Qr r h) (fun _ _ _ _ => False) y_M_importOf.cls y_M_importOf.name b_M_importOf 6 ([] : List ExceptionTableEntry) (some .int) 0 [(0, .ref x0), (1, .int x1), (2, .int x2), (3, .int x3)] [] h 0 0
  obtain ⟨MC, hMC⟩ : ∃ x, x = 0 := ⟨_, rfl⟩
  obtain ⟨MS, hMS⟩ : ∃ x, x = 0 := ⟨_, rfl⟩
  rw [show xb_am l D A σ 7 0 0 = xb_am l D A σ 7 MC MS by rw [hMC, hMS]]
  obtain ⟨h0, hh0⟩ : ∃ x, x = h := ⟨_, rfl⟩
  rw [show xb_am l D A σ 7 MC MS h = xb_am l D A σ 7 MC MS h0 by rw [hh0]]
  intro p e s m args below meth c hC H locs ls k n hE hl hR hS hk hn
  obtain ⟨hx, hb, hown, hlocks, htab, hml, hr, hB, hA, hnm⟩ := id hC
  have hts := hB.1.1.at args
  refine lv_iload_n hx hb (xb_d D_M_importOf 0 rfl) rfl (lv_at hl 3 rfl) ?_
  refine lv_istore hx hb (xb_d D_M_importOf 1 rfl) hl (by decide) rfl (fun ls hl => ?_)
  have hl : lv_has ls 6 [(4, .int x3), (0, .ref x0), (1, .int x1), (2, .int x2), (3, .int x3)] := hl
  refine lv_iconst (v := 0) hx hb (xb_d D_M_importOf 2 rfl) (by decide) ?_
  refine lv_istore hx hb (xb_d D_M_importOf 3 rfl) hl (by decide) rfl (fun ls hl => ?_)
  have hl : lv_has ls 6 [(5, .int 0), (4, .int x3), (0, .ref x0), (1, .int x1), (2, .int x2), (3, .int x3)] := hl
  obtain ⟨n8, hw⟩ := hw
  exact am_M_importOf_L6 l hfl D A σ MC MS h0 Qr n8 x0 x1 x2 x3 0 h hw p e s m args below meth c hC H locs ls k n hE (lv_sub hl [2, 3, 4, 1, 0] rfl) hR hS (by omega) (by omega)

