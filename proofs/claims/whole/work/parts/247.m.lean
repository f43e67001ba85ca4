theorem m_fcd4ee86 : (.methodLink "StackHost$Checker" 83 y_Checker_checkBody : Cond) ∈ xt_tbl := xt_in (xt_t4 (List.mem_of_getElem? (i := 179) (by decide +kernel))) (by decide +kernel)
theorem m_07dac21e : (.instanceMethod y_Checker_checkBody : Cond) ∈ xt_tbl := xt_in (xt_t4 (List.mem_of_getElem? (i := 181) (by decide +kernel))) (by decide +kernel)
theorem m_658854e7 : (.selects "StackHost$Checker" y_Checker_checkBody y_Checker_checkBody : Cond) ∈ xt_tbl := xt_in (xt_v3 (q := (⟨"StackHost$Checker", "checkBody", "(I)V"⟩, 17)) (List.mem_of_getElem? (i := 12) (by decide +kernel))) (by decide +kernel)
theorem m_8922cac1 : (.code y_Checker_checkBody b_Checker_checkBody 3 none : Cond) ∈ xt_tbl := xt_in (xt_t4 (List.mem_of_getElem? (i := 182) (by decide +kernel))) (by decide +kernel)
theorem m_0e49c3e0 : (.methodLink "StackHost$Checker" 52 y_Checker_checkTypes : Cond) ∈ xt_tbl := xt_in (xt_t4 (List.mem_of_getElem? (i := 95) (by decide +kernel))) (by decide +kernel)
theorem m_45a55abb : (.instanceMethod y_Checker_checkTypes : Cond) ∈ xt_tbl := xt_in (xt_t4 (List.mem_of_getElem? (i := 97) (by decide +kernel))) (by decide +kernel)
theorem m_97df6a3a : (.selects "StackHost$Checker" y_Checker_checkTypes y_Checker_checkTypes : Cond) ∈ xt_tbl := xt_in (xt_v3 (q := (⟨"StackHost$Checker", "checkTypes", "()V"⟩, 17)) (List.mem_of_getElem? (i := 0) (by decide +kernel))) (by decide +kernel)
theorem m_c6faec1a : (.code y_Checker_checkTypes b_Checker_checkTypes 2 none : Cond) ∈ xt_tbl := xt_in (xt_t4 (List.mem_of_getElem? (i := 98) (by decide +kernel))) (by decide +kernel)
theorem m_e595c8dc : (.methodLink "StackHost$Checker" 55 y_Checker_checkImports : Cond) ∈ xt_tbl := xt_in (xt_t4 (List.mem_of_getElem? (i := 105) (by decide +kernel))) (by decide +kernel)
theorem m_1237d7a0 : (.instanceMethod y_Checker_checkImports : Cond) ∈ xt_tbl := xt_in (xt_t4 (List.mem_of_getElem? (i := 107) (by decide +kernel))) (by decide +kernel)
theorem m_71438ce6 : (.selects "StackHost$Checker" y_Checker_checkImports y_Checker_checkImports : Cond) ∈ xt_tbl := xt_in (xt_v3 (q := (⟨"StackHost$Checker", "checkImports", "()V"⟩, 17)) (List.mem_of_getElem? (i := 1) (by decide +kernel))) (by decide +kernel)
theorem m_9fbbce5f : (.code y_Checker_checkImports b_Checker_checkImports 3 none : Cond) ∈ xt_tbl := xt_in (xt_t4 (List.mem_of_getElem? (i := 108) (by decide +kernel))) (by decide +kernel)
theorem m_d5baa7ed : (.methodLink "StackHost$Checker" 58 y_Checker_checkOwn : Cond) ∈ xt_tbl := xt_in (xt_t4 (List.mem_of_getElem? (i := 127) (by decide +kernel))) (by decide +kernel)
theorem m_ae68368c : (.instanceMethod y_Checker_checkOwn : Cond) ∈ xt_tbl := xt_in (xt_t4 (List.mem_of_getElem? (i := 129) (by decide +kernel))) (by decide +kernel)
theorem m_bbcfa690 : (.selects "StackHost$Checker" y_Checker_checkOwn y_Checker_checkOwn : Cond) ∈ xt_tbl := xt_in (xt_v3 (q := (⟨"StackHost$Checker", "checkOwn", "()V"⟩, 17)) (List.mem_of_getElem? (i := 4) (by decide +kernel))) (by decide +kernel)
theorem m_4cb09472 : (.code y_Checker_checkOwn b_Checker_checkOwn 3 none : Cond) ∈ xt_tbl := xt_in (xt_t4 (List.mem_of_getElem? (i := 130) (by decide +kernel))) (by decide +kernel)
theorem m_15eb1d8c : (.methodLink "StackHost$Checker" 61 y_Checker_checkExports : Cond) ∈ xt_tbl := xt_in (xt_t4 (List.mem_of_getElem? (i := 135) (by decide +kernel))) (by decide +kernel)
theorem m_224064e0 : (.instanceMethod y_Checker_checkExports : Cond) ∈ xt_tbl := xt_in (xt_t4 (List.mem_of_getElem? (i := 137) (by decide +kernel))) (by decide +kernel)
theorem m_b827b6b9 : (.selects "StackHost$Checker" y_Checker_checkExports y_Checker_checkExports : Cond) ∈ xt_tbl := xt_in (xt_v3 (q := (⟨"StackHost$Checker", "checkExports", "()V"⟩, 17)) (List.mem_of_getElem? (i := 6) (by decide +kernel))) (by decide +kernel)
theorem m_399146e8 : (.code y_Checker_checkExports b_Checker_checkExports 6 none : Cond) ∈ xt_tbl := xt_in (xt_t4 (List.mem_of_getElem? (i := 138) (by decide +kernel))) (by decide +kernel)
theorem m_3cc77c36 : (.methodLink "StackHost$Checker" 64 y_Checker_checkStart : Cond) ∈ xt_tbl := xt_in (xt_t4 (List.mem_of_getElem? (i := 151) (by decide +kernel))) (by decide +kernel)
theorem m_0c8e6472 : (.instanceMethod y_Checker_checkStart : Cond) ∈ xt_tbl := xt_in (xt_t4 (List.mem_of_getElem? (i := 153) (by decide +kernel))) (by decide +kernel)
theorem m_76f753dd : (.selects "StackHost$Checker" y_Checker_checkStart y_Checker_checkStart : Cond) ∈ xt_tbl := xt_in (xt_v3 (q := (⟨"StackHost$Checker", "checkStart", "()V"⟩, 17)) (List.mem_of_getElem? (i := 8) (by decide +kernel))) (by decide +kernel)
theorem m_ff0321fc : (.code y_Checker_checkStart b_Checker_checkStart 2 none : Cond) ∈ xt_tbl := xt_in (xt_t4 (List.mem_of_getElem? (i := 154) (by decide +kernel))) (by decide +kernel)
theorem m_dee919d7 : (.methodLink "StackHost$Checker" 67 y_Checker_checkElements : Cond) ∈ xt_tbl := xt_in (xt_t4 (List.mem_of_getElem? (i := 167) (by decide +kernel))) (by decide +kernel)
theorem m_940c550e : (.instanceMethod y_Checker_checkElements : Cond) ∈ xt_tbl := xt_in (xt_t4 (List.mem_of_getElem? (i := 169) (by decide +kernel))) (by decide +kernel)
theorem m_83f22aad : (.selects "StackHost$Checker" y_Checker_checkElements y_Checker_checkElements : Cond) ∈ xt_tbl := xt_in (xt_v3 (q := (⟨"StackHost$Checker", "checkElements", "()V"⟩, 17)) (List.mem_of_getElem? (i := 9) (by decide +kernel))) (by decide +kernel)
theorem m_f607ff87 : (.code y_Checker_checkElements b_Checker_checkElements 5 none : Cond) ∈ xt_tbl := xt_in (xt_t4 (List.mem_of_getElem? (i := 170) (by decide +kernel))) (by decide +kernel)
theorem m_c5023afd : (.methodLink "StackHost$Checker" 70 y_Checker_checkData : Cond) ∈ xt_tbl := xt_in (xt_t4 (List.mem_of_getElem? (i := 175) (by decide +kernel))) (by decide +kernel)
theorem m_51075248 : (.instanceMethod y_Checker_checkData : Cond) ∈ xt_tbl := xt_in (xt_t4 (List.mem_of_getElem? (i := 177) (by decide +kernel))) (by decide +kernel)
theorem m_c30e2e4c : (.selects "StackHost$Checker" y_Checker_checkData y_Checker_checkData : Cond) ∈ xt_tbl := xt_in (xt_v3 (q := (⟨"StackHost$Checker", "checkData", "()V"⟩, 17)) (List.mem_of_getElem? (i := 11) (by decide +kernel))) (by decide +kernel)
theorem m_b4a4a416 : (.code y_Checker_checkData b_Checker_checkData 2 none : Cond) ∈ xt_tbl := xt_in (xt_t4 (List.mem_of_getElem? (i := 178) (by decide +kernel))) (by decide +kernel)
theorem m_12426e47 : (.fieldLink "StackHost$Checker" 42 "StackHost$StackModule" "code" "[B" : Cond) ∈ xt_tbl := xt_in (xt_t3 (List.mem_of_getElem? (i := 47) (by decide +kernel))) (by decide +kernel)
theorem m_527108a7 : (.fieldLink "StackHost$Checker" 48 "StackHost$StackModule" "notes" "[I" : Cond) ∈ xt_tbl := xt_in (xt_t3 (List.mem_of_getElem? (i := 52) (by decide +kernel))) (by decide +kernel)
theorem nm_Checker_checkBody : xt_nm y_Checker_checkBody 1 := ⟨by decide +kernel, by decide +kernel⟩
theorem nm_Checker_checkTypes : xt_nm y_Checker_checkTypes 0 := ⟨by decide +kernel, by decide +kernel⟩
theorem nm_Checker_checkImports : xt_nm y_Checker_checkImports 0 := ⟨by decide +kernel, by decide +kernel⟩
theorem nm_Checker_checkOwn : xt_nm y_Checker_checkOwn 0 := ⟨by decide +kernel, by decide +kernel⟩
theorem nm_Checker_checkExports : xt_nm y_Checker_checkExports 0 := ⟨by decide +kernel, by decide +kernel⟩
theorem nm_Checker_checkStart : xt_nm y_Checker_checkStart 0 := ⟨by decide +kernel, by decide +kernel⟩
theorem nm_Checker_checkElements : xt_nm y_Checker_checkElements 0 := ⟨by decide +kernel, by decide +kernel⟩
theorem nm_Checker_checkData : xt_nm y_Checker_checkData 0 := ⟨by decide +kernel, by decide +kernel⟩
set_option maxRecDepth 100000 in
def T_Checker_checkAll : List (Nat × Instr × Nat) := [(0, .aload_n 0, 1), (1, .aload_n 1, 1), (2, .putfield 38, 3), (5, .aload_n 0, 1), (6, .aload_n 1, 1), (7, .getfield 42, 3), (10, .putfield 47, 3), (13, .aload_n 0, 1), (14, .aload_n 1, 1), (15, .getfield 48, 3), (18, .putfield 51, 3), (21, .aload_n 0, 1), (22, .getfield 9, 3), (25, .arraylength, 1), (26, .aload_n 0, 1), (27, .getfield 47, 3), (30, .arraylength, 1), (31, .if_icmp .gt 16, 3), (34, .aload_n 0, 1), (35, .aload_n 0, 1), (36, .getfield 47, 3), (39, .arraylength, 1), (40, .iconst 1, 1), (41, .iadd, 1), (42, .newarray .byte, 2), (44, .putfield 9, 3), (47, .aload_n 0, 1), (48, .invokevirtual 52, 3), (51, .aload_n 0, 1), (52, .invokevirtual 55, 3), (55, .aload_n 0, 1), (56, .invokevirtual 58, 3), (59, .aload_n 0, 1), (60, .invokevirtual 61, 3), (63, .aload_n 0, 1), (64, .invokevirtual 64, 3), (67, .aload_n 0, 1), (68, .invokevirtual 67, 3), (71, .aload_n 0, 1), (72, .invokevirtual 70, 3), (75, .iconst 0, 1), (76, .istore_n 2, 1), (77, .iload_n 2, 1), (78, .aload_n 0, 1), (79, .getfield 38, 3), (82, .getfield 73, 3), (85, .invokevirtual 77, 3), (88, .if_icmp .ge 14, 3), (91, .aload_n 0, 1), (92, .iload_n 2, 1), (93, .invokevirtual 83, 3), (96, .iinc 2 1, 3), (99, .goto (-22), 3), (102, .return_, 1)]
theorem D_Checker_checkAll : ∀ q ∈ T_Checker_checkAll, decode b_Checker_checkAll q.1 = .ok (q.2.1, q.2.2) := by decide +kernel
def w_Checker_checkAll_L77 (Qr : xb_H → Prop) (Qt : String → xb_H → Prop) : Nat → Nat → Int32 → xb_H → Nat → Nat → Prop
  | 0, _, _, _, _, _ => False
  | n9 + 1, x0, x2, h, bc, bs =>
    xb_k h x0 = 5 ∧ ∃ b2 : Nat, (xb_r h x0 0) = some b2 ∧ xb_k h b2 = 3 ∧ ∃ b4 : Nat, (xb_r h b2 11) = some b4 ∧ xb_k h b4 = 2 ∧ w_Row_lines b4 h (fun (r7 : Int32) (h6 : xb_H) => xb_ext h h6 → ((r7 ≤ x2 → Qr h6) ∧ (¬ r7 ≤ x2 → ∃ c11 sc11 : Nat, c11 ≤ bc ∧ sc11 ≤ bs ∧ w_Checker_checkBody x0 x2 h6 c11 sc11 (fun (h9 : xb_H) => xb_ext h6 h9 → w_Checker_checkAll_L77 Qr Qt n9 x0 (x2 + 1) h9 (bc - c11) (bs - sc11)) Qt)))

def w_Checker_checkAll_L47 (Qr : xb_H → Prop) (Qt : String → xb_H → Prop) (x0 : Nat) (h : xb_H) (bc : Nat) (bs : Nat) : Prop :=
    xb_k h x0 = 5 ∧ ∃ c4 sc4 : Nat, c4 ≤ bc ∧ sc4 ≤ bs ∧ w_Checker_checkTypes x0 h c4 sc4 (fun (h2 : xb_H) => xb_ext h h2 → ∃ c7 sc7 : Nat, c7 ≤ (bc - c4) ∧ sc7 ≤ (bs - sc4) ∧ w_Checker_checkImports x0 h2 c7 sc7 (fun (h5 : xb_H) => xb_ext h2 h5 → ∃ c10 sc10 : Nat, c10 ≤ ((bc - c4) - c7) ∧ sc10 ≤ ((bs - sc4) - sc7) ∧ w_Checker_checkOwn x0 h5 c10 sc10 (fun (h8 : xb_H) => xb_ext h5 h8 → ∃ c13 sc13 : Nat, c13 ≤ (((bc - c4) - c7) - c10) ∧ sc13 ≤ (((bs - sc4) - sc7) - sc10) ∧ w_Checker_checkExports x0 h8 c13 sc13 (fun (h11 : xb_H) => xb_ext h8 h11 → ∃ c16 sc16 : Nat, c16 ≤ ((((bc - c4) - c7) - c10) - c13) ∧ sc16 ≤ ((((bs - sc4) - sc7) - sc10) - sc13) ∧ w_Checker_checkStart x0 h11 c16 sc16 (fun (h14 : xb_H) => xb_ext h11 h14 → ∃ c19 sc19 : Nat, c19 ≤ (((((bc - c4) - c7) - c10) - c13) - c16) ∧ sc19 ≤ (((((bs - sc4) - sc7) - sc10) - sc13) - sc16) ∧ w_Checker_checkElements x0 h14 c19 sc19 (fun (h17 : xb_H) => xb_ext h14 h17 → ∃ c22 sc22 : Nat, c22 ≤ ((((((bc - c4) - c7) - c10) - c13) - c16) - c19) ∧ sc22 ≤ ((((((bs - sc4) - sc7) - sc10) - sc13) - sc16) - sc19) ∧ w_Checker_checkData x0 h17 c22 sc22 (fun (h20 : xb_H) => xb_ext h17 h20 → (∃ n8 : Nat, w_Checker_checkAll_L77 Qr Qt n8 x0 0 h20 (((((((bc - c4) - c7) - c10) - c13) - c16) - c19) - c22) (((((((bs - sc4) - sc7) - sc10) - sc13) - sc16) - sc19) - sc22))) Qt) Qt) Qt) Qt) Qt) Qt) Qt

def w_Checker_checkAll (x0 : Nat) (x1 : Nat) (h : xb_H) (bc : Nat) (bs : Nat) (Qr : xb_H → Prop) (Qt : String → xb_H → Prop) : Prop :=
    xb_k h x0 = 5 ∧ ∀ h2 : xb_H, h2 = xb_P h x0 0 (some x1) → xb_k h2 x1 = 3 ∧ ∃ b4 : Nat, (xb_r h2 x1 0) = some b4 ∧ ∀ h5 : xb_H, h5 = xb_P h2 x0 1 (some b4) → ∃ b6 : Nat, (xb_r h5 x1 1) = some b6 ∧ ∀ h7 : xb_H, h7 = xb_P h5 x0 2 (some b6) → ∃ b8 : Nat, (xb_r h7 x0 3) = some b8 ∧ xb_k h7 b8 = 100 ∧ ∃ b10 : Nat, (xb_r h7 x0 1) = some b10 ∧ xb_k h7 b10 = 100 ∧ (((nI (xb_n h7 b10)) < (nI (xb_n h7 b8)) → w_Checker_checkAll_L47 Qr Qt x0 h7 bc bs) ∧ (¬ (nI (xb_n h7 b10)) < (nI (xb_n h7 b8)) → ∃ b13 : Nat, (xb_r h7 x0 1) = some b13 ∧ xb_k h7 b13 = 100 ∧ ¬ ((nI (xb_n h7 b13)) + 1) < 0 ∧ (Int32.toNatClampNeg ((nI (xb_n h7 b13)) + 1)) * 1 ≤ 536870912 ∧ 1 ≤ bc ∧ (Int32.toNatClampNeg ((nI (xb_n h7 b13)) + 1)) ≤ bs ∧ ∀ q15 : Nat, xb_k h7 q15 = 0 → ∀ h16 : xb_H, h16 = xb_new h7 q15 100 (Int32.toNatClampNeg ((nI (xb_n h7 b13)) + 1)) → ∀ h18 : xb_H, h18 = xb_P h16 x0 3 (some q15) → w_Checker_checkAll_L47 Qr Qt x0 h18 (bc - 1) (bs - (Int32.toNatClampNeg ((nI (xb_n h7 b13)) + 1)))))

set_option maxHeartbeats 4000000 in
set_option maxRecDepth 100000 in
theorem am_Checker_checkAll_L77 (l : Launch) (hfl : l.flags = pinnedFlags ++ [noTraceFlag]) (D : va_G) (A : Nat → Prop) (σ MC MS : Nat) (h0 : xb_H) (Qr : xb_H → Prop) (Qt : String → xb_H → Prop) (n9 : Nat) : ∀ (x0 : Nat) (x2 : Int32) (h : xb_H) (bc : Nat) (bs : Nat), w_Checker_checkAll_L77 Qr Qt n9 x0 x2 h bc bs → xb_am l D A σ 8 MC MS h0 (fun v h => v = none ∧ Qr h) Qt y_Checker_checkAll.cls y_Checker_checkAll.name b_Checker_checkAll 3 ([] : List ExceptionTableEntry) none 77 [(0, .ref x0), (2, .int x2)] [] h bc bs := by
  induction n9 with
  | zero => intro x0 x2 h bc bs hw; exact False.elim hw
  | succ n9 ih =>
    intro x0 x2 h bc bs hw
    unfold w_Checker_checkAll_L77 at hw
    intro p e s m args below meth c hC H locs ls k n hE hl hR hS hk hn
    obtain ⟨hx, hb, hown, hlocks, htab, hml, hr, hB, hA, hnm⟩ := id hC
    have hts := hB.1.1.at args
    refine lv_iload_n hx hb (xb_d D_Checker_checkAll 42 rfl) rfl (lv_at hl 1 rfl) ?_
    refine lv_aload_n hx hb (xb_d D_Checker_checkAll 43 rfl) rfl (lv_at hl 0 rfl) ?_
    obtain ⟨hk1, hw⟩ := hw
    refine xb_getP (C := R_Checker) (T := F_Checker) (N := 17) hx hb 4 0 hts fin_Checker hown hR hk1 (by decide) rfl (by decide) rfl (hts _ m_070795bc) (fun _ h9 => h9) (xb_d D_Checker_checkAll 44 rfl) ?_
    obtain ⟨b2, eb2, hw⟩ := hw
    refine xb_some eb2 ?_
    obtain ⟨hk3, hw⟩ := hw
    refine xb_getP (C := R_StackModule) (T := F_StackModule) (N := 19) hx hb 2 11 hts fin_StackModule hown hR hk3 (by decide) rfl (by decide) rfl (hts _ m_5c3b2b0d) (fun _ h9 => h9) (xb_d D_Checker_checkAll 45 rfl) ?_
    obtain ⟨b4, eb4, hw⟩ := hw
    refine xb_some eb4 ?_
    obtain ⟨hk5, hw⟩ := hw
    refine xb_call (D := D) (A := A) (σ := σ) (h := h) (d := 2) (mc := 0) (ms := 0) (maxL := 1) (rest := [.int x2]) (av := [.ref b4]) (fun T hT X => by obtain ⟨cb, r1, r2, r3⟩ := xb_recv (ci := 1) hR rfl hk5 (by decide); exact xt_invV X hx hown (hts _ m_c8b950b4) (hts _ m_ded65609) (hts _ m_a4161156) (xt_sigOf (hts _ m_83ba3721)) nm_Row_lines (by rw [hT]; exact r1) r2 r3 (g := F0 m 85 ls [.ref b4, .int x2]) rfl (argsL := []) (rest := [.int x2]) rfl rfl (by rw [hb]; exact (xb_d D_Checker_checkAll 46 rfl))) (ok_Row_lines l hfl D A σ b4 h _ hw) (hml.trans hl.1.symm) (by rw [hb]; exact (xb_d D_Checker_checkAll 46 rfl)) (Nat.le_of_ble_eq_true rfl) (Nat.le_of_ble_eq_true rfl) (Nat.le_of_ble_eq_true rfl) (show k + 0 ≤ MC by omega) (show n + 0 ≤ MS by omega) (xt_w1 hB.1 m_83ba3721) (xt_cdOf hB.1 m_83ba3721) (hts _ m_c1bef504) hB hR hS hA (fun vv h6 H locs hq hEh6 hR hS => ?_) (fun XX ax h6 H locs hq hEh6 hex hR hS => ?_)
    · obtain ⟨r7, rfl, hw⟩ := hq
      have hw := hw hEh6
      have hE := hE.tr hEh6
      refine W.eq (g2 := F0 m 88 ls [.int r7, .int x2]) rfl ?_
      refine lv_icmp_ge (tgt := 102) hx hb (xb_d D_Checker_checkAll 47 rfl) rfl (fun hc8 => ?_) (fun hc8 => ?_)
      · have hw := hw.1 hc8
        exact xb_vret hx hb hr hlocks (show k ≤ MC by omega) (show n ≤ MS by omega) hE hR hS (xb_d D_Checker_checkAll 53 rfl) hw
      · have hw := hw.2 hc8
        refine lv_aload_n hx hb (xb_d D_Checker_checkAll 48 rfl) rfl (lv_at hl 0 rfl) ?_
        refine lv_iload_n hx hb (xb_d D_Checker_checkAll 49 rfl) rfl (lv_at hl 1 rfl) ?_
        have hk1 : xb_k h6 x0 = 5 := hEh6.k hk1
        obtain ⟨c11, sc11, hlc11, hlsc11, hw⟩ := hw
        refine xb_call (D := D) (A := A) (σ := σ) (h := h6) (d := 7) (mc := c11) (ms := sc11) (maxL := 3) (rest := []) (av := [.ref x0, .int x2]) (fun T hT X => by obtain ⟨cb, r1, r2, r3⟩ := xb_recv (ci := 4) hR rfl hk1 (by decide); exact xt_invV X hx hown (hts _ m_fcd4ee86) (hts _ m_07dac21e) (hts _ m_658854e7) (xt_sigOf (hts _ m_8922cac1)) nm_Checker_checkBody (by rw [hT]; exact r1) r2 r3 (g := F0 m 93 ls [.int x2, .ref x0]) rfl (argsL := [.int x2]) (rest := []) rfl rfl (by rw [hb]; exact (xb_d D_Checker_checkAll 50 rfl))) (ok_Checker_checkBody l hfl D A σ x0 x2 h6 c11 sc11 _ _ hw) (hml.trans hl.1.symm) (by rw [hb]; exact (xb_d D_Checker_checkAll 50 rfl)) (Nat.le_of_ble_eq_true rfl) (Nat.le_of_ble_eq_true rfl) (Nat.le_of_ble_eq_true rfl) (show k + c11 ≤ MC by omega) (show n + sc11 ≤ MS by omega) (xt_w1 hB.1 m_8922cac1) (xt_cdOf hB.1 m_8922cac1) (hts _ m_44748ce5) hB hR hS hA (fun vv h9 H locs hq hEh9 hR hS => ?_) (fun XX ax h9 H locs hq hEh9 hex hR hS => ?_)
        · obtain ⟨rfl, hw⟩ := hq
          have hw := hw hEh9
          have hE := hE.tr hEh9
          refine W.eq (g2 := F0 m 96 ls []) rfl ?_
          refine lv_iinc (v := (x2 + 1)) (k := 1) hx hb (xb_d D_Checker_checkAll 51 rfl) hl rfl (by first | rfl | decide) (by decide) rfl (fun ls hl => ?_)
          have hl : lv_has ls 3 [(2, .int (x2 + 1)), (0, .ref x0)] := hl
          refine lv_goto (tgt := 77) hx hb (xb_d D_Checker_checkAll 52 rfl) rfl ?_
          exact ih x0 (x2 + 1) h9 (bc - c11) (bs - sc11) hw p e s m args below meth c hC H locs ls (k + c11) (n + sc11) hE (lv_sub hl [1, 0] rfl) hR hS (by omega) (by omega)
        · exact xb_pass hlocks (fun x hx9 => by rw [htab] at hx9; first | cases hx9 | (simp [tableOf] at hx9; rcases hx9 with rfl | rfl | rfl <;> decide)) (show (k + c11) ≤ MC by omega) (show (n + sc11) ≤ MS by omega) (hE.tr hEh9) hR hS hex hq
    · exact False.elim hq

set_option maxHeartbeats 4000000 in
set_option maxRecDepth 100000 in
theorem am_Checker_checkAll_L47 (l : Launch) (hfl : l.flags = pinnedFlags ++ [noTraceFlag]) (D : va_G) (A : Nat → Prop) (σ MC MS : Nat) (h0 : xb_H) (Qr : xb_H → Prop) (Qt : String → xb_H → Prop) (x0 : Nat) (h : xb_H) (bc : Nat) (bs : Nat) (hw : w_Checker_checkAll_L47 Qr Qt x0 h bc bs) : xb_am l D A σ 8 MC MS h0 (fun v h => v = none ∧ Qr h) Qt y_Checker_checkAll.cls y_Checker_checkAll.name b_Checker_checkAll 3 ([] : List ExceptionTableEntry) none 47 [(0, .ref x0)] [] h bc bs := by
  unfold w_Checker_checkAll_L47 at hw
  intro p e s m args below meth c hC H locs ls k n hE hl hR hS hk hn
  obtain ⟨hx, hb, hown, hlocks, htab, hml, hr, hB, hA, hnm⟩ := id hC
  have hts := hB.1.1.at args
  refine lv_aload_n hx hb (xb_d D_Checker_checkAll 26 rfl) rfl (lv_at hl 0 rfl) ?_
  obtain ⟨hk1, hw⟩ := hw
  obtain ⟨c4, sc4, hlc4, hlsc4, hw⟩ := hw
  refine xb_call (D := D) (A := A) (σ := σ) (h := h) (d := 3) (mc := c4) (ms := sc4) (maxL := 2) (rest := []) (av := [.ref x0]) (fun T hT X => by obtain ⟨cb, r1, r2, r3⟩ := xb_recv (ci := 4) hR rfl hk1 (by decide); exact xt_invV X hx hown (hts _ m_0e49c3e0) (hts _ m_45a55abb) (hts _ m_97df6a3a) (xt_sigOf (hts _ m_c6faec1a)) nm_Checker_checkTypes (by rw [hT]; exact r1) r2 r3 (g := F0 m 48 ls [.ref x0]) rfl (argsL := []) (rest := []) rfl rfl (by rw [hb]; exact (xb_d D_Checker_checkAll 27 rfl))) (ok_Checker_checkTypes l hfl D A σ x0 h c4 sc4 _ _ hw) (hml.trans hl.1.symm) (by rw [hb]; exact (xb_d D_Checker_checkAll 27 rfl)) (Nat.le_of_ble_eq_true rfl) (Nat.le_of_ble_eq_true rfl) (Nat.le_of_ble_eq_true rfl) (show k + c4 ≤ MC by omega) (show n + sc4 ≤ MS by omega) (xt_w1 hB.1 m_c6faec1a) (xt_cdOf hB.1 m_c6faec1a) (hts _ m_44748ce5) hB hR hS hA (fun vv h2 H locs hq hEh2 hR hS => ?_) (fun XX ax h2 H locs hq hEh2 hex hR hS => ?_)
  · obtain ⟨rfl, hw⟩ := hq
    have hw := hw hEh2
    have hE := hE.tr hEh2
    refine W.eq (g2 := F0 m 51 ls []) rfl ?_
    refine lv_aload_n hx hb (xb_d D_Checker_checkAll 28 rfl) rfl (lv_at hl 0 rfl) ?_
    have hk1 : xb_k h2 x0 = 5 := hEh2.k hk1
    obtain ⟨c7, sc7, hlc7, hlsc7, hw⟩ := hw
    refine xb_call (D := D) (A := A) (σ := σ) (h := h2) (d := 4) (mc := c7) (ms := sc7) (maxL := 3) (rest := []) (av := [.ref x0]) (fun T hT X => by obtain ⟨cb, r1, r2, r3⟩ := xb_recv (ci := 4) hR rfl hk1 (by decide); exact xt_invV X hx hown (hts _ m_e595c8dc) (hts _ m_1237d7a0) (hts _ m_71438ce6) (xt_sigOf (hts _ m_9fbbce5f)) nm_Checker_checkImports (by rw [hT]; exact r1) r2 r3 (g := F0 m 52 ls [.ref x0]) rfl (argsL := []) (rest := []) rfl rfl (by rw [hb]; exact (xb_d D_Checker_checkAll 29 rfl))) (ok_Checker_checkImports l hfl D A σ x0 h2 c7 sc7 _ _ hw) (hml.trans hl.1.symm) (by rw [hb]; exact (xb_d D_Checker_checkAll 29 rfl)) (Nat.le_of_ble_eq_true rfl) (Nat.le_of_ble_eq_true rfl) (Nat.le_of_ble_eq_true rfl) (show (k + c4) + c7 ≤ MC by omega) (show (n + sc4) + sc7 ≤ MS by omega) (xt_w1 hB.1 m_9fbbce5f) (xt_cdOf hB.1 m_9fbbce5f) (hts _ m_44748ce5) hB hR hS hA (fun vv h5 H locs hq hEh5 hR hS => ?_) (fun XX ax h5 H locs hq hEh5 hex hR hS => ?_)
    · obtain ⟨rfl, hw⟩ := hq
      have hw := hw hEh5
      have hE := hE.tr hEh5
      refine W.eq (g2 := F0 m 55 ls []) rfl ?_
      refine lv_aload_n hx hb (xb_d D_Checker_checkAll 30 rfl) rfl (lv_at hl 0 rfl) ?_
      have hk1 : xb_k h5 x0 = 5 := hEh5.k hk1
      obtain ⟨c10, sc10, hlc10, hlsc10, hw⟩ := hw
      refine xb_call (D := D) (A := A) (σ := σ) (h := h5) (d := 4) (mc := c10) (ms := sc10) (maxL := 3) (rest := []) (av := [.ref x0]) (fun T hT X => by obtain ⟨cb, r1, r2, r3⟩ := xb_recv (ci := 4) hR rfl hk1 (by decide); exact xt_invV X hx hown (hts _ m_d5baa7ed) (hts _ m_ae68368c) (hts _ m_bbcfa690) (xt_sigOf (hts _ m_4cb09472)) nm_Checker_checkOwn (by rw [hT]; exact r1) r2 r3 (g := F0 m 56 ls [.ref x0]) rfl (argsL := []) (rest := []) rfl rfl (by rw [hb]; exact (xb_d D_Checker_checkAll 31 rfl))) (ok_Checker_checkOwn l hfl D A σ x0 h5 c10 sc10 _ _ hw) (hml.trans hl.1.symm) (by rw [hb]; exact (xb_d D_Checker_checkAll 31 rfl)) (Nat.le_of_ble_eq_true rfl) (Nat.le_of_ble_eq_true rfl) (Nat.le_of_ble_eq_true rfl) (show ((k + c4) + c7) + c10 ≤ MC by omega) (show ((n + sc4) + sc7) + sc10 ≤ MS by omega) (xt_w1 hB.1 m_4cb09472) (xt_cdOf hB.1 m_4cb09472) (hts _ m_44748ce5) hB hR hS hA (fun vv h8 H locs hq hEh8 hR hS => ?_) (fun XX ax h8 H locs hq hEh8 hex hR hS => ?_)
      · obtain ⟨rfl, hw⟩ := hq
        have hw := hw hEh8
        have hE := hE.tr hEh8
        refine W.eq (g2 := F0 m 59 ls []) rfl ?_
        refine lv_aload_n hx hb (xb_d D_Checker_checkAll 32 rfl) rfl (lv_at hl 0 rfl) ?_
        have hk1 : xb_k h8 x0 = 5 := hEh8.k hk1
        obtain ⟨c13, sc13, hlc13, hlsc13, hw⟩ := hw
        refine xb_call (D := D) (A := A) (σ := σ) (h := h8) (d := 4) (mc := c13) (ms := sc13) (maxL := 6) (rest := []) (av := [.ref x0]) (fun T hT X => by obtain ⟨cb, r1, r2, r3⟩ := xb_recv (ci := 4) hR rfl hk1 (by decide); exact xt_invV X hx hown (hts _ m_15eb1d8c) (hts _ m_224064e0) (hts _ m_b827b6b9) (xt_sigOf (hts _ m_399146e8)) nm_Checker_checkExports (by rw [hT]; exact r1) r2 r3 (g := F0 m 60 ls [.ref x0]) rfl (argsL := []) (rest := []) rfl rfl (by rw [hb]; exact (xb_d D_Checker_checkAll 33 rfl))) (ok_Checker_checkExports l hfl D A σ x0 h8 c13 sc13 _ _ hw) (hml.trans hl.1.symm) (by rw [hb]; exact (xb_d D_Checker_checkAll 33 rfl)) (Nat.le_of_ble_eq_true rfl) (Nat.le_of_ble_eq_true rfl) (Nat.le_of_ble_eq_true rfl) (show (((k + c4) + c7) + c10) + c13 ≤ MC by omega) (show (((n + sc4) + sc7) + sc10) + sc13 ≤ MS by omega) (xt_w1 hB.1 m_399146e8) (xt_cdOf hB.1 m_399146e8) (hts _ m_44748ce5) hB hR hS hA (fun vv h11 H locs hq hEh11 hR hS => ?_) (fun XX ax h11 H locs hq hEh11 hex hR hS => ?_)
        · obtain ⟨rfl, hw⟩ := hq
          have hw := hw hEh11
          have hE := hE.tr hEh11
          refine W.eq (g2 := F0 m 63 ls []) rfl ?_
          refine lv_aload_n hx hb (xb_d D_Checker_checkAll 34 rfl) rfl (lv_at hl 0 rfl) ?_
          have hk1 : xb_k h11 x0 = 5 := hEh11.k hk1
          obtain ⟨c16, sc16, hlc16, hlsc16, hw⟩ := hw
          refine xb_call (D := D) (A := A) (σ := σ) (h := h11) (d := 4) (mc := c16) (ms := sc16) (maxL := 2) (rest := []) (av := [.ref x0]) (fun T hT X => by obtain ⟨cb, r1, r2, r3⟩ := xb_recv (ci := 4) hR rfl hk1 (by decide); exact xt_invV X hx hown (hts _ m_3cc77c36) (hts _ m_0c8e6472) (hts _ m_76f753dd) (xt_sigOf (hts _ m_ff0321fc)) nm_Checker_checkStart (by rw [hT]; exact r1) r2 r3 (g := F0 m 64 ls [.ref x0]) rfl (argsL := []) (rest := []) rfl rfl (by rw [hb]; exact (xb_d D_Checker_checkAll 35 rfl))) (ok_Checker_checkStart l hfl D A σ x0 h11 c16 sc16 _ _ hw) (hml.trans hl.1.symm) (by rw [hb]; exact (xb_d D_Checker_checkAll 35 rfl)) (Nat.le_of_ble_eq_true rfl) (Nat.le_of_ble_eq_true rfl) (Nat.le_of_ble_eq_true rfl) (show ((((k + c4) + c7) + c10) + c13) + c16 ≤ MC by omega) (show ((((n + sc4) + sc7) + sc10) + sc13) + sc16 ≤ MS by omega) (xt_w1 hB.1 m_ff0321fc) (xt_cdOf hB.1 m_ff0321fc) (hts _ m_44748ce5) hB hR hS hA (fun vv h14 H locs hq hEh14 hR hS => ?_) (fun XX ax h14 H locs hq hEh14 hex hR hS => ?_)
          · obtain ⟨rfl, hw⟩ := hq
            have hw := hw hEh14
            have hE := hE.tr hEh14
            refine W.eq (g2 := F0 m 67 ls []) rfl ?_
            refine lv_aload_n hx hb (xb_d D_Checker_checkAll 36 rfl) rfl (lv_at hl 0 rfl) ?_
            have hk1 : xb_k h14 x0 = 5 := hEh14.k hk1
            obtain ⟨c19, sc19, hlc19, hlsc19, hw⟩ := hw
            refine xb_call (D := D) (A := A) (σ := σ) (h := h14) (d := 5) (mc := c19) (ms := sc19) (maxL := 5) (rest := []) (av := [.ref x0]) (fun T hT X => by obtain ⟨cb, r1, r2, r3⟩ := xb_recv (ci := 4) hR rfl hk1 (by decide); exact xt_invV X hx hown (hts _ m_dee919d7) (hts _ m_940c550e) (hts _ m_83f22aad) (xt_sigOf (hts _ m_f607ff87)) nm_Checker_checkElements (by rw [hT]; exact r1) r2 r3 (g := F0 m 68 ls [.ref x0]) rfl (argsL := []) (rest := []) rfl rfl (by rw [hb]; exact (xb_d D_Checker_checkAll 37 rfl))) (ok_Checker_checkElements l hfl D A σ x0 h14 c19 sc19 _ _ hw) (hml.trans hl.1.symm) (by rw [hb]; exact (xb_d D_Checker_checkAll 37 rfl)) (Nat.le_of_ble_eq_true rfl) (Nat.le_of_ble_eq_true rfl) (Nat.le_of_ble_eq_true rfl) (show (((((k + c4) + c7) + c10) + c13) + c16) + c19 ≤ MC by omega) (show (((((n + sc4) + sc7) + sc10) + sc13) + sc16) + sc19 ≤ MS by omega) (xt_w1 hB.1 m_f607ff87) (xt_cdOf hB.1 m_f607ff87) (hts _ m_44748ce5) hB hR hS hA (fun vv h17 H locs hq hEh17 hR hS => ?_) (fun XX ax h17 H locs hq hEh17 hex hR hS => ?_)
            · obtain ⟨rfl, hw⟩ := hq
              have hw := hw hEh17
              have hE := hE.tr hEh17
              refine W.eq (g2 := F0 m 71 ls []) rfl ?_
              refine lv_aload_n hx hb (xb_d D_Checker_checkAll 38 rfl) rfl (lv_at hl 0 rfl) ?_
              have hk1 : xb_k h17 x0 = 5 := hEh17.k hk1
              obtain ⟨c22, sc22, hlc22, hlsc22, hw⟩ := hw
              refine xb_call (D := D) (A := A) (σ := σ) (h := h17) (d := 5) (mc := c22) (ms := sc22) (maxL := 2) (rest := []) (av := [.ref x0]) (fun T hT X => by obtain ⟨cb, r1, r2, r3⟩ := xb_recv (ci := 4) hR rfl hk1 (by decide); exact xt_invV X hx hown (hts _ m_c5023afd) (hts _ m_51075248) (hts _ m_c30e2e4c) (xt_sigOf (hts _ m_b4a4a416)) nm_Checker_checkData (by rw [hT]; exact r1) r2 r3 (g := F0 m 72 ls [.ref x0]) rfl (argsL := []) (rest := []) rfl rfl (by rw [hb]; exact (xb_d D_Checker_checkAll 39 rfl))) (ok_Checker_checkData l hfl D A σ x0 h17 c22 sc22 _ _ hw) (hml.trans hl.1.symm) (by rw [hb]; exact (xb_d D_Checker_checkAll 39 rfl)) (Nat.le_of_ble_eq_true rfl) (Nat.le_of_ble_eq_true rfl) (Nat.le_of_ble_eq_true rfl) (show ((((((k + c4) + c7) + c10) + c13) + c16) + c19) + c22 ≤ MC by omega) (show ((((((n + sc4) + sc7) + sc10) + sc13) + sc16) + sc19) + sc22 ≤ MS by omega) (xt_w1 hB.1 m_b4a4a416) (xt_cdOf hB.1 m_b4a4a416) (hts _ m_44748ce5) hB hR hS hA (fun vv h20 H locs hq hEh20 hR hS => ?_) (fun XX ax h20 H locs hq hEh20 hex hR hS => ?_)
              · obtain ⟨rfl, hw⟩ := hq
                have hw := hw hEh20
                have hE := hE.tr hEh20
                refine W.eq (g2 := F0 m 75 ls []) rfl ?_
                refine lv_iconst (v := 0) hx hb (xb_d D_Checker_checkAll 40 rfl) (by decide) ?_
                refine lv_istore_n hx hb (xb_d D_Checker_checkAll 41 rfl) rfl hl (by decide) rfl (fun ls hl => ?_)
                have hl : lv_has ls 3 [(2, .int 0), (0, .ref x0)] := hl
                obtain ⟨n8, hw⟩ := hw
                exact am_Checker_checkAll_L77 l hfl D A σ MC MS h0 Qr Qt n8 x0 0 h20 (((((((bc - c4) - c7) - c10) - c13) - c16) - c19) - c22) (((((((bs - sc4) - sc7) - sc10) - sc13) - sc16) - sc19) - sc22) hw p e s m args below meth c hC H locs ls (((((((k + c4) + c7) + c10) + c13) + c16) + c19) + c22) (((((((n + sc4) + sc7) + sc10) + sc13) + sc16) + sc19) + sc22) hE (lv_sub hl [1, 0] rfl) hR hS (by omega) (by omega)
              · exact xb_pass hlocks (fun x hx9 => by rw [htab] at hx9; first | cases hx9 | (simp [tableOf] at hx9; rcases hx9 with rfl | rfl | rfl <;> decide)) (show (((((((k + c4) + c7) + c10) + c13) + c16) + c19) + c22) ≤ MC by omega) (show (((((((n + sc4) + sc7) + sc10) + sc13) + sc16) + sc19) + sc22) ≤ MS by omega) (hE.tr hEh20) hR hS hex hq
            · exact xb_pass hlocks (fun x hx9 => by rw [htab] at hx9; first | cases hx9 | (simp [tableOf] at hx9; rcases hx9 with rfl | rfl | rfl <;> decide)) (show ((((((k + c4) + c7) + c10) + c13) + c16) + c19) ≤ MC by omega) (show ((((((n + sc4) + sc7) + sc10) + sc13) + sc16) + sc19) ≤ MS by omega) (hE.tr hEh17) hR hS hex hq
          · exact xb_pass hlocks (fun x hx9 => by rw [htab] at hx9; first | cases hx9 | (simp [tableOf] at hx9; rcases hx9 with rfl | rfl | rfl <;> decide)) (show (((((k + c4) + c7) + c10) + c13) + c16) ≤ MC by omega) (show (((((n + sc4) + sc7) + sc10) + sc13) + sc16) ≤ MS by omega) (hE.tr hEh14) hR hS hex hq
        · exact xb_pass hlocks (fun x hx9 => by rw [htab] at hx9; first | cases hx9 | (simp [tableOf] at hx9; rcases hx9 with rfl | rfl | rfl <;> decide)) (show ((((k + c4) + c7) + c10) + c13) ≤ MC by omega) (show ((((n + sc4) + sc7) + sc10) + sc13) ≤ MS by omega) (hE.tr hEh11) hR hS hex hq
      · exact xb_pass hlocks (fun x hx9 => by rw [htab] at hx9; first | cases hx9 | (simp [tableOf] at hx9; rcases hx9 with rfl | rfl | rfl <;> decide)) (show (((k + c4) + c7) + c10) ≤ MC by omega) (show (((n + sc4) + sc7) + sc10) ≤ MS by omega) (hE.tr hEh8) hR hS hex hq
    · exact xb_pass hlocks (fun x hx9 => by rw [htab] at hx9; first | cases hx9 | (simp [tableOf] at hx9; rcases hx9 with rfl | rfl | rfl <;> decide)) (show ((k + c4) + c7) ≤ MC by omega) (show ((n + sc4) + sc7) ≤ MS by omega) (hE.tr hEh5) hR hS hex hq
  · exact xb_pass hlocks (fun x hx9 => by rw [htab] at hx9; first | cases hx9 | (simp [tableOf] at hx9; rcases hx9 with rfl | rfl | rfl <;> decide)) (show (k + c4) ≤ MC by omega) (show (n + sc4) ≤ MS by omega) (hE.tr hEh2) hR hS hex hq

set_option maxHeartbeats 4000000 in
set_option maxRecDepth 100000 in
theorem ok_Checker_checkAll (l : Launch) (hfl : l.flags = pinnedFlags ++ [noTraceFlag]) (D : va_G) (A : Nat → Prop) (σ : Nat) (x0 : Nat) (x1 : Nat) (h : xb_H) (bc : Nat) (bs : Nat) (Qr : xb_H → Prop) (Qt : String → xb_H → Prop) (hw : w_Checker_checkAll x0 x1 h bc bs Qr Qt) : xt_Met l y_Checker_checkAll [.code y_Checker_checkAll b_Checker_checkAll 3 none] (xb_rm 8 bc bs) (xb_Pc D A σ h [.ref x0, .ref x1]) (xb_Qc D A h (fun v h => v = none ∧ Qr h) Qt) bc bs A := by
  refine xb_ofAm (cc := b_Checker_checkAll) (by decide) (Nat.le_of_ble_eq_true rfl) ?_
  unfold w_Checker_checkAll at hw
  show xb_am l D A σ 8 bc bs h (fun v h => v = none ∧ Qr h) Qt y_Checker_checkAll.cls y_Checker_checkAll.name b_Checker_checkAll 3 ([] : List ExceptionTableEntry) none 0 [(0, .ref x0), (1, .ref x1)] [] h bc bs
  obtain ⟨MC, hMC⟩ : ∃ x, x = bc := ⟨_, rfl⟩
  obtain ⟨MS, hMS⟩ : ∃ x, x = bs := ⟨_, rfl⟩
  rw [show xb_am l D A σ 8 bc bs = xb_am l D A σ 8 MC MS by rw [hMC, hMS]]
  obtain ⟨h0, hh0⟩ : ∃ x, x = h := ⟨_, rfl⟩
  rw [show xb_am l D A σ 8 MC MS h = xb_am l D A σ 8 MC MS h0 by rw [hh0]]
  intro p e s m args below meth c hC H locs ls k n hE hl hR hS hk hn
  obtain ⟨hx, hb, hown, hlocks, htab, hml, hr, hB, hA, hnm⟩ := id hC
  have hts := hB.1.1.at args
  refine lv_aload_n hx hb (xb_d D_Checker_checkAll 0 rfl) rfl (lv_at hl 0 rfl) ?_
  refine lv_aload_n hx hb (xb_d D_Checker_checkAll 1 rfl) rfl (lv_at hl 1 rfl) ?_
  obtain ⟨hk1, hw⟩ := hw
  refine xb_putP (C := R_Checker) (T := F_Checker) (N := 17) (ty := .object "StackHost$StackModule") (x := (some x1)) hx hb 4 0 hts fin_Checker t_Checker t_Checker_ok n_Checker hown hR hS hk1 (by decide) rfl (by decide) rfl (hts _ m_070795bc) (fun _ h9 => h9) rfl (by decide +kernel) (xb_pnO _ _).1 (xb_pnO _ _).2 (xb_d D_Checker_checkAll 2 rfl) (fun H locs hR hS => ?_)
  obtain ⟨h2, eh2⟩ : ∃ x : xb_H, x = xb_P h x0 0 (some x1) := ⟨_, rfl⟩
  rw [← eh2] at hR
  have hw := hw h2 eh2
  have hE : xb_ext h0 h2 := by rw [eh2]; exact hE
  refine lv_aload_n hx hb (xb_d D_Checker_checkAll 3 rfl) rfl (lv_at hl 0 rfl) ?_
  refine lv_aload_n hx hb (xb_d D_Checker_checkAll 4 rfl) rfl (lv_at hl 1 rfl) ?_
  obtain ⟨hk3, hw⟩ := hw
  refine xb_getP (C := R_StackModule) (T := F_StackModule) (N := 19) hx hb 2 0 hts fin_StackModule hown hR hk3 (by decide) rfl (by decide) rfl (hts _ m_12426e47) (fun _ h9 => h9) (xb_d D_Checker_checkAll 5 rfl) ?_
  obtain ⟨b4, eb4, hw⟩ := hw
  refine xb_some eb4 ?_
  have hk1 : xb_k h2 x0 = 5 := by rw [eh2]; exact hk1
  refine xb_putP (C := R_Checker) (T := F_Checker) (N := 17) (ty := .array .byte) (x := (some b4)) hx hb 4 1 hts fin_Checker t_Checker t_Checker_ok n_Checker hown hR hS hk1 (by decide) rfl (by decide) rfl (hts _ m_8db7c2eb) (fun _ h9 => h9) rfl (by decide +kernel) (xb_pnA _ _).1 (xb_pnA _ _).2 (xb_d D_Checker_checkAll 6 rfl) (fun H locs hR hS => ?_)
  obtain ⟨h5, eh5⟩ : ∃ x : xb_H, x = xb_P h2 x0 1 (some b4) := ⟨_, rfl⟩
  rw [← eh5] at hR
  have hw := hw h5 eh5
  have hE : xb_ext h0 h5 := by rw [eh5]; exact hE
  refine lv_aload_n hx hb (xb_d D_Checker_checkAll 7 rfl) rfl (lv_at hl 0 rfl) ?_
  refine lv_aload_n hx hb (xb_d D_Checker_checkAll 8 rfl) rfl (lv_at hl 1 rfl) ?_
  have hk3 : xb_k h5 x1 = 3 := by rw [eh5]; exact hk3
  refine xb_getP (C := R_StackModule) (T := F_StackModule) (N := 19) hx hb 2 1 hts fin_StackModule hown hR hk3 (by decide) rfl (by decide) rfl (hts _ m_527108a7) (fun _ h9 => h9) (xb_d D_Checker_checkAll 9 rfl) ?_
  obtain ⟨b6, eb6, hw⟩ := hw
  refine xb_some eb6 ?_
  have hk1 : xb_k h5 x0 = 5 := by rw [eh5]; exact hk1
  refine xb_putP (C := R_Checker) (T := F_Checker) (N := 17) (ty := .array .int) (x := (some b6)) hx hb 4 2 hts fin_Checker t_Checker t_Checker_ok n_Checker hown hR hS hk1 (by decide) rfl (by decide) rfl (hts _ m_b5ef1148) (fun _ h9 => h9) rfl (by decide +kernel) (xb_pnA _ _).1 (xb_pnA _ _).2 (xb_d D_Checker_checkAll 10 rfl) (fun H locs hR hS => ?_)
  obtain ⟨h7, eh7⟩ : ∃ x : xb_H, x = xb_P h5 x0 2 (some b6) := ⟨_, rfl⟩
  rw [← eh7] at hR
  have hw := hw h7 eh7
  have hE : xb_ext h0 h7 := by rw [eh7]; exact hE
  refine lv_aload_n hx hb (xb_d D_Checker_checkAll 11 rfl) rfl (lv_at hl 0 rfl) ?_
  have hk1 : xb_k h7 x0 = 5 := by rw [eh7]; exact hk1
  refine xb_getP (C := R_Checker) (T := F_Checker) (N := 17) hx hb 4 3 hts fin_Checker hown hR hk1 (by decide) rfl (by decide) rfl (hts _ m_9eace759) (fun _ h9 => h9) (xb_d D_Checker_checkAll 12 rfl) ?_
  obtain ⟨b8, eb8, hw⟩ := hw
  refine xb_some eb8 ?_
  obtain ⟨hk9, hw⟩ := hw
  refine xb_alen hx hb hR hk9 (by decide) (xb_d D_Checker_checkAll 13 rfl) ?_
  refine lv_aload_n hx hb (xb_d D_Checker_checkAll 14 rfl) rfl (lv_at hl 0 rfl) ?_
  refine xb_getP (C := R_Checker) (T := F_Checker) (N := 17) hx hb 4 1 hts fin_Checker hown hR hk1 (by decide) rfl (by decide) rfl (hts _ m_8db7c2eb) (fun _ h9 => h9) (xb_d D_Checker_checkAll 15 rfl) ?_
  obtain ⟨b10, eb10, hw⟩ := hw
  refine xb_some eb10 ?_
  obtain ⟨hk11, hw⟩ := hw
  refine xb_alen hx hb hR hk11 (by decide) (xb_d D_Checker_checkAll 16 rfl) ?_
  refine lv_icmp_gt (tgt := 47) hx hb (xb_d D_Checker_checkAll 17 rfl) rfl (fun hc12 => ?_) (fun hc12 => ?_)
  · have hw := hw.1 hc12
    exact am_Checker_checkAll_L47 l hfl D A σ MC MS h0 Qr Qt x0 h7 bc bs hw p e s m args below meth c hC H locs ls k n hE (lv_sub hl [0] rfl) hR hS (by omega) (by omega)
  · have hw := hw.2 hc12
    refine lv_aload_n hx hb (xb_d D_Checker_checkAll 18 rfl) rfl (lv_at hl 0 rfl) ?_
    refine lv_aload_n hx hb (xb_d D_Checker_checkAll 19 rfl) rfl (lv_at hl 0 rfl) ?_
    refine xb_getP (C := R_Checker) (T := F_Checker) (N := 17) hx hb 4 1 hts fin_Checker hown hR hk1 (by decide) rfl (by decide) rfl (hts _ m_8db7c2eb) (fun _ h9 => h9) (xb_d D_Checker_checkAll 20 rfl) ?_
    obtain ⟨b13, eb13, hw⟩ := hw
    refine xb_some eb13 ?_
    obtain ⟨hk14, hw⟩ := hw
    refine xb_alen hx hb hR hk14 (by decide) (xb_d D_Checker_checkAll 21 rfl) ?_
    refine lv_iconst (v := 1) hx hb (xb_d D_Checker_checkAll 22 rfl) (by decide) ?_
    refine lv_iadd hx hb (xb_d D_Checker_checkAll 23 rfl) ?_
    obtain ⟨hnq15, hbq15, hcq15, hsq15, hw⟩ := hw
    have enq15 : (Int32.toNatClampNeg ((nI (xb_n h7 b13)) + 1)) = (Int32.toNatClampNeg ((nI (xb_n h7 b13)) + 1)) := rfl
    refine xb_newa_b hx hb (hts _ m_2503b19f) hR hS hA hnq15 hbq15 (show k + 1 ≤ MC by omega) (show n + _ ≤ MS by rw [enq15]; omega) (xb_d D_Checker_checkAll 24 rfl) (fun q15 H hqq15 hR hS => ?_)
    rw [enq15] at hR ⊢
    have hw := hw q15 hqq15
    obtain ⟨h16, eh16⟩ : ∃ x : xb_H, x = xb_new h7 q15 100 (Int32.toNatClampNeg ((nI (xb_n h7 b13)) + 1)) := ⟨_, rfl⟩
    rw [← eh16] at hR
    have hw := hw h16 eh16
    have hE : xb_ext h0 h16 := by rw [eh16]; exact hE.new _ _ hqq15
    have hk17 : xb_k h16 q15 = 100 := by rw [eh16]; exact xb_new_k _ _ _ _
    have hk1 : xb_k h16 x0 = 5 := by rw [eh16]; exact xb_nk hqq15 hk1
    refine xb_putP (C := R_Checker) (T := F_Checker) (N := 17) (ty := .array .byte) (x := (some q15)) hx hb 4 3 hts fin_Checker t_Checker t_Checker_ok n_Checker hown hR hS hk1 (by decide) rfl (by decide) rfl (hts _ m_9eace759) (fun _ h9 => h9) rfl (by decide +kernel) (xb_pnA _ _).1 (xb_pnA _ _).2 (xb_d D_Checker_checkAll 25 rfl) (fun H locs hR hS => ?_)
    obtain ⟨h18, eh18⟩ : ∃ x : xb_H, x = xb_P h16 x0 3 (some q15) := ⟨_, rfl⟩
    rw [← eh18] at hR
    have hw := hw h18 eh18
    have hE : xb_ext h0 h18 := by rw [eh18]; exact hE
    exact am_Checker_checkAll_L47 l hfl D A σ MC MS h0 Qr Qt x0 h18 (bc - 1) (bs - (Int32.toNatClampNeg ((nI (xb_n h7 b13)) + 1))) hw p e s m args below meth c hC H locs ls (k + 1) (n + (Int32.toNatClampNeg ((nI (xb_n h7 b13)) + 1))) hE (lv_sub hl [0] rfl) hR hS (by omega) (by omega)

theorem m_02d4ff05 : (.methodLink "StackHost$Machine" 223 y_Machine_control : Cond) ∈ xt_tbl := xt_in (xt_t9 (List.mem_of_getElem? (i := 5) (by decide +kernel))) (by decide +kernel)
theorem m_edffe6df : (.instanceMethod y_Machine_control : Cond) ∈ xt_tbl := xt_in (xt_t9 (List.mem_of_getElem? (i := 7) (by decide +kernel))) (by decide +kernel)
theorem m_40d82715 : (.selects "StackHost$Machine" y_Machine_control y_Machine_control : Cond) ∈ xt_tbl := xt_in (xt_v8 (q := (⟨"StackHost$Machine", "control", "(I)V"⟩, 18)) (List.mem_of_getElem? (i := 11) (by decide +kernel))) (by decide +kernel)
theorem m_a4da8ace : (.code y_Machine_control b_Machine_control 3 none : Cond) ∈ xt_tbl := xt_in (xt_t9 (List.mem_of_getElem? (i := 8) (by decide +kernel))) (by decide +kernel)
theorem m_5186b176 : (.methodLink "StackHost$Machine" 220 y_Machine_useNamed : Cond) ∈ xt_tbl := xt_in (xt_t9 (List.mem_of_getElem? (i := 0) (by decide +kernel))) (by decide +kernel)
theorem m_77dd8d47 : (.instanceMethod y_Machine_useNamed : Cond) ∈ xt_tbl := xt_in (xt_t9 (List.mem_of_getElem? (i := 2) (by decide +kernel))) (by decide +kernel)
theorem m_b73e8bb0 : (.selects "StackHost$Machine" y_Machine_useNamed y_Machine_useNamed : Cond) ∈ xt_tbl := xt_in (xt_v8 (q := (⟨"StackHost$Machine", "useNamed", "(I)V"⟩, 18)) (List.mem_of_getElem? (i := 10) (by decide +kernel))) (by decide +kernel)
theorem m_619ecbba : (.code y_Machine_useNamed b_Machine_useNamed 3 none : Cond) ∈ xt_tbl := xt_in (xt_t9 (List.mem_of_getElem? (i := 3) (by decide +kernel))) (by decide +kernel)
theorem m_52bee0ff : (.methodLink "StackHost$Machine" 217 y_Machine_useMemory : Cond) ∈ xt_tbl := xt_in (xt_t8 (List.mem_of_getElem? (i := 218) (by decide +kernel))) (by decide +kernel)
theorem m_0c776cd9 : (.instanceMethod y_Machine_useMemory : Cond) ∈ xt_tbl := xt_in (xt_t8 (List.mem_of_getElem? (i := 220) (by decide +kernel))) (by decide +kernel)
theorem m_54520fd0 : (.selects "StackHost$Machine" y_Machine_useMemory y_Machine_useMemory : Cond) ∈ xt_tbl := xt_in (xt_v8 (q := (⟨"StackHost$Machine", "useMemory", "(I)V"⟩, 18)) (List.mem_of_getElem? (i := 9) (by decide +kernel))) (by decide +kernel)
theorem m_35558221 : (.code y_Machine_useMemory b_Machine_useMemory 9 none : Cond) ∈ xt_tbl := xt_in (xt_t8 (List.mem_of_getElem? (i := 221) (by decide +kernel))) (by decide +kernel)
theorem m_74f96eb9 : (.methodLink "StackHost$Machine" 214 y_Machine_sizeMemory : Cond) ∈ xt_tbl := xt_in (xt_t8 (List.mem_of_getElem? (i := 213) (by decide +kernel))) (by decide +kernel)
theorem m_370729f6 : (.instanceMethod y_Machine_sizeMemory : Cond) ∈ xt_tbl := xt_in (xt_t8 (List.mem_of_getElem? (i := 215) (by decide +kernel))) (by decide +kernel)
theorem m_ad194adf : (.selects "StackHost$Machine" y_Machine_sizeMemory y_Machine_sizeMemory : Cond) ∈ xt_tbl := xt_in (xt_v8 (q := (⟨"StackHost$Machine", "sizeMemory", "(I)V"⟩, 18)) (List.mem_of_getElem? (i := 8) (by decide +kernel))) (by decide +kernel)
theorem m_2d25fcdd : (.code y_Machine_sizeMemory b_Machine_sizeMemory 2 none : Cond) ∈ xt_tbl := xt_in (xt_t8 (List.mem_of_getElem? (i := 216) (by decide +kernel))) (by decide +kernel)
theorem m_db21e659 : (.methodLink "StackHost$Machine" 210 y_StackModule_constantAt : Cond) ∈ xt_tbl := xt_in (xt_t8 (List.mem_of_getElem? (i := 212) (by decide +kernel))) (by decide +kernel)
theorem m_5cd21231 : (.methodLink "StackHost$Machine" 207 y_Machine_reckonWhole : Cond) ∈ xt_tbl := xt_in (xt_t8 (List.mem_of_getElem? (i := 144) (by decide +kernel))) (by decide +kernel)
theorem m_3c9378a4 : (.instanceMethod y_Machine_reckonWhole : Cond) ∈ xt_tbl := xt_in (xt_t8 (List.mem_of_getElem? (i := 146) (by decide +kernel))) (by decide +kernel)
theorem m_49400823 : (.selects "StackHost$Machine" y_Machine_reckonWhole y_Machine_reckonWhole : Cond) ∈ xt_tbl := xt_in (xt_v8 (q := (⟨"StackHost$Machine", "reckonWhole", "(I)V"⟩, 18)) (List.mem_of_getElem? (i := 4) (by decide +kernel))) (by decide +kernel)
theorem m_eea792a8 : (.code y_Machine_reckonWhole b_Machine_reckonWhole 2 none : Cond) ∈ xt_tbl := xt_in (xt_t8 (List.mem_of_getElem? (i := 147) (by decide +kernel))) (by decide +kernel)
theorem m_20fd797c : (.methodLink "StackHost$Machine" 204 y_Machine_reckonFloating : Cond) ∈ xt_tbl := xt_in (xt_t8 (List.mem_of_getElem? (i := 82) (by decide +kernel))) (by decide +kernel)
theorem m_2faf23ec : (.instanceMethod y_Machine_reckonFloating : Cond) ∈ xt_tbl := xt_in (xt_t8 (List.mem_of_getElem? (i := 84) (by decide +kernel))) (by decide +kernel)
theorem m_542fcffc : (.selects "StackHost$Machine" y_Machine_reckonFloating y_Machine_reckonFloating : Cond) ∈ xt_tbl := xt_in (xt_v7 (q := (⟨"StackHost$Machine", "reckonFloating", "(I)V"⟩, 18)) (List.mem_of_getElem? (i := 9) (by decide +kernel))) (by decide +kernel)
theorem m_76f0ef1a : (.code y_Machine_reckonFloating b_Machine_reckonFloating 5 none : Cond) ∈ xt_tbl := xt_in (xt_t8 (List.mem_of_getElem? (i := 85) (by decide +kernel))) (by decide +kernel)
theorem m_4f9a0675 : (.methodLink "StackHost$Machine" 201 y_Machine_convert : Cond) ∈ xt_tbl := xt_in (xt_t8 (List.mem_of_getElem? (i := 12) (by decide +kernel))) (by decide +kernel)
theorem m_5dd650a3 : (.instanceMethod y_Machine_convert : Cond) ∈ xt_tbl := xt_in (xt_t8 (List.mem_of_getElem? (i := 14) (by decide +kernel))) (by decide +kernel)
theorem m_effb3973 : (.selects "StackHost$Machine" y_Machine_convert y_Machine_convert : Cond) ∈ xt_tbl := xt_in (xt_v6 (q := (⟨"StackHost$Machine", "convert", "(I)V"⟩, 18)) (List.mem_of_getElem? (i := 14) (by decide +kernel))) (by decide +kernel)
theorem m_7902188e : (.code y_Machine_convert b_Machine_convert 4 none : Cond) ∈ xt_tbl := xt_in (xt_t8 (List.mem_of_getElem? (i := 15) (by decide +kernel))) (by decide +kernel)
theorem nm_Machine_control : xt_nm y_Machine_control 1 := ⟨by decide +kernel, by decide +kernel⟩
theorem nm_Machine_useNamed : xt_nm y_Machine_useNamed 1 := ⟨by decide +kernel, by decide +kernel⟩
theorem nm_Machine_useMemory : xt_nm y_Machine_useMemory 1 := ⟨by decide +kernel, by decide +kernel⟩
theorem nm_Machine_sizeMemory : xt_nm y_Machine_sizeMemory 1 := ⟨by decide +kernel, by decide +kernel⟩
theorem nm_Machine_reckonWhole : xt_nm y_Machine_reckonWhole 1 := ⟨by decide +kernel, by decide +kernel⟩
theorem nm_Machine_reckonFloating : xt_nm y_Machine_reckonFloating 1 := ⟨by decide +kernel, by decide +kernel⟩
theorem nm_Machine_convert : xt_nm y_Machine_convert 1 := ⟨by decide +kernel, by decide +kernel⟩
set_option maxRecDepth 100000 in
def T_Machine_step : List (Nat × Instr × Nat) := [(0, .aload_n 0, 1), (1, .getfield 104, 3), (4, .aload_n 0, 1), (5, .getfield 108, 3), (8, .baload, 1), (9, .sipush 255, 3), (12, .iand, 1), (13, .istore_n 1, 1), (14, .iload_n 1, 1), (15, .sipush 167, 3), (18, .if_icmp .lt 21, 3), (21, .aload_n 0, 1), (22, .iload_n 1, 1), (23, .invokevirtual 201, 3), (26, .aload_n 0, 1), (27, .dup, 1), (28, .getfield 108, 3), (31, .iconst 1, 1), (32, .iadd, 1), (33, .putfield 108, 3), (36, .goto 152, 3), (39, .iload_n 1, 1), (40, .sipush 139, 3), (43, .if_icmp .lt 21, 3), (46, .aload_n 0, 1), (47, .iload_n 1, 1), (48, .invokevirtual 204, 3), (51, .aload_n 0, 1), (52, .dup, 1), (53, .getfield 108, 3), (56, .iconst 1, 1), (57, .iadd, 1), (58, .putfield 108, 3), (61, .goto 127, 3), (64, .iload_n 1, 1), (65, .bipush 69, 2), (67, .if_icmp .lt 21, 3), (70, .aload_n 0, 1), (71, .iload_n 1, 1), (72, .invokevirtual 207, 3), (75, .aload_n 0, 1), (76, .dup, 1), (77, .getfield 108, 3), (80, .iconst 1, 1), (81, .iadd, 1), (82, .putfield 108, 3), (85, .goto 103, 3), (88, .iload_n 1, 1), (89, .bipush 65, 2), (91, .if_icmp .lt 37, 3), (94, .aload_n 0, 1), (95, .aload_n 0, 1), (96, .getfield 117, 3), (99, .getfield 139, 3), (102, .aload_n 0, 1), (103, .getfield 108, 3), (106, .invokevirtual 210, 3), (109, .invokevirtual 198, 3), (112, .aload_n 0, 1), (113, .aload_n 0, 1), (114, .getfield 111, 3), (117, .aload_n 0, 1), (118, .getfield 108, 3), (121, .iaload, 1), (122, .putfield 108, 3), (125, .goto 63, 3), (128, .iload_n 1, 1), (129, .bipush 63, 2), (131, .if_icmp .lt 11, 3), (134, .aload_n 0, 1), (135, .iload_n 1, 1), (136, .invokevirtual 214, 3), (139, .goto 49, 3), (142, .iload_n 1, 1), (143, .bipush 40, 2), (145, .if_icmp .lt 11, 3), (148, .aload_n 0, 1), (149, .iload_n 1, 1), (150, .invokevirtual 217, 3), (153, .goto 35, 3), (156, .iload_n 1, 1), (157, .bipush 32, 2), (159, .if_icmp .lt 24, 3), (162, .aload_n 0, 1), (163, .iload_n 1, 1), (164, .invokevirtual 220, 3), (167, .aload_n 0, 1), (168, .aload_n 0, 1), (169, .getfield 111, 3), (172, .aload_n 0, 1), (173, .getfield 108, 3), (176, .iaload, 1), (177, .putfield 108, 3), (180, .goto 8, 3), (183, .aload_n 0, 1), (184, .iload_n 1, 1), (185, .invokevirtual 223, 3), (188, .return_, 1)]
theorem D_Machine_step : ∀ q ∈ T_Machine_step, decode b_Machine_step q.1 = .ok (q.2.1, q.2.2) := by decide +kernel
def w_Machine_step_L188 (Qr : xb_H → Prop) (h : xb_H) (bc : Nat) (bs : Nat) : Prop :=
    Qr h

def w_Machine_step (x0 : Nat) (h : xb_H) (bc : Nat) (bs : Nat) (Qr : xb_H → Prop) : Prop :=
    xb_k h x0 = 8 ∧ ∃ b2 : Nat, (xb_r h x0 13) = some b2 ∧ xb_k h b2 = 100 ∧ vp_in (xb_i h x0 15) (xb_n h b2) ∧ ∀ v5 : Int32, v5 = ((xb_i h b2 (Int32.toNatClampNeg (xb_i h x0 15))) &&& 255) → ((v5 < (167 : Int32) → ((v5 < (139 : Int32) → ((v5 < (69 : Int32) → ((v5 < (65 : Int32) → ((v5 < (63 : Int32) → ((v5 < (40 : Int32) → ((v5 < (32 : Int32) → ∃ c15 sc15 : Nat, c15 ≤ bc ∧ sc15 ≤ bs ∧ w_Machine_control x0 v5 h c15 sc15 (fun (h13 : xb_H) => xb_ext h h13 → w_Machine_step_L188 Qr h13 (bc - c15) (bs - sc15))) ∧ (¬ v5 < (32 : Int32) → w_Machine_useNamed x0 v5 h (fun (h16 : xb_H) => xb_ext h h16 → ∃ b18 : Nat, (xb_r h16 x0 14) = some b18 ∧ xb_k h16 b18 = 102 ∧ vp_in (xb_i h16 x0 15) (xb_n h16 b18) ∧ ∀ h21 : xb_H, h21 = xb_I h16 x0 15 (xb_i h16 b18 (Int32.toNatClampNeg (xb_i h16 x0 15))) → w_Machine_step_L188 Qr h21 bc bs)))) ∧ (¬ v5 < (40 : Int32) → w_Machine_useMemory x0 v5 h (fun (h22 : xb_H) => xb_ext h h22 → w_Machine_step_L188 Qr h22 bc bs)))) ∧ (¬ v5 < (63 : Int32) → ∃ c26 sc26 : Nat, c26 ≤ bc ∧ sc26 ≤ bs ∧ w_Machine_sizeMemory x0 v5 h c26 sc26 (fun (h24 : xb_H) => xb_ext h h24 → w_Machine_step_L188 Qr h24 (bc - c26) (bs - sc26))))) ∧ (¬ v5 < (65 : Int32) → ∃ b27 : Nat, (xb_r h x0 12) = some b27 ∧ xb_k h b27 = 11 ∧ ∃ b29 : Nat, (xb_r h b27 1) = some b29 ∧ xb_k h b29 = 3 ∧ w_StackModule_constantAt b29 (xb_i h x0 15) h (fun (r32 : Int64) (h31 : xb_H) => xb_ext h h31 → w_Machine_putValue x0 r32 h31 (fun (h33 : xb_H) => xb_ext h31 h33 → ∃ b35 : Nat, (xb_r h33 x0 14) = some b35 ∧ xb_k h33 b35 = 102 ∧ vp_in (xb_i h33 x0 15) (xb_n h33 b35) ∧ ∀ h38 : xb_H, h38 = xb_I h33 x0 15 (xb_i h33 b35 (Int32.toNatClampNeg (xb_i h33 x0 15))) → w_Machine_step_L188 Qr h38 bc bs))))) ∧ (¬ v5 < (69 : Int32) → w_Machine_reckonWhole x0 v5 h (fun (h39 : xb_H) => xb_ext h h39 → ∀ h41 : xb_H, h41 = xb_I h39 x0 15 ((xb_i h39 x0 15) + 1) → w_Machine_step_L188 Qr h41 bc bs)))) ∧ (¬ v5 < (139 : Int32) → w_Machine_reckonFloating x0 v5 h (fun (h42 : xb_H) => xb_ext h h42 → ∀ h44 : xb_H, h44 = xb_I h42 x0 15 ((xb_i h42 x0 15) + 1) → w_Machine_step_L188 Qr h44 bc bs)))) ∧ (¬ v5 < (167 : Int32) → w_Machine_convert x0 v5 h (fun (h45 : xb_H) => xb_ext h h45 → ∀ h47 : xb_H, h47 = xb_I h45 x0 15 ((xb_i h45 x0 15) + 1) → w_Machine_step_L188 Qr h47 bc bs)))

set_option maxHeartbeats 4000000 in
set_option maxRecDepth 100000 in
theorem am_Machine_step_L188 (l : Launch) (hfl : l.flags = pinnedFlags ++ [noTraceFlag]) (D : va_G) (A : Nat → Prop) (σ MC MS : Nat) (h0 : xb_H) (Qr : xb_H → Prop) (h : xb_H) (bc : Nat) (bs : Nat) (hw : w_Machine_step_L188 Qr h bc bs) : xb_am l D A σ 8 MC MS h0 (fun v h => v = none ∧ Qr h) (fun _ _ => False) y_Machine_step.cls y_Machine_step.name b_Machine_step 2 ([] : List ExceptionTableEntry) none 188 [] [] h bc bs := by
  unfold w_Machine_step_L188 at hw
  intro p e s m args below meth c hC H locs ls k n hE hl hR hS hk hn
  obtain ⟨hx, hb, hown, hlocks, htab, hml, hr, hB, hA, hnm⟩ := id hC
  have hts := hB.1.1.at args
  exact xb_vret hx hb hr hlocks (show k ≤ MC by omega) (show n ≤ MS by omega) hE hR hS (xb_d D_Machine_step 97 rfl) hw

set_option maxHeartbeats 4000000 in
set_option maxRecDepth 100000 in
theorem ok_Machine_step (l : Launch) (hfl : l.flags = pinnedFlags ++ [noTraceFlag]) (D : va_G) (A : Nat → Prop) (σ : Nat) (x0 : Nat) (h : xb_H) (bc : Nat) (bs : Nat) (Qr : xb_H → Prop) (hw : w_Machine_step x0 h bc bs Qr) : xt_Met l y_Machine_step [.code y_Machine_step b_Machine_step 2 none] (xb_rm 8 bc bs) (xb_Pc D A σ h [.ref x0]) (xb_Qc D A h (fun v h => v = none ∧ Qr h) (fun _ _ => False)) bc bs A := by
  refine xb_ofAm (cc := b_Machine_step) (by decide) (Nat.le_of_ble_eq_true rfl) ?_
  unfold w_Machine_step at hw
  show xb_am l D A σ 8 bc bs h (fun v h => v = none ∧ Qr h) (fun _ _ => False) y_Machine_step.cls y_Machine_step.name b_Machine_step 2 ([] : List ExceptionTableEntry) none 0 [(0, .ref x0)] [] h bc bs
  obtain ⟨MC, hMC⟩ : ∃ x, x = bc := ⟨_, rfl⟩
  obtain ⟨MS, hMS⟩ : ∃ x, x = bs := ⟨_, rfl⟩
  rw [show xb_am l D A σ 8 bc bs = xb_am l D A σ 8 MC MS by rw [hMC, hMS]]
  obtain ⟨h0, hh0⟩ : ∃ x, x = h := ⟨_, rfl⟩
  rw [show xb_am l D A σ 8 MC MS h = xb_am l D A σ 8 MC MS h0 by rw [hh0]]
  intro p e s m args below meth c hC H locs ls k n hE hl hR hS hk hn
  obtain ⟨hx, hb, hown, hlocks, htab, hml, hr, hB, hA, hnm⟩ := id hC
  have hts := hB.1.1.at args
  refine lv_aload_n hx hb (xb_d D_Machine_step 0 rfl) rfl (lv_at hl 0 rfl) ?_
  obtain ⟨hk1, hw⟩ := hw
  refine xb_getP (C := R_Machine) (T := F_Machine) (N := 18) hx hb 7 13 hts fin_Machine hown hR hk1 (by decide) rfl (by decide) rfl (hts _ m_a6a0f666) (fun _ h9 => h9) (xb_d D_Machine_step 1 rfl) ?_
  obtain ⟨b2, eb2, hw⟩ := hw
  refine xb_some eb2 ?_
  refine lv_aload_n hx hb (xb_d D_Machine_step 2 rfl) rfl (lv_at hl 0 rfl) ?_
  refine xb_getI (C := R_Machine) (T := F_Machine) (N := 18) hx hb 7 15 hts fin_Machine hown hR hk1 (by decide) rfl (by decide) rfl (hts _ m_6a595805) (fun _ h9 => h9) (xb_d D_Machine_step 3 rfl) ?_
  obtain ⟨hk4, hw⟩ := hw
  obtain ⟨hi3, hw⟩ := hw
  refine xb_bald hx hb hR hk4 hi3 (xb_d D_Machine_step 4 rfl) ?_
  refine lv_sipush (v := 255) hx hb (xb_d D_Machine_step 5 rfl) (by decide) ?_
  refine lv_iand hx hb (xb_d D_Machine_step 6 rfl) ?_
  obtain ⟨v5, ev5⟩ : ∃ x : Int32, x = ((xb_i h b2 (Int32.toNatClampNeg (xb_i h x0 15))) &&& 255) := ⟨_, rfl⟩
  have hw := hw v5 ev5
  refine xt_numi (y := v5) ev5.symm ?_
  refine lv_istore_n hx hb (xb_d D_Machine_step 7 rfl) rfl hl (by decide) rfl (fun ls hl => ?_)
  have hl : lv_has ls 2 [(1, .int v5), (0, .ref x0)] := hl
  refine lv_iload_n hx hb (xb_d D_Machine_step 8 rfl) rfl (lv_at hl 0 rfl) ?_
  refine lv_sipush (v := 167) hx hb (xb_d D_Machine_step 9 rfl) (by decide) ?_
  refine lv_icmp_lt (tgt := 39) hx hb (xb_d D_Machine_step 10 rfl) rfl (fun hc6 => ?_) (fun hc6 => ?_)
  · have hw := hw.1 hc6
    refine lv_iload_n hx hb (xb_d D_Machine_step 21 rfl) rfl (lv_at hl 0 rfl) ?_
    refine lv_sipush (v := 139) hx hb (xb_d D_Machine_step 22 rfl) (by decide) ?_
    refine lv_icmp_lt (tgt := 64) hx hb (xb_d D_Machine_step 23 rfl) rfl (fun hc7 => ?_) (fun hc7 => ?_)
    · have hw := hw.1 hc7
      refine lv_iload_n hx hb (xb_d D_Machine_step 34 rfl) rfl (lv_at hl 0 rfl) ?_
      refine lv_bipush (v := 69) hx hb (xb_d D_Machine_step 35 rfl) (by decide) ?_
      refine lv_icmp_lt (tgt := 88) hx hb (xb_d D_Machine_step 36 rfl) rfl (fun hc8 => ?_) (fun hc8 => ?_)
      · have hw := hw.1 hc8
        refine lv_iload_n hx hb (xb_d D_Machine_step 47 rfl) rfl (lv_at hl 0 rfl) ?_
        refine lv_bipush (v := 65) hx hb (xb_d D_Machine_step 48 rfl) (by decide) ?_
        refine lv_icmp_lt (tgt := 128) hx hb (xb_d D_Machine_step 49 rfl) rfl (fun hc9 => ?_) (fun hc9 => ?_)
        · have hw := hw.1 hc9
          refine lv_iload_n hx hb (xb_d D_Machine_step 66 rfl) rfl (lv_at hl 0 rfl) ?_
          refine lv_bipush (v := 63) hx hb (xb_d D_Machine_step 67 rfl) (by decide) ?_
          refine lv_icmp_lt (tgt := 142) hx hb (xb_d D_Machine_step 68 rfl) rfl (fun hc10 => ?_) (fun hc10 => ?_)
          · have hw := hw.1 hc10
            refine lv_iload_n hx hb (xb_d D_Machine_step 73 rfl) rfl (lv_at hl 0 rfl) ?_
            refine lv_bipush (v := 40) hx hb (xb_d D_Machine_step 74 rfl) (by decide) ?_
            refine lv_icmp_lt (tgt := 156) hx hb (xb_d D_Machine_step 75 rfl) rfl (fun hc11 => ?_) (fun hc11 => ?_)
            · have hw := hw.1 hc11
              refine lv_iload_n hx hb (xb_d D_Machine_step 80 rfl) rfl (lv_at hl 0 rfl) ?_
              refine lv_bipush (v := 32) hx hb (xb_d D_Machine_step 81 rfl) (by decide) ?_
              refine lv_icmp_lt (tgt := 183) hx hb (xb_d D_Machine_step 82 rfl) rfl (fun hc12 => ?_) (fun hc12 => ?_)
              · have hw := hw.1 hc12
                refine lv_aload_n hx hb (xb_d D_Machine_step 94 rfl) rfl (lv_at hl 1 rfl) ?_
                refine lv_iload_n hx hb (xb_d D_Machine_step 95 rfl) rfl (lv_at hl 0 rfl) ?_
                obtain ⟨c15, sc15, hlc15, hlsc15, hw⟩ := hw
                refine xb_call (D := D) (A := A) (σ := σ) (h := h) (d := 7) (mc := c15) (ms := sc15) (maxL := 3) (rest := []) (av := [.ref x0, .int v5]) (fun T hT X => by obtain ⟨cb, r1, r2, r3⟩ := xb_recv (ci := 7) hR rfl hk1 (by decide); exact xt_invV X hx hown (hts _ m_02d4ff05) (hts _ m_edffe6df) (hts _ m_40d82715) (xt_sigOf (hts _ m_a4da8ace)) nm_Machine_control (by rw [hT]; exact r1) r2 r3 (g := F0 m 185 ls [.int v5, .ref x0]) rfl (argsL := [.int v5]) (rest := []) rfl rfl (by rw [hb]; exact (xb_d D_Machine_step 96 rfl))) (ok_Machine_control l hfl D A σ x0 v5 h c15 sc15 _ hw) (hml.trans hl.1.symm) (by rw [hb]; exact (xb_d D_Machine_step 96 rfl)) (Nat.le_of_ble_eq_true rfl) (Nat.le_of_ble_eq_true rfl) (Nat.le_of_ble_eq_true rfl) (show k + c15 ≤ MC by omega) (show n + sc15 ≤ MS by omega) (xt_w1 hB.1 m_a4da8ace) (xt_cdOf hB.1 m_a4da8ace) (hts _ m_73451f9b) hB hR hS hA (fun vv h13 H locs hq hEh13 hR hS => ?_) (fun XX ax h13 H locs hq hEh13 hex hR hS => ?_)
                · obtain ⟨rfl, hw⟩ := hq
                  have hw := hw hEh13
                  have hE := hE.tr hEh13
                  refine W.eq (g2 := F0 m 188 ls []) rfl ?_
                  exact am_Machine_step_L188 l hfl D A σ MC MS h0 Qr h13 (bc - c15) (bs - sc15) hw p e s m args below meth c hC H locs ls (k + c15) (n + sc15) hE (lv_sub hl [] rfl) hR hS (by omega) (by omega)
                · exact False.elim hq
              · have hw := hw.2 hc12
                refine lv_aload_n hx hb (xb_d D_Machine_step 83 rfl) rfl (lv_at hl 1 rfl) ?_
                refine lv_iload_n hx hb (xb_d D_Machine_step 84 rfl) rfl (lv_at hl 0 rfl) ?_
                refine xb_call (D := D) (A := A) (σ := σ) (h := h) (d := 3) (mc := 0) (ms := 0) (maxL := 3) (rest := []) (av := [.ref x0, .int v5]) (fun T hT X => by obtain ⟨cb, r1, r2, r3⟩ := xb_recv (ci := 7) hR rfl hk1 (by decide); exact xt_invV X hx hown (hts _ m_5186b176) (hts _ m_77dd8d47) (hts _ m_b73e8bb0) (xt_sigOf (hts _ m_619ecbba)) nm_Machine_useNamed (by rw [hT]; exact r1) r2 r3 (g := F0 m 164 ls [.int v5, .ref x0]) rfl (argsL := [.int v5]) (rest := []) rfl rfl (by rw [hb]; exact (xb_d D_Machine_step 85 rfl))) (ok_Machine_useNamed l hfl D A σ x0 v5 h _ hw) (hml.trans hl.1.symm) (by rw [hb]; exact (xb_d D_Machine_step 85 rfl)) (Nat.le_of_ble_eq_true rfl) (Nat.le_of_ble_eq_true rfl) (Nat.le_of_ble_eq_true rfl) (show k + 0 ≤ MC by omega) (show n + 0 ≤ MS by omega) (xt_w1 hB.1 m_619ecbba) (xt_cdOf hB.1 m_619ecbba) (hts _ m_73451f9b) hB hR hS hA (fun vv h16 H locs hq hEh16 hR hS => ?_) (fun XX ax h16 H locs hq hEh16 hex hR hS => ?_)
                · obtain ⟨rfl, hw⟩ := hq
                  have hw := hw hEh16
                  have hE := hE.tr hEh16
                  refine W.eq (g2 := F0 m 167 ls []) rfl ?_
                  refine lv_aload_n hx hb (xb_d D_Machine_step 86 rfl) rfl (lv_at hl 1 rfl) ?_
                  refine lv_aload_n hx hb (xb_d D_Machine_step 87 rfl) rfl (lv_at hl 1 rfl) ?_
                  have hk1 : xb_k h16 x0 = 8 := hEh16.k hk1
                  refine xb_getP (C := R_Machine) (T := F_Machine) (N := 18) hx hb 7 14 hts fin_Machine hown hR hk1 (by decide) rfl (by decide) rfl (hts _ m_8f763f86) (fun _ h9 => h9) (xb_d D_Machine_step 88 rfl) ?_
                  obtain ⟨b18, eb18, hw⟩ := hw
                  refine xb_some eb18 ?_
                  refine lv_aload_n hx hb (xb_d D_Machine_step 89 rfl) rfl (lv_at hl 1 rfl) ?_
                  refine xb_getI (C := R_Machine) (T := F_Machine) (N := 18) hx hb 7 15 hts fin_Machine hown hR hk1 (by decide) rfl (by decide) rfl (hts _ m_6a595805) (fun _ h9 => h9) (xb_d D_Machine_step 90 rfl) ?_
                  obtain ⟨hk20, hw⟩ := hw
                  obtain ⟨hi19, hw⟩ := hw
                  refine xb_iald hx hb hR hk20 hi19 (xb_d D_Machine_step 91 rfl) ?_
                  refine xb_putI (C := R_Machine) (T := F_Machine) (N := 18) (ty := .int) (x := (xb_i h16 b18 (Int32.toNatClampNeg (xb_i h16 x0 15)))) hx hb 7 15 hts fin_Machine t_Machine t_Machine_ok n_Machine hown hR hS hk1 (by decide) rfl (by decide) rfl (hts _ m_6a595805) (fun _ h9 => h9) rfl (by decide +kernel) rfl rfl (xb_d D_Machine_step 92 rfl) (fun H locs hR hS => ?_)
                  obtain ⟨h21, eh21⟩ : ∃ x : xb_H, x = xb_I h16 x0 15 (xb_i h16 b18 (Int32.toNatClampNeg (xb_i h16 x0 15))) := ⟨_, rfl⟩
                  rw [← eh21] at hR
                  have hw := hw h21 eh21
                  have hE : xb_ext h0 h21 := by rw [eh21]; exact hE
                  refine lv_goto (tgt := 188) hx hb (xb_d D_Machine_step 93 rfl) rfl ?_
                  exact am_Machine_step_L188 l hfl D A σ MC MS h0 Qr h21 bc bs hw p e s m args below meth c hC H locs ls k n hE (lv_sub hl [] rfl) hR hS (by omega) (by omega)
                · exact False.elim hq
            · have hw := hw.2 hc11
              refine lv_aload_n hx hb (xb_d D_Machine_step 76 rfl) rfl (lv_at hl 1 rfl) ?_
              refine lv_iload_n hx hb (xb_d D_Machine_step 77 rfl) rfl (lv_at hl 0 rfl) ?_
              refine xb_call (D := D) (A := A) (σ := σ) (h := h) (d := 5) (mc := 0) (ms := 0) (maxL := 9) (rest := []) (av := [.ref x0, .int v5]) (fun T hT X => by obtain ⟨cb, r1, r2, r3⟩ := xb_recv (ci := 7) hR rfl hk1 (by decide); exact xt_invV X hx hown (hts _ m_52bee0ff) (hts _ m_0c776cd9) (hts _ m_54520fd0) (xt_sigOf (hts _ m_35558221)) nm_Machine_useMemory (by rw [hT]; exact r1) r2 r3 (g := F0 m 150 ls [.int v5, .ref x0]) rfl (argsL := [.int v5]) (rest := []) rfl rfl (by rw [hb]; exact (xb_d D_Machine_step 78 rfl))) (ok_Machine_useMemory l hfl D A σ x0 v5 h _ hw) (hml.trans hl.1.symm) (by rw [hb]; exact (xb_d D_Machine_step 78 rfl)) (Nat.le_of_ble_eq_true rfl) (Nat.le_of_ble_eq_true rfl) (Nat.le_of_ble_eq_true rfl) (show k + 0 ≤ MC by omega) (show n + 0 ≤ MS by omega) (xt_w1 hB.1 m_35558221) (xt_cdOf hB.1 m_35558221) (hts _ m_73451f9b) hB hR hS hA (fun vv h22 H locs hq hEh22 hR hS => ?_) (fun XX ax h22 H locs hq hEh22 hex hR hS => ?_)
              · obtain ⟨rfl, hw⟩ := hq
                have hw := hw hEh22
                have hE := hE.tr hEh22
                refine W.eq (g2 := F0 m 153 ls []) rfl ?_
                refine lv_goto (tgt := 188) hx hb (xb_d D_Machine_step 79 rfl) rfl ?_
                exact am_Machine_step_L188 l hfl D A σ MC MS h0 Qr h22 bc bs hw p e s m args below meth c hC H locs ls k n hE (lv_sub hl [] rfl) hR hS (by omega) (by omega)
              · exact False.elim hq
          · have hw := hw.2 hc10
            refine lv_aload_n hx hb (xb_d D_Machine_step 69 rfl) rfl (lv_at hl 1 rfl) ?_
            refine lv_iload_n hx hb (xb_d D_Machine_step 70 rfl) rfl (lv_at hl 0 rfl) ?_
            obtain ⟨c26, sc26, hlc26, hlsc26, hw⟩ := hw
            refine xb_call (D := D) (A := A) (σ := σ) (h := h) (d := 6) (mc := c26) (ms := sc26) (maxL := 2) (rest := []) (av := [.ref x0, .int v5]) (fun T hT X => by obtain ⟨cb, r1, r2, r3⟩ := xb_recv (ci := 7) hR rfl hk1 (by decide); exact xt_invV X hx hown (hts _ m_74f96eb9) (hts _ m_370729f6) (hts _ m_ad194adf) (xt_sigOf (hts _ m_2d25fcdd)) nm_Machine_sizeMemory (by rw [hT]; exact r1) r2 r3 (g := F0 m 136 ls [.int v5, .ref x0]) rfl (argsL := [.int v5]) (rest := []) rfl rfl (by rw [hb]; exact (xb_d D_Machine_step 71 rfl))) (ok_Machine_sizeMemory l hfl D A σ x0 v5 h c26 sc26 _ hw) (hml.trans hl.1.symm) (by rw [hb]; exact (xb_d D_Machine_step 71 rfl)) (Nat.le_of_ble_eq_true rfl) (Nat.le_of_ble_eq_true rfl) (Nat.le_of_ble_eq_true rfl) (show k + c26 ≤ MC by omega) (show n + sc26 ≤ MS by omega) (xt_w1 hB.1 m_2d25fcdd) (xt_cdOf hB.1 m_2d25fcdd) (hts _ m_73451f9b) hB hR hS hA (fun vv h24 H locs hq hEh24 hR hS => ?_) (fun XX ax h24 H locs hq hEh24 hex hR hS => ?_)
            · obtain ⟨rfl, hw⟩ := hq
              have hw := hw hEh24
              have hE := hE.tr hEh24
              refine W.eq (g2 := F0 m 139 ls []) rfl ?_
              refine lv_goto (tgt := 188) hx hb (xb_d D_Machine_step 72 rfl) rfl ?_
              exact am_Machine_step_L188 l hfl D A σ MC MS h0 Qr h24 (bc - c26) (bs - sc26) hw p e s m args below meth c hC H locs ls (k + c26) (n + sc26) hE (lv_sub hl [] rfl) hR hS (by omega) (by omega)
            · exact False.elim hq
        · have hw := hw.2 hc9
          refine lv_aload_n hx hb (xb_d D_Machine_step 50 rfl) rfl (lv_at hl 1 rfl) ?_
          refine lv_aload_n hx hb (xb_d D_Machine_step 51 rfl) rfl (lv_at hl 1 rfl) ?_
          refine xb_getP (C := R_Machine) (T := F_Machine) (N := 18) hx hb 7 12 hts fin_Machine hown hR hk1 (by decide) rfl (by decide) rfl (hts _ m_a347cb26) (fun _ h9 => h9) (xb_d D_Machine_step 52 rfl) ?_
          obtain ⟨b27, eb27, hw⟩ := hw
          refine xb_some eb27 ?_
          obtain ⟨hk28, hw⟩ := hw
          refine xb_getP (C := R_Instance) (T := F_Instance) (N := 8) hx hb 10 1 hts fin_Instance hown hR hk28 (by decide) rfl (by decide) rfl (hts _ m_142b55ed) (fun _ h9 => h9) (xb_d D_Machine_step 53 rfl) ?_
          obtain ⟨b29, eb29, hw⟩ := hw
          refine xb_some eb29 ?_
          refine lv_aload_n hx hb (xb_d D_Machine_step 54 rfl) rfl (lv_at hl 1 rfl) ?_
          refine xb_getI (C := R_Machine) (T := F_Machine) (N := 18) hx hb 7 15 hts fin_Machine hown hR hk1 (by decide) rfl (by decide) rfl (hts _ m_6a595805) (fun _ h9 => h9) (xb_d D_Machine_step 55 rfl) ?_
          obtain ⟨hk30, hw⟩ := hw
          refine xb_call (D := D) (A := A) (σ := σ) (h := h) (d := 2) (mc := 0) (ms := 0) (maxL := 3) (rest := [.ref x0]) (av := [.ref b29, .int (xb_i h x0 15)]) (fun T hT X => by obtain ⟨cb, r1, r2, r3⟩ := xb_recv (ci := 2) hR rfl hk30 (by decide); exact xt_invV X hx hown (hts _ m_db21e659) (hts _ m_dc97d6c5) (hts _ m_351140f1) (xt_sigOf (hts _ m_7a46ed9e)) nm_StackModule_constantAt (by rw [hT]; exact r1) r2 r3 (g := F0 m 106 ls [.int (xb_i h x0 15), .ref b29, .ref x0]) rfl (argsL := [.int (xb_i h x0 15)]) (rest := [.ref x0]) rfl rfl (by rw [hb]; exact (xb_d D_Machine_step 56 rfl))) (ok_StackModule_constantAt l hfl D A σ b29 (xb_i h x0 15) h _ hw) (hml.trans hl.1.symm) (by rw [hb]; exact (xb_d D_Machine_step 56 rfl)) (Nat.le_of_ble_eq_true rfl) (Nat.le_of_ble_eq_true rfl) (Nat.le_of_ble_eq_true rfl) (show k + 0 ≤ MC by omega) (show n + 0 ≤ MS by omega) (xt_w1 hB.1 m_7a46ed9e) (xt_cdOf hB.1 m_7a46ed9e) (hts _ m_9c375545) hB hR hS hA (fun vv h31 H locs hq hEh31 hR hS => ?_) (fun XX ax h31 H locs hq hEh31 hex hR hS => ?_)
          · obtain ⟨r32, rfl, hw⟩ := hq
            have hw := hw hEh31
            have hE := hE.tr hEh31
            refine W.eq (g2 := F0 m 109 ls [.long r32, .ref x0]) rfl ?_
            have hk1 : xb_k h31 x0 = 8 := hEh31.k hk1
            refine xb_call (D := D) (A := A) (σ := σ) (h := h31) (d := 2) (mc := 0) (ms := 0) (maxL := 3) (rest := []) (av := [.ref x0, .long r32]) (fun T hT X => by obtain ⟨cb, r1, r2, r3⟩ := xb_recv (ci := 7) hR rfl hk1 (by decide); exact xt_invV X hx hown (hts _ m_b93b25cc) (hts _ m_5256b489) (hts _ m_b846adde) (xt_sigOf (hts _ m_ea231fcd)) nm_Machine_putValue (by rw [hT]; exact r1) r2 r3 (g := F0 m 109 ls [.long r32, .ref x0]) rfl (argsL := [.long r32]) (rest := []) rfl rfl (by rw [hb]; exact (xb_d D_Machine_step 57 rfl))) (ok_Machine_putValue l hfl D A σ x0 r32 h31 _ hw) (hml.trans hl.1.symm) (by rw [hb]; exact (xb_d D_Machine_step 57 rfl)) (Nat.le_of_ble_eq_true rfl) (Nat.le_of_ble_eq_true rfl) (Nat.le_of_ble_eq_true rfl) (show k + 0 ≤ MC by omega) (show n + 0 ≤ MS by omega) (xt_w1 hB.1 m_ea231fcd) (xt_cdOf hB.1 m_ea231fcd) (hts _ m_73451f9b) hB hR hS hA (fun vv h33 H locs hq hEh33 hR hS => ?_) (fun XX ax h33 H locs hq hEh33 hex hR hS => ?_)
            · obtain ⟨rfl, hw⟩ := hq
              have hw := hw hEh33
              have hE := hE.tr hEh33
              refine W.eq (g2 := F0 m 112 ls []) rfl ?_
              refine lv_aload_n hx hb (xb_d D_Machine_step 58 rfl) rfl (lv_at hl 1 rfl) ?_
              refine lv_aload_n hx hb (xb_d D_Machine_step 59 rfl) rfl (lv_at hl 1 rfl) ?_
              have hk1 : xb_k h33 x0 = 8 := hEh33.k hk1
              refine xb_getP (C := R_Machine) (T := F_Machine) (N := 18) hx hb 7 14 hts fin_Machine hown hR hk1 (by decide) rfl (by decide) rfl (hts _ m_8f763f86) (fun _ h9 => h9) (xb_d D_Machine_step 60 rfl) ?_
              obtain ⟨b35, eb35, hw⟩ := hw
              refine xb_some eb35 ?_
              refine lv_aload_n hx hb (xb_d D_Machine_step 61 rfl) rfl (lv_at hl 1 rfl) ?_
              refine xb_getI (C := R_Machine) (T := F_Machine) (N := 18) hx hb 7 15 hts fin_Machine hown hR hk1 (by decide) rfl (by decide) rfl (hts _ m_6a595805) (fun _ h9 => h9) (xb_d D_Machine_step 62 rfl) ?_
              obtain ⟨hk37, hw⟩ := hw
              obtain ⟨hi36, hw⟩ := hw
              refine xb_iald hx hb hR hk37 hi36 (xb_d D_Machine_step 63 rfl) ?_
              refine xb_putI (C := R_Machine) (T := F_Machine) (N := 18) (ty := .int) (x := (xb_i h33 b35 (Int32.toNatClampNeg (xb_i h33 x0 15)))) hx hb 7 15 hts fin_Machine t_Machine t_Machine_ok n_Machine hown hR hS hk1 (by decide) rfl (by decide) rfl (hts _ m_6a595805) (fun _ h9 => h9) rfl (by decide +kernel) rfl rfl (xb_d D_Machine_step 64 rfl) (fun H locs hR hS => ?_)
              obtain ⟨h38, eh38⟩ : ∃ x : xb_H, x = xb_I h33 x0 15 (xb_i h33 b35 (Int32.toNatClampNeg (xb_i h33 x0 15))) := ⟨_, rfl⟩
              rw [← eh38] at hR
              have hw := hw h38 eh38
              have hE : xb_ext h0 h38 := by rw [eh38]; exact hE
              refine lv_goto (tgt := 188) hx hb (xb_d D_Machine_step 65 rfl) rfl ?_
              exact am_Machine_step_L188 l hfl D A σ MC MS h0 Qr h38 bc bs hw p e s m args below meth c hC H locs ls k n hE (lv_sub hl [] rfl) hR hS (by omega) (by omega)
            · exact False.elim hq
          · exact False.elim hq
      · have hw := hw.2 hc8
        refine lv_aload_n hx hb (xb_d D_Machine_step 37 rfl) rfl (lv_at hl 1 rfl) ?_
        refine lv_iload_n hx hb (xb_d D_Machine_step 38 rfl) rfl (lv_at hl 0 rfl) ?_
        refine xb_call (D := D) (A := A) (σ := σ) (h := h) (d := 6) (mc := 0) (ms := 0) (maxL := 2) (rest := []) (av := [.ref x0, .int v5]) (fun T hT X => by obtain ⟨cb, r1, r2, r3⟩ := xb_recv (ci := 7) hR rfl hk1 (by decide); exact xt_invV X hx hown (hts _ m_5cd21231) (hts _ m_3c9378a4) (hts _ m_49400823) (xt_sigOf (hts _ m_eea792a8)) nm_Machine_reckonWhole (by rw [hT]; exact r1) r2 r3 (g := F0 m 72 ls [.int v5, .ref x0]) rfl (argsL := [.int v5]) (rest := []) rfl rfl (by rw [hb]; exact (xb_d D_Machine_step 39 rfl))) (ok_Machine_reckonWhole l hfl D A σ x0 v5 h _ hw) (hml.trans hl.1.symm) (by rw [hb]; exact (xb_d D_Machine_step 39 rfl)) (Nat.le_of_ble_eq_true rfl) (Nat.le_of_ble_eq_true rfl) (Nat.le_of_ble_eq_true rfl) (show k + 0 ≤ MC by omega) (show n + 0 ≤ MS by omega) (xt_w1 hB.1 m_eea792a8) (xt_cdOf hB.1 m_eea792a8) (hts _ m_73451f9b) hB hR hS hA (fun vv h39 H locs hq hEh39 hR hS => ?_) (fun XX ax h39 H locs hq hEh39 hex hR hS => ?_)
        · obtain ⟨rfl, hw⟩ := hq
          have hw := hw hEh39
          have hE := hE.tr hEh39
          refine W.eq (g2 := F0 m 75 ls []) rfl ?_
          refine lv_aload_n hx hb (xb_d D_Machine_step 40 rfl) rfl (lv_at hl 1 rfl) ?_
          refine lv_dup hx hb (xb_d D_Machine_step 41 rfl) rfl ?_
          have hk1 : xb_k h39 x0 = 8 := hEh39.k hk1
          refine xb_getI (C := R_Machine) (T := F_Machine) (N := 18) hx hb 7 15 hts fin_Machine hown hR hk1 (by decide) rfl (by decide) rfl (hts _ m_6a595805) (fun _ h9 => h9) (xb_d D_Machine_step 42 rfl) ?_
          refine lv_iconst (v := 1) hx hb (xb_d D_Machine_step 43 rfl) (by decide) ?_
          refine lv_iadd hx hb (xb_d D_Machine_step 44 rfl) ?_
          refine xb_putI (C := R_Machine) (T := F_Machine) (N := 18) (ty := .int) (x := ((xb_i h39 x0 15) + 1)) hx hb 7 15 hts fin_Machine t_Machine t_Machine_ok n_Machine hown hR hS hk1 (by decide) rfl (by decide) rfl (hts _ m_6a595805) (fun _ h9 => h9) rfl (by decide +kernel) rfl rfl (xb_d D_Machine_step 45 rfl) (fun H locs hR hS => ?_)
          obtain ⟨h41, eh41⟩ : ∃ x : xb_H, x = xb_I h39 x0 15 ((xb_i h39 x0 15) + 1) := ⟨_, rfl⟩
          rw [← eh41] at hR
          have hw := hw h41 eh41
          have hE : xb_ext h0 h41 := by rw [eh41]; exact hE
          refine lv_goto (tgt := 188) hx hb (xb_d D_Machine_step 46 rfl) rfl ?_
          exact am_Machine_step_L188 l hfl D A σ MC MS h0 Qr h41 bc bs hw p e s m args below meth c hC H locs ls k n hE (lv_sub hl [] rfl) hR hS (by omega) (by omega)
        · exact False.elim hq
    · have hw := hw.2 hc7
      refine lv_aload_n hx hb (xb_d D_Machine_step 24 rfl) rfl (lv_at hl 1 rfl) ?_
      refine lv_iload_n hx hb (xb_d D_Machine_step 25 rfl) rfl (lv_at hl 0 rfl) ?_
      refine xb_call (D := D) (A := A) (σ := σ) (h := h) (d := 6) (mc := 0) (ms := 0) (maxL := 5) (rest := []) (av := [.ref x0, .int v5]) (fun T hT X => by obtain ⟨cb, r1, r2, r3⟩ := xb_recv (ci := 7) hR rfl hk1 (by decide); exact xt_invV X hx hown (hts _ m_20fd797c) (hts _ m_2faf23ec) (hts _ m_542fcffc) (xt_sigOf (hts _ m_76f0ef1a)) nm_Machine_reckonFloating (by rw [hT]; exact r1) r2 r3 (g := F0 m 48 ls [.int v5, .ref x0]) rfl (argsL := [.int v5]) (rest := []) rfl rfl (by rw [hb]; exact (xb_d D_Machine_step 26 rfl))) (ok_Machine_reckonFloating l hfl D A σ x0 v5 h _ hw) (hml.trans hl.1.symm) (by rw [hb]; exact (xb_d D_Machine_step 26 rfl)) (Nat.le_of_ble_eq_true rfl) (Nat.le_of_ble_eq_true rfl) (Nat.le_of_ble_eq_true rfl) (show k + 0 ≤ MC by omega) (show n + 0 ≤ MS by omega) (xt_w1 hB.1 m_76f0ef1a) (xt_cdOf hB.1 m_76f0ef1a) (hts _ m_73451f9b) hB hR hS hA (fun vv h42 H locs hq hEh42 hR hS => ?_) (fun XX ax h42 H locs hq hEh42 hex hR hS => ?_)
      · obtain ⟨rfl, hw⟩ := hq
        have hw := hw hEh42
        have hE := hE.tr hEh42
        refine W.eq (g2 := F0 m 51 ls []) rfl ?_
        refine lv_aload_n hx hb (xb_d D_Machine_step 27 rfl) rfl (lv_at hl 1 rfl) ?_
        refine lv_dup hx hb (xb_d D_Machine_step 28 rfl) rfl ?_
        have hk1 : xb_k h42 x0 = 8 := hEh42.k hk1
        refine xb_getI (C := R_Machine) (T := F_Machine) (N := 18) hx hb 7 15 hts fin_Machine hown hR hk1 (by decide) rfl (by decide) rfl (hts _ m_6a595805) (fun _ h9 => h9) (xb_d D_Machine_step 29 rfl) ?_
        refine lv_iconst (v := 1) hx hb (xb_d D_Machine_step 30 rfl) (by decide) ?_
        refine lv_iadd hx hb (xb_d D_Machine_step 31 rfl) ?_
        refine xb_putI (C := R_Machine) (T := F_Machine) (N := 18) (ty := .int) (x := ((xb_i h42 x0 15) + 1)) hx hb 7 15 hts fin_Machine t_Machine t_Machine_ok n_Machine hown hR hS hk1 (by decide) rfl (by decide) rfl (hts _ m_6a595805) (fun _ h9 => h9) rfl (by decide +kernel) rfl rfl (xb_d D_Machine_step 32 rfl) (fun H locs hR hS => ?_)
        obtain ⟨h44, eh44⟩ : ∃ x : xb_H, x = xb_I h42 x0 15 ((xb_i h42 x0 15) + 1) := ⟨_, rfl⟩
        rw [← eh44] at hR
        have hw := hw h44 eh44
        have hE : xb_ext h0 h44 := by rw [eh44]; exact hE
        refine lv_goto (tgt := 188) hx hb (xb_d D_Machine_step 33 rfl) rfl ?_
        exact am_Machine_step_L188 l hfl D A σ MC MS h0 Qr h44 bc bs hw p e s m args below meth c hC H locs ls k n hE (lv_sub hl [] rfl) hR hS (by omega) (by omega)
      · exact False.elim hq
  · have hw := hw.2 hc6
    refine lv_aload_n hx hb (xb_d D_Machine_step 11 rfl) rfl (lv_at hl 1 rfl) ?_
    refine lv_iload_n hx hb (xb_d D_Machine_step 12 rfl) rfl (lv_at hl 0 rfl) ?_
    refine xb_call (D := D) (A := A) (σ := σ) (h := h) (d := 6) (mc := 0) (ms := 0) (maxL := 4) (rest := []) (av := [.ref x0, .int v5]) (fun T hT X => by obtain ⟨cb, r1, r2, r3⟩ := xb_recv (ci := 7) hR rfl hk1 (by decide); exact xt_invV X hx hown (hts _ m_4f9a0675) (hts _ m_5dd650a3) (hts _ m_effb3973) (xt_sigOf (hts _ m_7902188e)) nm_Machine_convert (by rw [hT]; exact r1) r2 r3 (g := F0 m 23 ls [.int v5, .ref x0]) rfl (argsL := [.int v5]) (rest := []) rfl rfl (by rw [hb]; exact (xb_d D_Machine_step 13 rfl))) (ok_Machine_convert l hfl D A σ x0 v5 h _ hw) (hml.trans hl.1.symm) (by rw [hb]; exact (xb_d D_Machine_step 13 rfl)) (Nat.le_of_ble_eq_true rfl) (Nat.le_of_ble_eq_true rfl) (Nat.le_of_ble_eq_true rfl) (show k + 0 ≤ MC by omega) (show n + 0 ≤ MS by omega) (xt_w1 hB.1 m_7902188e) (xt_cdOf hB.1 m_7902188e) (hts _ m_73451f9b) hB hR hS hA (fun vv h45 H locs hq hEh45 hR hS => ?_) (fun XX ax h45 H locs hq hEh45 hex hR hS => ?_)
    · obtain ⟨rfl, hw⟩ := hq
      have hw := hw hEh45
      have hE := hE.tr hEh45
      refine W.eq (g2 := F0 m 26 ls []) rfl ?_
      refine lv_aload_n hx hb (xb_d D_Machine_step 14 rfl) rfl (lv_at hl 1 rfl) ?_
      refine lv_dup hx hb (xb_d D_Machine_step 15 rfl) rfl ?_
      have hk1 : xb_k h45 x0 = 8 := hEh45.k hk1
      refine xb_getI (C := R_Machine) (T := F_Machine) (N := 18) hx hb 7 15 hts fin_Machine hown hR hk1 (by decide) rfl (by decide) rfl (hts _ m_6a595805) (fun _ h9 => h9) (xb_d D_Machine_step 16 rfl) ?_
      refine lv_iconst (v := 1) hx hb (xb_d D_Machine_step 17 rfl) (by decide) ?_
      refine lv_iadd hx hb (xb_d D_Machine_step 18 rfl) ?_
      refine xb_putI (C := R_Machine) (T := F_Machine) (N := 18) (ty := .int) (x := ((xb_i h45 x0 15) + 1)) hx hb 7 15 hts fin_Machine t_Machine t_Machine_ok n_Machine hown hR hS hk1 (by decide) rfl (by decide) rfl (hts _ m_6a595805) (fun _ h9 => h9) rfl (by decide +kernel) rfl rfl (xb_d D_Machine_step 19 rfl) (fun H locs hR hS => ?_)
      obtain ⟨h47, eh47⟩ : ∃ x : xb_H, x = xb_I h45 x0 15 ((xb_i h45 x0 15) + 1) := ⟨_, rfl⟩
      rw [← eh47] at hR
      have hw := hw h47 eh47
      have hE : xb_ext h0 h47 := by rw [eh47]; exact hE
      refine lv_goto (tgt := 188) hx hb (xb_d D_Machine_step 20 rfl) rfl ?_
      exact am_Machine_step_L188 l hfl D A σ MC MS h0 Qr h47 bc bs hw p e s m args below meth c hC H locs ls k n hE (lv_sub hl [] rfl) hR hS (by omega) (by omega)
    · exact False.elim hq

theorem m_1965b4f5 : (.methodLink "StackHost$Reader" 50 y_Reader_readSection : Cond) ∈ xt_tbl := xt_in (xt_t3 (List.mem_of_getElem? (i := 183) (by decide +kernel))) (by decide +kernel)
theorem m_e5b1c144 : (.instanceMethod y_Reader_readSection : Cond) ∈ xt_tbl := xt_in (xt_t3 (List.mem_of_getElem? (i := 185) (by decide +kernel))) (by decide +kernel)
theorem m_16cf4588 : (.selects "StackHost$Reader" y_Reader_readSection y_Reader_readSection : Cond) ∈ xt_tbl := xt_in (xt_v1 (q := (⟨"StackHost$Reader", "readSection", "(I)V"⟩, 6)) (List.mem_of_getElem? (i := 3) (by decide +kernel))) (by decide +kernel)
theorem m_83834fa3 : (.code y_Reader_readSection b_Reader_readSection 7 none : Cond) ∈ xt_tbl := xt_in (xt_t3 (List.mem_of_getElem? (i := 186) (by decide +kernel))) (by decide +kernel)
theorem m_965ac87e : (.fieldLinkNest "StackHost$Reader" 34 "StackHost" "MAGIC" "[B" "StackHost" : Cond) ∈ xt_tbl := xt_in (xt_t3 (List.mem_of_getElem? (i := 171) (by decide +kernel))) (by decide +kernel)
theorem m_dfe7ea21 : (.fieldLink "StackHost$Reader" 19 "StackHost$StackModule" "code" "[B" : Cond) ∈ xt_tbl := xt_in (xt_t3 (List.mem_of_getElem? (i := 48) (by decide +kernel))) (by decide +kernel)
theorem m_b7d0b101 : (.fieldLink "StackHost$Reader" 26 "StackHost$StackModule" "notes" "[I" : Cond) ∈ xt_tbl := xt_in (xt_t3 (List.mem_of_getElem? (i := 53) (by decide +kernel))) (by decide +kernel)
theorem nm_Reader_readSection : xt_nm y_Reader_readSection 1 := ⟨by decide +kernel, by decide +kernel⟩
set_option maxRecDepth 100000 in
def T_Reader_readAll : List (Nat × Instr × Nat) := [(0, .aload_n 0, 1), (1, .aload_n 1, 1), (2, .putfield 15, 3), (5, .aload_n 0, 1), (6, .aload_n 1, 1), (7, .getfield 19, 3), (10, .putfield 25, 3), (13, .aload_n 0, 1), (14, .aload_n 1, 1), (15, .getfield 26, 3), (18, .putfield 29, 3), (21, .aload_n 0, 1), (22, .aload_n 0, 1), (23, .getfield 25, 3), (26, .arraylength, 1), (27, .putfield 30, 3), (30, .iconst 0, 1), (31, .istore_n 2, 1), (32, .iload_n 2, 1), (33, .getstatic 34, 3), (36, .arraylength, 1), (37, .if_icmp .ge 41, 3), (40, .iload_n 2, 1), (41, .aload_n 0, 1), (42, .getfield 25, 3), (45, .arraylength, 1), (46, .if_icmp .ge 17, 3), (49, .aload_n 0, 1), (50, .getfield 25, 3), (53, .iload_n 2, 1), (54, .baload, 1), (55, .getstatic 34, 3), (58, .iload_n 2, 1), (59, .baload, 1), (60, .if_icmp .eq 12, 3), (63, .aload_n 0, 1), (64, .getfield 15, 3), (67, .iconst 1, 1), (68, .iload_n 2, 1), (69, .invokevirtual 37, 3), (72, .iinc 2 1, 3), (75, .goto (-43), 3), (78, .aload_n 0, 1), (79, .getstatic 34, 3), (82, .arraylength, 1), (83, .putfield 41, 3), (86, .iconst 0, 1), (87, .istore_n 2, 1), (88, .iconst 0, 1), (89, .istore_n 3, 1), (90, .iload_n 3, 1), (91, .aload_n 0, 1), (92, .getfield 25, 3), (95, .arraylength, 1), (96, .if_icmp .ge 102, 3), (99, .aload_n 0, 1), (100, .getfield 41, 3), (103, .aload_n 0, 1), (104, .getfield 25, 3), (107, .arraylength, 1), (108, .if_icmp .ge 90, 3), (111, .aload_n 0, 1), (112, .getfield 25, 3), (115, .aload_n 0, 1), (116, .getfield 41, 3), (119, .baload, 1), (120, .sipush 255, 3), (123, .iand, 1), (124, .istore 4, 2), (126, .iload 4, 2), (128, .bipush 11, 2), (130, .if_icmp .le 15, 3), (133, .aload_n 0, 1), (134, .getfield 15, 3), (137, .iconst 5, 1), (138, .aload_n 0, 1), (139, .getfield 41, 3), (142, .invokevirtual 37, 3), (145, .iload 4, 2), (147, .ifCond .eq 22, 3), (150, .iload 4, 2), (152, .iload_n 2, 1), (153, .if_icmp .gt 16, 3), (156, .aload_n 0, 1), (157, .getfield 15, 3), (160, .bipush 6, 2), (162, .aload_n 0, 1), (163, .getfield 41, 3), (166, .invokevirtual 37, 3), (169, .iload_n 2, 1), (170, .iload 4, 2), (172, .invokestatic 44, 3), (175, .istore_n 2, 1), (176, .aload_n 0, 1), (177, .dup, 1), (178, .getfield 41, 3), (181, .iconst 1, 1), (182, .iadd, 1), (183, .putfield 41, 3), (186, .aload_n 0, 1), (187, .iload 4, 2), (189, .invokevirtual 50, 3), (192, .iinc 3 1, 3), (195, .goto (-105), 3), (198, .aload_n 0, 1), (199, .getfield 15, 3), (202, .getfield 54, 3), (205, .invokevirtual 58, 3), (208, .aload_n 0, 1), (209, .getfield 15, 3), (212, .getfield 64, 3), (215, .invokevirtual 58, 3), (218, .aload_n 0, 1), (219, .getfield 15, 3), (222, .getfield 67, 3), (225, .iconst 0, 1), (226, .iaload, 1), (227, .isub, 1), (228, .if_icmp .eq 17, 3), (231, .aload_n 0, 1), (232, .getfield 15, 3), (235, .bipush 8, 2), (237, .aload_n 0, 1), (238, .getfield 25, 3), (241, .arraylength, 1), (242, .invokevirtual 37, 3), (245, .return_, 1)]
theorem D_Reader_readAll : ∀ q ∈ T_Reader_readAll, decode b_Reader_readAll q.1 = .ok (q.2.1, q.2.2) := by decide +kernel
def w_Reader_readAll_L245 (Qr : xb_H → Prop) (Qt : String → xb_H → Prop) (h : xb_H) (bc : Nat) (bs : Nat) : Prop :=
    Qr h

def w_Reader_readAll_L198 (Qr : xb_H → Prop) (Qt : String → xb_H → Prop) (x0 : Nat) (h : xb_H) (bc : Nat) (bs : Nat) : Prop :=
    xb_k h x0 = 4 ∧ ∃ b2 : Nat, (xb_r h x0 0) = some b2 ∧ xb_k h b2 = 3 ∧ ∃ b4 : Nat, (xb_r h b2 11) = some b4 ∧ xb_k h b4 = 2 ∧ w_Row_lines b4 h (fun (r7 : Int32) (h6 : xb_H) => xb_ext h h6 → ∃ b8 : Nat, (xb_r h6 x0 0) = some b8 ∧ xb_k h6 b8 = 3 ∧ ∃ b10 : Nat, (xb_r h6 b8 4) = some b10 ∧ xb_k h6 b10 = 2 ∧ w_Row_lines b10 h6 (fun (r13 : Int32) (h12 : xb_H) => xb_ext h6 h12 → ∃ b14 : Nat, (xb_r h12 x0 0) = some b14 ∧ xb_k h12 b14 = 3 ∧ ∃ b16 : Nat, (xb_r h12 b14 14) = some b16 ∧ xb_k h12 b16 = 102 ∧ vp_in 0 (xb_n h12 b16) ∧ ((r7 = (r13 - (xb_i h12 b16 0)) → w_Reader_readAll_L245 Qr Qt h12 bc bs) ∧ (¬ r7 = (r13 - (xb_i h12 b16 0)) → ∃ b20 : Nat, (xb_r h12 x0 0) = some b20 ∧ ∃ b21 : Nat, (xb_r h12 x0 1) = some b21 ∧ xb_k h12 b21 = 100 ∧ xb_k h12 b20 = 3 ∧ ∃ c26 sc26 : Nat, c26 ≤ bc ∧ sc26 ≤ bs ∧ w_StackModule_fail b20 8 (nI (xb_n h12 b21)) h12 c26 sc26 (fun (h24 : xb_H) => xb_ext h12 h24 → w_Reader_readAll_L245 Qr Qt h24 (bc - c26) (bs - sc26)) Qt))))

def w_Reader_readAll_L169 (K90 : Nat → Int32 → Int32 → xb_H → Nat → Nat → Prop) (Qr : xb_H → Prop) (Qt : String → xb_H → Prop) (x0 : Nat) (x2 : Int32) (x3 : Int32) (x4 : Int32) (h : xb_H) (bc : Nat) (bs : Nat) : Prop :=
    ∀ v1 : Int32, v1 = (if x2 < x4 then x4 else x2) → xb_k h x0 = 4 ∧ ∀ h3 : xb_H, h3 = xb_I h x0 3 ((xb_i h x0 3) + 1) → ∃ c6 sc6 : Nat, c6 ≤ bc ∧ sc6 ≤ bs ∧ w_Reader_readSection x0 x4 h3 c6 sc6 (fun (h4 : xb_H) => xb_ext h3 h4 → K90 x0 v1 (x3 + 1) h4 (bc - c6) (bs - sc6)) Qt

def w_Reader_readAll_L145 (K90 : Nat → Int32 → Int32 → xb_H → Nat → Nat → Prop) (Qr : xb_H → Prop) (Qt : String → xb_H → Prop) (x0 : Nat) (x2 : Int32) (x3 : Int32) (x4 : Int32) (h : xb_H) (bc : Nat) (bs : Nat) : Prop :=
    ((x4 = (0 : Int32) → w_Reader_readAll_L169 K90 Qr Qt x0 x2 x3 x4 h bc bs) ∧ (¬ x4 = (0 : Int32) → ((x2 < x4 → w_Reader_readAll_L169 K90 Qr Qt x0 x2 x3 x4 h bc bs) ∧ (¬ x2 < x4 → xb_k h x0 = 4 ∧ ∃ b4 : Nat, (xb_r h x0 0) = some b4 ∧ xb_k h b4 = 3 ∧ ∃ c8 sc8 : Nat, c8 ≤ bc ∧ sc8 ≤ bs ∧ w_StackModule_fail b4 6 (xb_i h x0 3) h c8 sc8 (fun (h6 : xb_H) => xb_ext h h6 → w_Reader_readAll_L169 K90 Qr Qt x0 x2 x3 x4 h6 (bc - c8) (bs - sc8)) Qt))))

def w_Reader_readAll_L90 (Qr : xb_H → Prop) (Qt : String → xb_H → Prop) : Nat → Nat → Int32 → Int32 → xb_H → Nat → Nat → Prop
  | 0, _, _, _, _, _, _ => False
  | n9 + 1, x0, x2, x3, h, bc, bs =>
    xb_k h x0 = 4 ∧ ∃ b2 : Nat, (xb_r h x0 1) = some b2 ∧ xb_k h b2 = 100 ∧ (((nI (xb_n h b2)) ≤ x3 → w_Reader_readAll_L198 Qr Qt x0 h bc bs) ∧ (¬ (nI (xb_n h b2)) ≤ x3 → ∃ b5 : Nat, (xb_r h x0 1) = some b5 ∧ xb_k h b5 = 100 ∧ (((nI (xb_n h b5)) ≤ (xb_i h x0 3) → w_Reader_readAll_L198 Qr Qt x0 h bc bs) ∧ (¬ (nI (xb_n h b5)) ≤ (xb_i h x0 3) → ∃ b8 : Nat, (xb_r h x0 1) = some b8 ∧ xb_k h b8 = 100 ∧ vp_in (xb_i h x0 3) (xb_n h b8) ∧ ∀ v11 : Int32, v11 = ((xb_i h b8 (Int32.toNatClampNeg (xb_i h x0 3))) &&& 255) → ((v11 ≤ (11 : Int32) → w_Reader_readAll_L145 (w_Reader_readAll_L90 Qr Qt n9) Qr Qt x0 x2 x3 v11 h bc bs) ∧ (¬ v11 ≤ (11 : Int32) → ∃ b13 : Nat, (xb_r h x0 0) = some b13 ∧ xb_k h b13 = 3 ∧ ∃ c17 sc17 : Nat, c17 ≤ bc ∧ sc17 ≤ bs ∧ w_StackModule_fail b13 5 (xb_i h x0 3) h c17 sc17 (fun (h15 : xb_H) => xb_ext h h15 → w_Reader_readAll_L145 (w_Reader_readAll_L90 Qr Qt n9) Qr Qt x0 x2 x3 v11 h15 (bc - c17) (bs - sc17)) Qt))))))

def w_Reader_readAll_L72 (K32 : Nat → Int32 → xb_H → Nat → Nat → Prop) (Qr : xb_H → Prop) (Qt : String → xb_H → Prop) (x0 : Nat) (x2 : Int32) (h : xb_H) (bc : Nat) (bs : Nat) : Prop :=
    K32 x0 (x2 + 1) h bc bs

def w_Reader_readAll_L63 (K32 : Nat → Int32 → xb_H → Nat → Nat → Prop) (Qr : xb_H → Prop) (Qt : String → xb_H → Prop) (x0 : Nat) (x2 : Int32) (h : xb_H) (bc : Nat) (bs : Nat) : Prop :=
    xb_k h x0 = 4 ∧ ∃ b2 : Nat, (xb_r h x0 0) = some b2 ∧ xb_k h b2 = 3 ∧ ∃ c6 sc6 : Nat, c6 ≤ bc ∧ sc6 ≤ bs ∧ w_StackModule_fail b2 1 x2 h c6 sc6 (fun (h4 : xb_H) => xb_ext h h4 → w_Reader_readAll_L72 K32 Qr Qt x0 x2 h4 (bc - c6) (bs - sc6)) Qt

def w_Reader_readAll_L32 (Qr : xb_H → Prop) (Qt : String → xb_H → Prop) : Nat → Nat → Int32 → xb_H → Nat → Nat → Prop
  | 0, _, _, _, _, _ => False
  | n9 + 1, x0, x2, h, bc, bs =>
    (((8 : Int32) ≤ x2 → xb_k h x0 = 4 ∧ ∀ h5 : xb_H, h5 = xb_I h x0 3 8 → (∃ n8 : Nat, w_Reader_readAll_L90 Qr Qt n8 x0 0 0 h5 bc bs)) ∧ (¬ (8 : Int32) ≤ x2 → xb_k h x0 = 4 ∧ ∃ b7 : Nat, (xb_r h x0 1) = some b7 ∧ xb_k h b7 = 100 ∧ (((nI (xb_n h b7)) ≤ x2 → w_Reader_readAll_L63 (w_Reader_readAll_L32 Qr Qt n9) Qr Qt x0 x2 h bc bs) ∧ (¬ (nI (xb_n h b7)) ≤ x2 → ∃ b10 : Nat, (xb_r h x0 1) = some b10 ∧ xb_k h b10 = 100 ∧ vp_in x2 (xb_n h b10) ∧ vp_in x2 8 ∧ (((xb_i h b10 (Int32.toNatClampNeg x2)) = (xt_mg (Int32.toNatClampNeg x2)) → w_Reader_readAll_L72 (w_Reader_readAll_L32 Qr Qt n9) Qr Qt x0 x2 h bc bs) ∧ (¬ (xb_i h b10 (Int32.toNatClampNeg x2)) = (xt_mg (Int32.toNatClampNeg x2)) → w_Reader_readAll_L63 (w_Reader_readAll_L32 Qr Qt n9) Qr Qt x0 x2 h bc bs))))))

def w_Reader_readAll (x0 : Nat) (x1 : Nat) (h : xb_H) (bc : Nat) (bs : Nat) (Qr : xb_H → Prop) (Qt : String → xb_H → Prop) : Prop :=
    xb_k h x0 = 4 ∧ ∀ h2 : xb_H, h2 = xb_P h x0 0 (some x1) → xb_k h2 x1 = 3 ∧ ∃ b4 : Nat, (xb_r h2 x1 0) = some b4 ∧ ∀ h5 : xb_H, h5 = xb_P h2 x0 1 (some b4) → ∃ b6 : Nat, (xb_r h5 x1 1) = some b6 ∧ ∀ h7 : xb_H, h7 = xb_P h5 x0 2 (some b6) → ∃ b8 : Nat, (xb_r h7 x0 1) = some b8 ∧ xb_k h7 b8 = 100 ∧ ∀ h10 : xb_H, h10 = xb_I h7 x0 4 (nI (xb_n h7 b8)) → (∃ n8 : Nat, w_Reader_readAll_L32 Qr Qt n8 x0 0 h10 bc bs)

set_option maxHeartbeats 4000000 in
set_option maxRecDepth 100000 in
theorem am_Reader_readAll_L245 (l : Launch) (hfl : l.flags = pinnedFlags ++ [noTraceFlag]) (D : va_G) (A : Nat → Prop) (σ MC MS : Nat) (h0 : xb_H) (Qr : xb_H → Prop) (Qt : String → xb_H → Prop) (h : xb_H) (bc : Nat) (bs : Nat) (hw : w_Reader_readAll_L245 Qr Qt h bc bs) : xb_am l D A σ 8 MC MS h0 (fun v h => v = none ∧ Qr h) Qt y_Reader_readAll.cls y_Reader_readAll.name b_Reader_readAll 5 ([] : List ExceptionTableEntry) none 245 [] [] h bc bs := by
  unfold w_Reader_readAll_L245 at hw
  intro p e s m args below meth c hC H locs ls k n hE hl hR hS hk hn
  obtain ⟨hx, hb, hown, hlocks, htab, hml, hr, hB, hA, hnm⟩ := id hC
  have hts := hB.1.1.at args
  exact xb_vret hx hb hr hlocks (show k ≤ MC by omega) (show n ≤ MS by omega) hE hR hS (xb_d D_Reader_readAll 126 rfl) hw

set_option maxHeartbeats 4000000 in
set_option maxRecDepth 100000 in
theorem am_Reader_readAll_L198 (l : Launch) (hfl : l.flags = pinnedFlags ++ [noTraceFlag]) (D : va_G) (A : Nat → Prop) (σ MC MS : Nat) (h0 : xb_H) (Qr : xb_H → Prop) (Qt : String → xb_H → Prop) (x0 : Nat) (h : xb_H) (bc : Nat) (bs : Nat) (hw : w_Reader_readAll_L198 Qr Qt x0 h bc bs) : xb_am l D A σ 8 MC MS h0 (fun v h => v = none ∧ Qr h) Qt y_Reader_readAll.cls y_Reader_readAll.name b_Reader_readAll 5 ([] : List ExceptionTableEntry) none 198 [(0, .ref x0)] [] h bc bs := by
  unfold w_Reader_readAll_L198 at hw
  intro p e s m args below meth c hC H locs ls k n hE hl hR hS hk hn
  obtain ⟨hx, hb, hown, hlocks, htab, hml, hr, hB, hA, hnm⟩ := id hC
  have hts := hB.1.1.at args
  refine lv_aload_n hx hb (xb_d D_Reader_readAll 104 rfl) rfl (lv_at hl 0 rfl) ?_
  obtain ⟨hk1, hw⟩ := hw
  refine xb_getP (C := R_Reader) (T := F_Reader) (N := 6) hx hb 3 0 hts fin_Reader hown hR hk1 (by decide) rfl (by decide) rfl (hts _ m_76d8349c) (fun _ h9 => h9) (xb_d D_Reader_readAll 105 rfl) ?_
  obtain ⟨b2, eb2, hw⟩ := hw
  refine xb_some eb2 ?_
  obtain ⟨hk3, hw⟩ := hw
  refine xb_getP (C := R_StackModule) (T := F_StackModule) (N := 19) hx hb 2 11 hts fin_StackModule hown hR hk3 (by decide) rfl (by decide) rfl (hts _ m_4dbee54b) (fun _ h9 => h9) (xb_d D_Reader_readAll 106 rfl) ?_
  obtain ⟨b4, eb4, hw⟩ := hw
  refine xb_some eb4 ?_
  obtain ⟨hk5, hw⟩ := hw
  refine xb_call (D := D) (A := A) (σ := σ) (h := h) (d := 2) (mc := 0) (ms := 0) (maxL := 1) (rest := []) (av := [.ref b4]) (fun T hT X => by obtain ⟨cb, r1, r2, r3⟩ := xb_recv (ci := 1) hR rfl hk5 (by decide); exact xt_invV X hx hown (hts _ m_d5d63d05) (hts _ m_ded65609) (hts _ m_a4161156) (xt_sigOf (hts _ m_83ba3721)) nm_Row_lines (by rw [hT]; exact r1) r2 r3 (g := F0 m 205 ls [.ref b4]) rfl (argsL := []) (rest := []) rfl rfl (by rw [hb]; exact (xb_d D_Reader_readAll 107 rfl))) (ok_Row_lines l hfl D A σ b4 h _ hw) (hml.trans hl.1.symm) (by rw [hb]; exact (xb_d D_Reader_readAll 107 rfl)) (Nat.le_of_ble_eq_true rfl) (Nat.le_of_ble_eq_true rfl) (Nat.le_of_ble_eq_true rfl) (show k + 0 ≤ MC by omega) (show n + 0 ≤ MS by omega) (xt_w1 hB.1 m_83ba3721) (xt_cdOf hB.1 m_83ba3721) (hts _ m_c1bef504) hB hR hS hA (fun vv h6 H locs hq hEh6 hR hS => ?_) (fun XX ax h6 H locs hq hEh6 hex hR hS => ?_)
  · obtain ⟨r7, rfl, hw⟩ := hq
    have hw := hw hEh6
    have hE := hE.tr hEh6
    refine W.eq (g2 := F0 m 208 ls [.int r7]) rfl ?_
    refine lv_aload_n hx hb (xb_d D_Reader_readAll 108 rfl) rfl (lv_at hl 0 rfl) ?_
    have hk1 : xb_k h6 x0 = 4 := hEh6.k hk1
    refine xb_getP (C := R_Reader) (T := F_Reader) (N := 6) hx hb 3 0 hts fin_Reader hown hR hk1 (by decide) rfl (by decide) rfl (hts _ m_76d8349c) (fun _ h9 => h9) (xb_d D_Reader_readAll 109 rfl) ?_
    obtain ⟨b8, eb8, hw⟩ := hw
    refine xb_some eb8 ?_
    obtain ⟨hk9, hw⟩ := hw
    refine xb_getP (C := R_StackModule) (T := F_StackModule) (N := 19) hx hb 2 4 hts fin_StackModule hown hR hk9 (by decide) rfl (by decide) rfl (hts _ m_08af5762) (fun _ h9 => h9) (xb_d D_Reader_readAll 110 rfl) ?_
    obtain ⟨b10, eb10, hw⟩ := hw
    refine xb_some eb10 ?_
    obtain ⟨hk11, hw⟩ := hw
    refine xb_call (D := D) (A := A) (σ := σ) (h := h6) (d := 2) (mc := 0) (ms := 0) (maxL := 1) (rest := [.int r7]) (av := [.ref b10]) (fun T hT X => by obtain ⟨cb, r1, r2, r3⟩ := xb_recv (ci := 1) hR rfl hk11 (by decide); exact xt_invV X hx hown (hts _ m_d5d63d05) (hts _ m_ded65609) (hts _ m_a4161156) (xt_sigOf (hts _ m_83ba3721)) nm_Row_lines (by rw [hT]; exact r1) r2 r3 (g := F0 m 215 ls [.ref b10, .int r7]) rfl (argsL := []) (rest := [.int r7]) rfl rfl (by rw [hb]; exact (xb_d D_Reader_readAll 111 rfl))) (ok_Row_lines l hfl D A σ b10 h6 _ hw) (hml.trans hl.1.symm) (by rw [hb]; exact (xb_d D_Reader_readAll 111 rfl)) (Nat.le_of_ble_eq_true rfl) (Nat.le_of_ble_eq_true rfl) (Nat.le_of_ble_eq_true rfl) (show k + 0 ≤ MC by omega) (show n + 0 ≤ MS by omega) (xt_w1 hB.1 m_83ba3721) (xt_cdOf hB.1 m_83ba3721) (hts _ m_c1bef504) hB hR hS hA (fun vv h12 H locs hq hEh12 hR hS => ?_) (fun XX ax h12 H locs hq hEh12 hex hR hS => ?_)
    · obtain ⟨r13, rfl, hw⟩ := hq
      have hw := hw hEh12
      have hE := hE.tr hEh12
      refine W.eq (g2 := F0 m 218 ls [.int r13, .int r7]) rfl ?_
      refine lv_aload_n hx hb (xb_d D_Reader_readAll 112 rfl) rfl (lv_at hl 0 rfl) ?_
      have hk1 : xb_k h12 x0 = 4 := hEh12.k hk1
      refine xb_getP (C := R_Reader) (T := F_Reader) (N := 6) hx hb 3 0 hts fin_Reader hown hR hk1 (by decide) rfl (by decide) rfl (hts _ m_76d8349c) (fun _ h9 => h9) (xb_d D_Reader_readAll 113 rfl) ?_
      obtain ⟨b14, eb14, hw⟩ := hw
      refine xb_some eb14 ?_
      obtain ⟨hk15, hw⟩ := hw
      refine xb_getP (C := R_StackModule) (T := F_StackModule) (N := 19) hx hb 2 14 hts fin_StackModule hown hR hk15 (by decide) rfl (by decide) rfl (hts _ m_8d503518) (fun _ h9 => h9) (xb_d D_Reader_readAll 114 rfl) ?_
      obtain ⟨b16, eb16, hw⟩ := hw
      refine xb_some eb16 ?_
      refine lv_iconst (v := 0) hx hb (xb_d D_Reader_readAll 115 rfl) (by decide) ?_
      obtain ⟨hk18, hw⟩ := hw
      obtain ⟨hi17, hw⟩ := hw
      refine xb_iald hx hb hR hk18 hi17 (xb_d D_Reader_readAll 116 rfl) ?_
      refine xt_numi (y := (xb_i h12 b16 0)) (congrArg (xb_i h12 b16) (by decide : (0 : Int32).toNatClampNeg = 0)) ?_
      refine lv_isub hx hb (xb_d D_Reader_readAll 117 rfl) ?_
      refine lv_icmp_eq (tgt := 245) hx hb (xb_d D_Reader_readAll 118 rfl) rfl (fun hc19 => ?_) (fun hc19 => ?_)
      · have hw := hw.1 hc19
        exact am_Reader_readAll_L245 l hfl D A σ MC MS h0 Qr Qt h12 bc bs hw p e s m args below meth c hC H locs ls k n hE (lv_sub hl [] rfl) hR hS (by omega) (by omega)
      · have hw := hw.2 hc19
        refine lv_aload_n hx hb (xb_d D_Reader_readAll 119 rfl) rfl (lv_at hl 0 rfl) ?_
        refine xb_getP (C := R_Reader) (T := F_Reader) (N := 6) hx hb 3 0 hts fin_Reader hown hR hk1 (by decide) rfl (by decide) rfl (hts _ m_76d8349c) (fun _ h9 => h9) (xb_d D_Reader_readAll 120 rfl) ?_
        obtain ⟨b20, eb20, hw⟩ := hw
        refine xb_some eb20 ?_
        refine lv_bipush (v := 8) hx hb (xb_d D_Reader_readAll 121 rfl) (by decide) ?_
        refine lv_aload_n hx hb (xb_d D_Reader_readAll 122 rfl) rfl (lv_at hl 0 rfl) ?_
        refine xb_getP (C := R_Reader) (T := F_Reader) (N := 6) hx hb 3 1 hts fin_Reader hown hR hk1 (by decide) rfl (by decide) rfl (hts _ m_d1ba4be8) (fun _ h9 => h9) (xb_d D_Reader_readAll 123 rfl) ?_
        obtain ⟨b21, eb21, hw⟩ := hw
        refine xb_some eb21 ?_
        obtain ⟨hk22, hw⟩ := hw
        refine xb_alen hx hb hR hk22 (by decide) (xb_d D_Reader_readAll 124 rfl) ?_
        obtain ⟨hk23, hw⟩ := hw
        obtain ⟨c26, sc26, hlc26, hlsc26, hw⟩ := hw
        refine xb_call (D := D) (A := A) (σ := σ) (h := h12) (d := 2) (mc := c26) (ms := sc26) (maxL := 3) (rest := []) (av := [.ref b20, .int 8, .int (nI (xb_n h12 b21))]) (fun T hT X => by obtain ⟨cb, r1, r2, r3⟩ := xb_recv (ci := 2) hR rfl hk23 (by decide); exact xt_invV X hx hown (hts _ m_6fcde429) (hts _ m_865d5b07) (hts _ m_113f8f75) (xt_sigOf (hts _ m_73e65e5f)) nm_StackModule_fail (by rw [hT]; exact r1) r2 r3 (g := F0 m 242 ls [.int (nI (xb_n h12 b21)), .int 8, .ref b20]) rfl (argsL := [.int 8, .int (nI (xb_n h12 b21))]) (rest := []) rfl rfl (by rw [hb]; exact (xb_d D_Reader_readAll 125 rfl))) (ok_StackModule_fail l hfl D A σ b20 8 (nI (xb_n h12 b21)) h12 c26 sc26 _ _ hw) (hml.trans hl.1.symm) (by rw [hb]; exact (xb_d D_Reader_readAll 125 rfl)) (Nat.le_of_ble_eq_true rfl) (Nat.le_of_ble_eq_true rfl) (Nat.le_of_ble_eq_true rfl) (show k + c26 ≤ MC by omega) (show n + sc26 ≤ MS by omega) (xt_w1 hB.1 m_73e65e5f) (xt_cdOf hB.1 m_73e65e5f) (hts _ m_9c375545) hB hR hS hA (fun vv h24 H locs hq hEh24 hR hS => ?_) (fun XX ax h24 H locs hq hEh24 hex hR hS => ?_)
        · obtain ⟨rfl, hw⟩ := hq
          have hw := hw hEh24
          have hE := hE.tr hEh24
          refine W.eq (g2 := F0 m 245 ls []) rfl ?_
          exact am_Reader_readAll_L245 l hfl D A σ MC MS h0 Qr Qt h24 (bc - c26) (bs - sc26) hw p e s m args below meth c hC H locs ls (k + c26) (n + sc26) hE (lv_sub hl [] rfl) hR hS (by omega) (by omega)
        · exact xb_pass hlocks (fun x hx9 => by rw [htab] at hx9; first | cases hx9 | (simp [tableOf] at hx9; rcases hx9 with rfl | rfl | rfl <;> decide)) (show (k + c26) ≤ MC by omega) (show (n + sc26) ≤ MS by omega) (hE.tr hEh24) hR hS hex hq
    · exact False.elim hq
  · exact False.elim hq

set_option maxHeartbeats 4000000 in
set_option maxRecDepth 100000 in
theorem am_Reader_readAll_L169 (l : Launch) (hfl : l.flags = pinnedFlags ++ [noTraceFlag]) (D : va_G) (A : Nat → Prop) (σ MC MS : Nat) (h0 : xb_H) (Qr : xb_H → Prop) (Qt : String → xb_H → Prop) (K90 : Nat → Int32 → Int32 → xb_H → Nat → Nat → Prop) (hK90 : ∀ (x0 : Nat) (x2 : Int32) (x3 : Int32) (h : xb_H) (bc : Nat) (bs : Nat), K90 x0 x2 x3 h bc bs → xb_am l D A σ 8 MC MS h0 (fun v h => v = none ∧ Qr h) Qt y_Reader_readAll.cls y_Reader_readAll.name b_Reader_readAll 5 ([] : List ExceptionTableEntry) none 90 [(0, .ref x0), (2, .int x2), (3, .int x3)] [] h bc bs) (x0 : Nat) (x2 : Int32) (x3 : Int32) (x4 : Int32) (h : xb_H) (bc : Nat) (bs : Nat) (hw : w_Reader_readAll_L169 K90 Qr Qt x0 x2 x3 x4 h bc bs) : xb_am l D A σ 8 MC MS h0 (fun v h => v = none ∧ Qr h) Qt y_Reader_readAll.cls y_Reader_readAll.name b_Reader_readAll 5 ([] : List ExceptionTableEntry) none 169 [(0, .ref x0), (2, .int x2), (3, .int x3), (4, .int x4)] [] h bc bs := by
  unfold w_Reader_readAll_L169 at hw
  intro p e s m args below meth c hC H locs ls k n hE hl hR hS hk hn
  obtain ⟨hx, hb, hown, hlocks, htab, hml, hr, hB, hA, hnm⟩ := id hC
  have hts := hB.1.1.at args
  refine lv_iload_n hx hb (xb_d D_Reader_readAll 89 rfl) rfl (lv_at hl 1 rfl) ?_
  refine lv_iload hx hb (xb_d D_Reader_readAll 90 rfl) (lv_at hl 3 rfl) ?_
  refine va_mmax hx hb (hml.trans hl.1.symm) hown (hts _ m_1b4cc923) (hts _ m_80a2ec50) (hts _ m_868a9286) (hts _ m_b6349a14) (by show 1 ≤ 8 + _; omega) (Nat.le_trans (Nat.le_of_ble_eq_true rfl : _ ≤ 60) (by show 60 ≤ 120 + _; omega)) (show k ≤ MC by omega) (show n ≤ MS by omega) (xb_d D_Reader_readAll 91 rfl) ?_
  obtain ⟨v1, ev1⟩ : ∃ x : Int32, x = (if x2 < x4 then x4 else x2) := ⟨_, rfl⟩
  have hw := hw v1 ev1
  refine xt_numi (y := v1) ev1.symm ?_
  refine lv_istore_n hx hb (xb_d D_Reader_readAll 92 rfl) rfl hl (by decide) rfl (fun ls hl => ?_)
  have hl : lv_has ls 5 [(2, .int v1), (0, .ref x0), (3, .int x3), (4, .int x4)] := hl
  refine lv_aload_n hx hb (xb_d D_Reader_readAll 93 rfl) rfl (lv_at hl 1 rfl) ?_
  refine lv_dup hx hb (xb_d D_Reader_readAll 94 rfl) rfl ?_
  obtain ⟨hk2, hw⟩ := hw
  refine xb_getI (C := R_Reader) (T := F_Reader) (N := 6) hx hb 3 3 hts fin_Reader hown hR hk2 (by decide) rfl (by decide) rfl (hts _ m_a9b84ac2) (fun _ h9 => h9) (xb_d D_Reader_readAll 95 rfl) ?_
  refine lv_iconst (v := 1) hx hb (xb_d D_Reader_readAll 96 rfl) (by decide) ?_
  refine lv_iadd hx hb (xb_d D_Reader_readAll 97 rfl) ?_
  refine xb_putI (C := R_Reader) (T := F_Reader) (N := 6) (ty := .int) (x := ((xb_i h x0 3) + 1)) hx hb 3 3 hts fin_Reader t_Reader t_Reader_ok n_Reader hown hR hS hk2 (by decide) rfl (by decide) rfl (hts _ m_a9b84ac2) (fun _ h9 => h9) rfl (by decide +kernel) rfl rfl (xb_d D_Reader_readAll 98 rfl) (fun H locs hR hS => ?_)
  obtain ⟨h3, eh3⟩ : ∃ x : xb_H, x = xb_I h x0 3 ((xb_i h x0 3) + 1) := ⟨_, rfl⟩
  rw [← eh3] at hR
  have hw := hw h3 eh3
  have hE : xb_ext h0 h3 := by rw [eh3]; exact hE
  refine lv_aload_n hx hb (xb_d D_Reader_readAll 99 rfl) rfl (lv_at hl 1 rfl) ?_
  refine lv_iload hx hb (xb_d D_Reader_readAll 100 rfl) (lv_at hl 3 rfl) ?_
  have hk2 : xb_k h3 x0 = 4 := by rw [eh3]; exact hk2
  obtain ⟨c6, sc6, hlc6, hlsc6, hw⟩ := hw
  refine xb_call (D := D) (A := A) (σ := σ) (h := h3) (d := 7) (mc := c6) (ms := sc6) (maxL := 7) (rest := []) (av := [.ref x0, .int x4]) (fun T hT X => by obtain ⟨cb, r1, r2, r3⟩ := xb_recv (ci := 3) hR rfl hk2 (by decide); exact xt_invV X hx hown (hts _ m_1965b4f5) (hts _ m_e5b1c144) (hts _ m_16cf4588) (xt_sigOf (hts _ m_83834fa3)) nm_Reader_readSection (by rw [hT]; exact r1) r2 r3 (g := F0 m 189 ls [.int x4, .ref x0]) rfl (argsL := [.int x4]) (rest := []) rfl rfl (by rw [hb]; exact (xb_d D_Reader_readAll 101 rfl))) (ok_Reader_readSection l hfl D A σ x0 x4 h3 c6 sc6 _ _ hw) (hml.trans hl.1.symm) (by rw [hb]; exact (xb_d D_Reader_readAll 101 rfl)) (Nat.le_of_ble_eq_true rfl) (Nat.le_of_ble_eq_true rfl) (Nat.le_of_ble_eq_true rfl) (show k + c6 ≤ MC by omega) (show n + sc6 ≤ MS by omega) (xt_w1 hB.1 m_83834fa3) (xt_cdOf hB.1 m_83834fa3) (hts _ m_938fcec4) hB hR hS hA (fun vv h4 H locs hq hEh4 hR hS => ?_) (fun XX ax h4 H locs hq hEh4 hex hR hS => ?_)
  · obtain ⟨rfl, hw⟩ := hq
    have hw := hw hEh4
    have hE := hE.tr hEh4
    refine W.eq (g2 := F0 m 192 ls []) rfl ?_
    refine lv_iinc (v := (x3 + 1)) (k := 2) hx hb (xb_d D_Reader_readAll 102 rfl) hl rfl (by first | rfl | decide) (by decide) rfl (fun ls hl => ?_)
    have hl : lv_has ls 5 [(3, .int (x3 + 1)), (2, .int v1), (0, .ref x0), (4, .int x4)] := hl
    refine lv_goto (tgt := 90) hx hb (xb_d D_Reader_readAll 103 rfl) rfl ?_
    exact hK90 x0 v1 (x3 + 1) h4 (bc - c6) (bs - sc6) hw p e s m args below meth c hC H locs ls (k + c6) (n + sc6) hE (lv_sub hl [2, 1, 0] rfl) hR hS (by omega) (by omega)
  · exact xb_pass hlocks (fun x hx9 => by rw [htab] at hx9; first | cases hx9 | (simp [tableOf] at hx9; rcases hx9 with rfl | rfl | rfl <;> decide)) (show (k + c6) ≤ MC by omega) (show (n + sc6) ≤ MS by omega) (hE.tr hEh4) hR hS hex hq

set_option maxHeartbeats 4000000 in
set_option maxRecDepth 100000 in
theorem am_Reader_readAll_L145 (l : Launch) (hfl : l.flags = pinnedFlags ++ [noTraceFlag]) (D : va_G) (A : Nat → Prop) (σ MC MS : Nat) (h0 : xb_H) (Qr : xb_H → Prop) (Qt : String → xb_H → Prop) (K90 : Nat → Int32 → Int32 → xb_H → Nat → Nat → Prop) (hK90 : ∀ (x0 : Nat) (x2 : Int32) (x3 : Int32) (h : xb_H) (bc : Nat) (bs : Nat), K90 x0 x2 x3 h bc bs → xb_am l D A σ 8 MC MS h0 (fun v h => v = none ∧ Qr h) Qt y_Reader_readAll.cls y_Reader_readAll.name b_Reader_readAll 5 ([] : List ExceptionTableEntry) none 90 [(0, .ref x0), (2, .int x2), (3, .int x3)] [] h bc bs) (x0 : Nat) (x2 : Int32) (x3 : Int32) (x4 : Int32) (h : xb_H) (bc : Nat) (bs : Nat) (hw : w_Reader_readAll_L145 K90 Qr Qt x0 x2 x3 x4 h bc bs) : xb_am l D A σ 8 MC MS h0 (fun v h => v = none ∧ Qr h) Qt y_Reader_readAll.cls y_Reader_readAll.name b_Reader_readAll 5 ([] : List ExceptionTableEntry) none 145 [(0, .ref x0), (2, .int x2), (3, .int x3), (4, .int x4)] [] h bc bs := by
  unfold w_Reader_readAll_L145 at hw
  intro p e s m args below meth c hC H locs ls k n hE hl hR hS hk hn
  obtain ⟨hx, hb, hown, hlocks, htab, hml, hr, hB, hA, hnm⟩ := id hC
  have hts := hB.1.1.at args
  refine lv_iload hx hb (xb_d D_Reader_readAll 78 rfl) (lv_at hl 3 rfl) ?_
  refine lv_if_eq (tgt := 169) hx hb (xb_d D_Reader_readAll 79 rfl) rfl (fun hc1 => ?_) (fun hc1 => ?_)
  · have hw := hw.1 hc1
    exact am_Reader_readAll_L169 l hfl D A σ MC MS h0 Qr Qt K90 hK90 x0 x2 x3 x4 h bc bs hw p e s m args below meth c hC H locs ls k n hE (lv_sub hl [0, 1, 2, 3] rfl) hR hS (by omega) (by omega)
  · have hw := hw.2 hc1
    refine lv_iload hx hb (xb_d D_Reader_readAll 80 rfl) (lv_at hl 3 rfl) ?_
    refine lv_iload_n hx hb (xb_d D_Reader_readAll 81 rfl) rfl (lv_at hl 1 rfl) ?_
    refine lv_icmp_gt (tgt := 169) hx hb (xb_d D_Reader_readAll 82 rfl) rfl (fun hc2 => ?_) (fun hc2 => ?_)
    · have hw := hw.1 hc2
      exact am_Reader_readAll_L169 l hfl D A σ MC MS h0 Qr Qt K90 hK90 x0 x2 x3 x4 h bc bs hw p e s m args below meth c hC H locs ls k n hE (lv_sub hl [0, 1, 2, 3] rfl) hR hS (by omega) (by omega)
    · have hw := hw.2 hc2
      refine lv_aload_n hx hb (xb_d D_Reader_readAll 83 rfl) rfl (lv_at hl 0 rfl) ?_
      obtain ⟨hk3, hw⟩ := hw
      refine xb_getP (C := R_Reader) (T := F_Reader) (N := 6) hx hb 3 0 hts fin_Reader hown hR hk3 (by decide) rfl (by decide) rfl (hts _ m_76d8349c) (fun _ h9 => h9) (xb_d D_Reader_readAll 84 rfl) ?_
      obtain ⟨b4, eb4, hw⟩ := hw
      refine xb_some eb4 ?_
      refine lv_bipush (v := 6) hx hb (xb_d D_Reader_readAll 85 rfl) (by decide) ?_
      refine lv_aload_n hx hb (xb_d D_Reader_readAll 86 rfl) rfl (lv_at hl 0 rfl) ?_
      refine xb_getI (C := R_Reader) (T := F_Reader) (N := 6) hx hb 3 3 hts fin_Reader hown hR hk3 (by decide) rfl (by decide) rfl (hts _ m_a9b84ac2) (fun _ h9 => h9) (xb_d D_Reader_readAll 87 rfl) ?_
      obtain ⟨hk5, hw⟩ := hw
      obtain ⟨c8, sc8, hlc8, hlsc8, hw⟩ := hw
      refine xb_call (D := D) (A := A) (σ := σ) (h := h) (d := 2) (mc := c8) (ms := sc8) (maxL := 3) (rest := []) (av := [.ref b4, .int 6, .int (xb_i h x0 3)]) (fun T hT X => by obtain ⟨cb, r1, r2, r3⟩ := xb_recv (ci := 2) hR rfl hk5 (by decide); exact xt_invV X hx hown (hts _ m_6fcde429) (hts _ m_865d5b07) (hts _ m_113f8f75) (xt_sigOf (hts _ m_73e65e5f)) nm_StackModule_fail (by rw [hT]; exact r1) r2 r3 (g := F0 m 166 ls [.int (xb_i h x0 3), .int 6, .ref b4]) rfl (argsL := [.int 6, .int (xb_i h x0 3)]) (rest := []) rfl rfl (by rw [hb]; exact (xb_d D_Reader_readAll 88 rfl))) (ok_StackModule_fail l hfl D A σ b4 6 (xb_i h x0 3) h c8 sc8 _ _ hw) (hml.trans hl.1.symm) (by rw [hb]; exact (xb_d D_Reader_readAll 88 rfl)) (Nat.le_of_ble_eq_true rfl) (Nat.le_of_ble_eq_true rfl) (Nat.le_of_ble_eq_true rfl) (show k + c8 ≤ MC by omega) (show n + sc8 ≤ MS by omega) (xt_w1 hB.1 m_73e65e5f) (xt_cdOf hB.1 m_73e65e5f) (hts _ m_9c375545) hB hR hS hA (fun vv h6 H locs hq hEh6 hR hS => ?_) (fun XX ax h6 H locs hq hEh6 hex hR hS => ?_)
      · obtain ⟨rfl, hw⟩ := hq
        have hw := hw hEh6
        have hE := hE.tr hEh6
        refine W.eq (g2 := F0 m 169 ls []) rfl ?_
        exact am_Reader_readAll_L169 l hfl D A σ MC MS h0 Qr Qt K90 hK90 x0 x2 x3 x4 h6 (bc - c8) (bs - sc8) hw p e s m args below meth c hC H locs ls (k + c8) (n + sc8) hE (lv_sub hl [0, 1, 2, 3] rfl) hR hS (by omega) (by omega)
      · exact xb_pass hlocks (fun x hx9 => by rw [htab] at hx9; first | cases hx9 | (simp [tableOf] at hx9; rcases hx9 with rfl | rfl | rfl <;> decide)) (show (k + c8) ≤ MC by omega) (show (n + sc8) ≤ MS by omega) (hE.tr hEh6) hR hS hex hq

set_option maxHeartbeats 4000000 in
set_option maxRecDepth 100000 in
theorem am_Reader_readAll_L90 (l : Launch) (hfl : l.flags = pinnedFlags ++ [noTraceFlag]) (D : va_G) (A : Nat → Prop) (σ MC MS : Nat) (h0 : xb_H) (Qr : xb_H → Prop) (Qt : String → xb_H → Prop) (n9 : Nat) : ∀ (x0 : Nat) (x2 : Int32) (x3 : Int32) (h : xb_H) (bc : Nat) (bs : Nat), w_Reader_readAll_L90 Qr Qt n9 x0 x2 x3 h bc bs → xb_am l D A σ 8 MC MS h0 (fun v h => v = none ∧ Qr h) Qt y_Reader_readAll.cls y_Reader_readAll.name b_Reader_readAll 5 ([] : List ExceptionTableEntry) none 90 [(0, .ref x0), (2, .int x2), (3, .int x3)] [] h bc bs := by
  induction n9 with
  | zero => intro x0 x2 x3 h bc bs hw; exact False.elim hw
  | succ n9 ih =>
    intro x0 x2 x3 h bc bs hw
    unfold w_Reader_readAll_L90 at hw
    intro p e s m args below meth c hC H locs ls k n hE hl hR hS hk hn
    obtain ⟨hx, hb, hown, hlocks, htab, hml, hr, hB, hA, hnm⟩ := id hC
    have hts := hB.1.1.at args
    refine lv_iload_n hx hb (xb_d D_Reader_readAll 50 rfl) rfl (lv_at hl 2 rfl) ?_
    refine lv_aload_n hx hb (xb_d D_Reader_readAll 51 rfl) rfl (lv_at hl 0 rfl) ?_
    obtain ⟨hk1, hw⟩ := hw
    refine xb_getP (C := R_Reader) (T := F_Reader) (N := 6) hx hb 3 1 hts fin_Reader hown hR hk1 (by decide) rfl (by decide) rfl (hts _ m_d1ba4be8) (fun _ h9 => h9) (xb_d D_Reader_readAll 52 rfl) ?_
    obtain ⟨b2, eb2, hw⟩ := hw
    refine xb_some eb2 ?_
    obtain ⟨hk3, hw⟩ := hw
    refine xb_alen hx hb hR hk3 (by decide) (xb_d D_Reader_readAll 53 rfl) ?_
    refine lv_icmp_ge (tgt := 198) hx hb (xb_d D_Reader_readAll 54 rfl) rfl (fun hc4 => ?_) (fun hc4 => ?_)
    · have hw := hw.1 hc4
      exact am_Reader_readAll_L198 l hfl D A σ MC MS h0 Qr Qt x0 h bc bs hw p e s m args below meth c hC H locs ls k n hE (lv_sub hl [0] rfl) hR hS (by omega) (by omega)
    · have hw := hw.2 hc4
      refine lv_aload_n hx hb (xb_d D_Reader_readAll 55 rfl) rfl (lv_at hl 0 rfl) ?_
      refine xb_getI (C := R_Reader) (T := F_Reader) (N := 6) hx hb 3 3 hts fin_Reader hown hR hk1 (by decide) rfl (by decide) rfl (hts _ m_a9b84ac2) (fun _ h9 => h9) (xb_d D_Reader_readAll 56 rfl) ?_
      refine lv_aload_n hx hb (xb_d D_Reader_readAll 57 rfl) rfl (lv_at hl 0 rfl) ?_
      refine xb_getP (C := R_Reader) (T := F_Reader) (N := 6) hx hb 3 1 hts fin_Reader hown hR hk1 (by decide) rfl (by decide) rfl (hts _ m_d1ba4be8) (fun _ h9 => h9) (xb_d D_Reader_readAll 58 rfl) ?_
      obtain ⟨b5, eb5, hw⟩ := hw
      refine xb_some eb5 ?_
      obtain ⟨hk6, hw⟩ := hw
      refine xb_alen hx hb hR hk6 (by decide) (xb_d D_Reader_readAll 59 rfl) ?_
      refine lv_icmp_ge (tgt := 198) hx hb (xb_d D_Reader_readAll 60 rfl) rfl (fun hc7 => ?_) (fun hc7 => ?_)
      · have hw := hw.1 hc7
        exact am_Reader_readAll_L198 l hfl D A σ MC MS h0 Qr Qt x0 h bc bs hw p e s m args below meth c hC H locs ls k n hE (lv_sub hl [0] rfl) hR hS (by omega) (by omega)
      · have hw := hw.2 hc7
        refine lv_aload_n hx hb (xb_d D_Reader_readAll 61 rfl) rfl (lv_at hl 0 rfl) ?_
        refine xb_getP (C := R_Reader) (T := F_Reader) (N := 6) hx hb 3 1 hts fin_Reader hown hR hk1 (by decide) rfl (by decide) rfl (hts _ m_d1ba4be8) (fun _ h9 => h9) (xb_d D_Reader_readAll 62 rfl) ?_
        obtain ⟨b8, eb8, hw⟩ := hw
        refine xb_some eb8 ?_
        refine lv_aload_n hx hb (xb_d D_Reader_readAll 63 rfl) rfl (lv_at hl 0 rfl) ?_
        refine xb_getI (C := R_Reader) (T := F_Reader) (N := 6) hx hb 3 3 hts fin_Reader hown hR hk1 (by decide) rfl (by decide) rfl (hts _ m_a9b84ac2) (fun _ h9 => h9) (xb_d D_Reader_readAll 64 rfl) ?_
        obtain ⟨hk10, hw⟩ := hw
        obtain ⟨hi9, hw⟩ := hw
        refine xb_bald hx hb hR hk10 hi9 (xb_d D_Reader_readAll 65 rfl) ?_
        refine lv_sipush (v := 255) hx hb (xb_d D_Reader_readAll 66 rfl) (by decide) ?_
        refine lv_iand hx hb (xb_d D_Reader_readAll 67 rfl) ?_
        obtain ⟨v11, ev11⟩ : ∃ x : Int32, x = ((xb_i h b8 (Int32.toNatClampNeg (xb_i h x0 3))) &&& 255) := ⟨_, rfl⟩
        have hw := hw v11 ev11
        refine xt_numi (y := v11) ev11.symm ?_
        refine lv_istore hx hb (xb_d D_Reader_readAll 68 rfl) hl (by decide) rfl (fun ls hl => ?_)
        have hl : lv_has ls 5 [(4, .int v11), (0, .ref x0), (2, .int x2), (3, .int x3)] := hl
        refine lv_iload hx hb (xb_d D_Reader_readAll 69 rfl) (lv_at hl 0 rfl) ?_
        refine lv_bipush (v := 11) hx hb (xb_d D_Reader_readAll 70 rfl) (by decide) ?_
        refine lv_icmp_le (tgt := 145) hx hb (xb_d D_Reader_readAll 71 rfl) rfl (fun hc12 => ?_) (fun hc12 => ?_)
        · have hw := hw.1 hc12
          exact am_Reader_readAll_L145 l hfl D A σ MC MS h0 Qr Qt (w_Reader_readAll_L90 Qr Qt n9) ih x0 x2 x3 v11 h bc bs hw p e s m args below meth c hC H locs ls k n hE (lv_sub hl [1, 2, 3, 0] rfl) hR hS (by omega) (by omega)
        · have hw := hw.2 hc12
          refine lv_aload_n hx hb (xb_d D_Reader_readAll 72 rfl) rfl (lv_at hl 1 rfl) ?_
          refine xb_getP (C := R_Reader) (T := F_Reader) (N := 6) hx hb 3 0 hts fin_Reader hown hR hk1 (by decide) rfl (by decide) rfl (hts _ m_76d8349c) (fun _ h9 => h9) (xb_d D_Reader_readAll 73 rfl) ?_
          obtain ⟨b13, eb13, hw⟩ := hw
          refine xb_some eb13 ?_
          refine lv_iconst (v := 5) hx hb (xb_d D_Reader_readAll 74 rfl) (by decide) ?_
          refine lv_aload_n hx hb (xb_d D_Reader_readAll 75 rfl) rfl (lv_at hl 1 rfl) ?_
          refine xb_getI (C := R_Reader) (T := F_Reader) (N := 6) hx hb 3 3 hts fin_Reader hown hR hk1 (by decide) rfl (by decide) rfl (hts _ m_a9b84ac2) (fun _ h9 => h9) (xb_d D_Reader_readAll 76 rfl) ?_
          obtain ⟨hk14, hw⟩ := hw
          obtain ⟨c17, sc17, hlc17, hlsc17, hw⟩ := hw
          refine xb_call (D := D) (A := A) (σ := σ) (h := h) (d := 2) (mc := c17) (ms := sc17) (maxL := 3) (rest := []) (av := [.ref b13, .int 5, .int (xb_i h x0 3)]) (fun T hT X => by obtain ⟨cb, r1, r2, r3⟩ := xb_recv (ci := 2) hR rfl hk14 (by decide); exact xt_invV X hx hown (hts _ m_6fcde429) (hts _ m_865d5b07) (hts _ m_113f8f75) (xt_sigOf (hts _ m_73e65e5f)) nm_StackModule_fail (by rw [hT]; exact r1) r2 r3 (g := F0 m 142 ls [.int (xb_i h x0 3), .int 5, .ref b13]) rfl (argsL := [.int 5, .int (xb_i h x0 3)]) (rest := []) rfl rfl (by rw [hb]; exact (xb_d D_Reader_readAll 77 rfl))) (ok_StackModule_fail l hfl D A σ b13 5 (xb_i h x0 3) h c17 sc17 _ _ hw) (hml.trans hl.1.symm) (by rw [hb]; exact (xb_d D_Reader_readAll 77 rfl)) (Nat.le_of_ble_eq_true rfl) (Nat.le_of_ble_eq_true rfl) (Nat.le_of_ble_eq_true rfl) (show k + c17 ≤ MC by omega) (show n + sc17 ≤ MS by omega) (xt_w1 hB.1 m_73e65e5f) (xt_cdOf hB.1 m_73e65e5f) (hts _ m_9c375545) hB hR hS hA (fun vv h15 H locs hq hEh15 hR hS => ?_) (fun XX ax h15 H locs hq hEh15 hex hR hS => ?_)
          · obtain ⟨rfl, hw⟩ := hq
            have hw := hw hEh15
            have hE := hE.tr hEh15
            refine W.eq (g2 := F0 m 145 ls []) rfl ?_
            exact am_Reader_readAll_L145 l hfl D A σ MC MS h0 Qr Qt (w_Reader_readAll_L90 Qr Qt n9) ih x0 x2 x3 v11 h15 (bc - c17) (bs - sc17) hw p e s m args below meth c hC H locs ls (k + c17) (n + sc17) hE (lv_sub hl [1, 2, 3, 0] rfl) hR hS (by omega) (by omega)
          · exact xb_pass hlocks (fun x hx9 => by rw [htab] at hx9; first | cases hx9 | (simp [tableOf] at hx9; rcases hx9 with rfl | rfl | rfl <;> decide)) (show (k + c17) ≤ MC by omega) (show (n + sc17) ≤ MS by omega) (hE.tr hEh15) hR hS hex hq

set_option maxHeartbeats 4000000 in
set_option maxRecDepth 100000 in
theorem am_Reader_readAll_L72 (l : Launch) (hfl : l.flags = pinnedFlags ++ [noTraceFlag]) (D : va_G) (A : Nat → Prop) (σ MC MS : Nat) (h0 : xb_H) (Qr : xb_H → Prop) (Qt : String → xb_H → Prop) (K32 : Nat → Int32 → xb_H → Nat → Nat → Prop) (hK32 : ∀ (x0 : Nat) (x2 : Int32) (h : xb_H) (bc : Nat) (bs : Nat), K32 x0 x2 h bc bs → xb_am l D A σ 8 MC MS h0 (fun v h => v = none ∧ Qr h) Qt y_Reader_readAll.cls y_Reader_readAll.name b_Reader_readAll 5 ([] : List ExceptionTableEntry) none 32 [(0, .ref x0), (2, .int x2)] [] h bc bs) (x0 : Nat) (x2 : Int32) (h : xb_H) (bc : Nat) (bs : Nat) (hw : w_Reader_readAll_L72 K32 Qr Qt x0 x2 h bc bs) : xb_am l D A σ 8 MC MS h0 (fun v h => v = none ∧ Qr h) Qt y_Reader_readAll.cls y_Reader_readAll.name b_Reader_readAll 5 ([] : List ExceptionTableEntry) none 72 [(0, .ref x0), (2, .int x2)] [] h bc bs := by
  unfold w_Reader_readAll_L72 at hw
  intro p e s m args below meth c hC H locs ls k n hE hl hR hS hk hn
  obtain ⟨hx, hb, hown, hlocks, htab, hml, hr, hB, hA, hnm⟩ := id hC
  have hts := hB.1.1.at args
  refine lv_iinc (v := (x2 + 1)) (k := 1) hx hb (xb_d D_Reader_readAll 40 rfl) hl rfl (by first | rfl | decide) (by decide) rfl (fun ls hl => ?_)
  have hl : lv_has ls 5 [(2, .int (x2 + 1)), (0, .ref x0)] := hl
  refine lv_goto (tgt := 32) hx hb (xb_d D_Reader_readAll 41 rfl) rfl ?_
  exact hK32 x0 (x2 + 1) h bc bs hw p e s m args below meth c hC H locs ls k n hE (lv_sub hl [1, 0] rfl) hR hS (by omega) (by omega)

set_option maxHeartbeats 4000000 in
set_option maxRecDepth 100000 in
theorem am_Reader_readAll_L63 (l : Launch) (hfl : l.flags = pinnedFlags ++ [noTraceFlag]) (D : va_G) (A : Nat → Prop) (σ MC MS : Nat) (h0 : xb_H) (Qr : xb_H → Prop) (Qt : String → xb_H → Prop) (K32 : Nat → Int32 → xb_H → Nat → Nat → Prop) (hK32 : ∀ (x0 : Nat) (x2 : Int32) (h : xb_H) (bc : Nat) (bs : Nat), K32 x0 x2 h bc bs → xb_am l D A σ 8 MC MS h0 (fun v h => v = none ∧ Qr h) Qt y_Reader_readAll.cls y_Reader_readAll.name b_Reader_readAll 5 ([] : List ExceptionTableEntry) none 32 [(0, .ref x0), (2, .int x2)] [] h bc bs) (x0 : Nat) (x2 : Int32) (h : xb_H) (bc : Nat) (bs : Nat) (hw : w_Reader_readAll_L63 K32 Qr Qt x0 x2 h bc bs) : xb_am l D A σ 8 MC MS h0 (fun v h => v = none ∧ Qr h) Qt y_Reader_readAll.cls y_Reader_readAll.name b_Reader_readAll 5 ([] : List ExceptionTableEntry) none 63 [(0, .ref x0), (2, .int x2)] [] h bc bs := by
  unfold w_Reader_readAll_L63 at hw
  intro p e s m args below meth c hC H locs ls k n hE hl hR hS hk hn
  obtain ⟨hx, hb, hown, hlocks, htab, hml, hr, hB, hA, hnm⟩ := id hC
  have hts := hB.1.1.at args
  refine lv_aload_n hx hb (xb_d D_Reader_readAll 35 rfl) rfl (lv_at hl 0 rfl) ?_
  obtain ⟨hk1, hw⟩ := hw
  refine xb_getP (C := R_Reader) (T := F_Reader) (N := 6) hx hb 3 0 hts fin_Reader hown hR hk1 (by decide) rfl (by decide) rfl (hts _ m_76d8349c) (fun _ h9 => h9) (xb_d D_Reader_readAll 36 rfl) ?_
  obtain ⟨b2, eb2, hw⟩ := hw
  refine xb_some eb2 ?_
  refine lv_iconst (v := 1) hx hb (xb_d D_Reader_readAll 37 rfl) (by decide) ?_
  refine lv_iload_n hx hb (xb_d D_Reader_readAll 38 rfl) rfl (lv_at hl 1 rfl) ?_
  obtain ⟨hk3, hw⟩ := hw
  obtain ⟨c6, sc6, hlc6, hlsc6, hw⟩ := hw
  refine xb_call (D := D) (A := A) (σ := σ) (h := h) (d := 2) (mc := c6) (ms := sc6) (maxL := 3) (rest := []) (av := [.ref b2, .int 1, .int x2]) (fun T hT X => by obtain ⟨cb, r1, r2, r3⟩ := xb_recv (ci := 2) hR rfl hk3 (by decide); exact xt_invV X hx hown (hts _ m_6fcde429) (hts _ m_865d5b07) (hts _ m_113f8f75) (xt_sigOf (hts _ m_73e65e5f)) nm_StackModule_fail (by rw [hT]; exact r1) r2 r3 (g := F0 m 69 ls [.int x2, .int 1, .ref b2]) rfl (argsL := [.int 1, .int x2]) (rest := []) rfl rfl (by rw [hb]; exact (xb_d D_Reader_readAll 39 rfl))) (ok_StackModule_fail l hfl D A σ b2 1 x2 h c6 sc6 _ _ hw) (hml.trans hl.1.symm) (by rw [hb]; exact (xb_d D_Reader_readAll 39 rfl)) (Nat.le_of_ble_eq_true rfl) (Nat.le_of_ble_eq_true rfl) (Nat.le_of_ble_eq_true rfl) (show k + c6 ≤ MC by omega) (show n + sc6 ≤ MS by omega) (xt_w1 hB.1 m_73e65e5f) (xt_cdOf hB.1 m_73e65e5f) (hts _ m_9c375545) hB hR hS hA (fun vv h4 H locs hq hEh4 hR hS => ?_) (fun XX ax h4 H locs hq hEh4 hex hR hS => ?_)
  · obtain ⟨rfl, hw⟩ := hq
    have hw := hw hEh4
    have hE := hE.tr hEh4
    refine W.eq (g2 := F0 m 72 ls []) rfl ?_
    exact am_Reader_readAll_L72 l hfl D A σ MC MS h0 Qr Qt K32 hK32 x0 x2 h4 (bc - c6) (bs - sc6) hw p e s m args below meth c hC H locs ls (k + c6) (n + sc6) hE (lv_sub hl [0, 1] rfl) hR hS (by omega) (by omega)
  · exact xb_pass hlocks (fun x hx9 => by rw [htab] at hx9; first | cases hx9 | (simp [tableOf] at hx9; rcases hx9 with rfl | rfl | rfl <;> decide)) (show (k + c6) ≤ MC by omega) (show (n + sc6) ≤ MS by omega) (hE.tr hEh4) hR hS hex hq

set_option maxHeartbeats 4000000 in
set_option maxRecDepth 100000 in
theorem am_Reader_readAll_L32 (l : Launch) (hfl : l.flags = pinnedFlags ++ [noTraceFlag]) (D : va_G) (A : Nat → Prop) (σ MC MS : Nat) (h0 : xb_H) (Qr : xb_H → Prop) (Qt : String → xb_H → Prop) (n9 : Nat) : ∀ (x0 : Nat) (x2 : Int32) (h : xb_H) (bc : Nat) (bs : Nat), w_Reader_readAll_L32 Qr Qt n9 x0 x2 h bc bs → xb_am l D A σ 8 MC MS h0 (fun v h => v = none ∧ Qr h) Qt y_Reader_readAll.cls y_Reader_readAll.name b_Reader_readAll 5 ([] : List ExceptionTableEntry) none 32 [(0, .ref x0), (2, .int x2)] [] h bc bs := by
  induction n9 with
  | zero => intro x0 x2 h bc bs hw; exact False.elim hw
  | succ n9 ih =>
    intro x0 x2 h bc bs hw
    unfold w_Reader_readAll_L32 at hw
    intro p e s m args below meth c hC H locs ls k n hE hl hR hS hk hn
    obtain ⟨hx, hb, hown, hlocks, htab, hml, hr, hB, hA, hnm⟩ := id hC
    have hts := hB.1.1.at args
    refine lv_iload_n hx hb (xb_d D_Reader_readAll 18 rfl) rfl (lv_at hl 1 rfl) ?_
    obtain ⟨tt1, hZtt1, hTtt1⟩ := hB.1.2.2.2.2
    refine va_getsN hx hb hZtt1 hS hown (hts _ m_965ac87e) (fun _ h9 => h9) (xb_d D_Reader_readAll 19 rfl) ?_
    refine va_tlen (v := 8) hx hb hTtt1 hS (by decide +kernel) (xb_d D_Reader_readAll 20 rfl) ?_
    refine lv_icmp_ge (tgt := 78) hx hb (xb_d D_Reader_readAll 21 rfl) rfl (fun hc2 => ?_) (fun hc2 => ?_)
    · have hw := hw.1 hc2
      refine lv_aload_n hx hb (xb_d D_Reader_readAll 42 rfl) rfl (lv_at hl 0 rfl) ?_
      obtain ⟨tt3, hZtt3, hTtt3⟩ := hB.1.2.2.2.2
      refine va_getsN hx hb hZtt3 hS hown (hts _ m_965ac87e) (fun _ h9 => h9) (xb_d D_Reader_readAll 43 rfl) ?_
      refine va_tlen (v := 8) hx hb hTtt3 hS (by decide +kernel) (xb_d D_Reader_readAll 44 rfl) ?_
      obtain ⟨hk4, hw⟩ := hw
      refine xb_putI (C := R_Reader) (T := F_Reader) (N := 6) (ty := .int) (x := 8) hx hb 3 3 hts fin_Reader t_Reader t_Reader_ok n_Reader hown hR hS hk4 (by decide) rfl (by decide) rfl (hts _ m_a9b84ac2) (fun _ h9 => h9) rfl (by decide +kernel) rfl rfl (xb_d D_Reader_readAll 45 rfl) (fun H locs hR hS => ?_)
      obtain ⟨h5, eh5⟩ : ∃ x : xb_H, x = xb_I h x0 3 8 := ⟨_, rfl⟩
      rw [← eh5] at hR
      have hw := hw h5 eh5
      have hE : xb_ext h0 h5 := by rw [eh5]; exact hE
      refine lv_iconst (v := 0) hx hb (xb_d D_Reader_readAll 46 rfl) (by decide) ?_
      refine lv_istore_n hx hb (xb_d D_Reader_readAll 47 rfl) rfl hl (by decide) rfl (fun ls hl => ?_)
      have hl : lv_has ls 5 [(2, .int 0), (0, .ref x0)] := hl
      refine lv_iconst (v := 0) hx hb (xb_d D_Reader_readAll 48 rfl) (by decide) ?_
      refine lv_istore_n hx hb (xb_d D_Reader_readAll 49 rfl) rfl hl (by decide) rfl (fun ls hl => ?_)
      have hl : lv_has ls 5 [(3, .int 0), (2, .int 0), (0, .ref x0)] := hl
      obtain ⟨n8, hw⟩ := hw
      exact am_Reader_readAll_L90 l hfl D A σ MC MS h0 Qr Qt n8 x0 0 0 h5 bc bs hw p e s m args below meth c hC H locs ls k n hE (lv_sub hl [2, 1, 0] rfl) hR hS (by omega) (by omega)
    · have hw := hw.2 hc2
      refine lv_iload_n hx hb (xb_d D_Reader_readAll 22 rfl) rfl (lv_at hl 1 rfl) ?_
      refine lv_aload_n hx hb (xb_d D_Reader_readAll 23 rfl) rfl (lv_at hl 0 rfl) ?_
      obtain ⟨hk6, hw⟩ := hw
      refine xb_getP (C := R_Reader) (T := F_Reader) (N := 6) hx hb 3 1 hts fin_Reader hown hR hk6 (by decide) rfl (by decide) rfl (hts _ m_d1ba4be8) (fun _ h9 => h9) (xb_d D_Reader_readAll 24 rfl) ?_
      obtain ⟨b7, eb7, hw⟩ := hw
      refine xb_some eb7 ?_
      obtain ⟨hk8, hw⟩ := hw
      refine xb_alen hx hb hR hk8 (by decide) (xb_d D_Reader_readAll 25 rfl) ?_
      refine lv_icmp_ge (tgt := 63) hx hb (xb_d D_Reader_readAll 26 rfl) rfl (fun hc9 => ?_) (fun hc9 => ?_)
      · have hw := hw.1 hc9
        exact am_Reader_readAll_L63 l hfl D A σ MC MS h0 Qr Qt (w_Reader_readAll_L32 Qr Qt n9) ih x0 x2 h bc bs hw p e s m args below meth c hC H locs ls k n hE (lv_sub hl [0, 1] rfl) hR hS (by omega) (by omega)
      · have hw := hw.2 hc9
        refine lv_aload_n hx hb (xb_d D_Reader_readAll 27 rfl) rfl (lv_at hl 0 rfl) ?_
        refine xb_getP (C := R_Reader) (T := F_Reader) (N := 6) hx hb 3 1 hts fin_Reader hown hR hk6 (by decide) rfl (by decide) rfl (hts _ m_d1ba4be8) (fun _ h9 => h9) (xb_d D_Reader_readAll 28 rfl) ?_
        obtain ⟨b10, eb10, hw⟩ := hw
        refine xb_some eb10 ?_
        refine lv_iload_n hx hb (xb_d D_Reader_readAll 29 rfl) rfl (lv_at hl 1 rfl) ?_
        obtain ⟨hk12, hw⟩ := hw
        obtain ⟨hi11, hw⟩ := hw
        refine xb_bald hx hb hR hk12 hi11 (xb_d D_Reader_readAll 30 rfl) ?_
        obtain ⟨tt13, hZtt13, hTtt13⟩ := hB.1.2.2.2.2
        refine va_getsN hx hb hZtt13 hS hown (hts _ m_965ac87e) (fun _ h9 => h9) (xb_d D_Reader_readAll 31 rfl) ?_
        refine lv_iload_n hx hb (xb_d D_Reader_readAll 32 rfl) rfl (lv_at hl 1 rfl) ?_
        obtain ⟨hi14, hw⟩ := hw
        refine va_tb (v := .int (xt_mg (Int32.toNatClampNeg x2))) hx hb hTtt13 hS hi14 rfl (xb_d D_Reader_readAll 33 rfl) ?_
        refine lv_icmp_eq (tgt := 72) hx hb (xb_d D_Reader_readAll 34 rfl) rfl (fun hc15 => ?_) (fun hc15 => ?_)
        · have hw := hw.1 hc15
          exact am_Reader_readAll_L72 l hfl D A σ MC MS h0 Qr Qt (w_Reader_readAll_L32 Qr Qt n9) ih x0 x2 h bc bs hw p e s m args below meth c hC H locs ls k n hE (lv_sub hl [0, 1] rfl) hR hS (by omega) (by omega)
        · have hw := hw.2 hc15
          exact am_Reader_readAll_L63 l hfl D A σ MC MS h0 Qr Qt (w_Reader_readAll_L32 Qr Qt n9) ih x0 x2 h bc bs hw p e s m args below meth c hC H locs ls k n hE (lv_sub hl [0, 1] rfl) hR hS (by omega) (by omega)

set_option maxHeartbeats 4000000 in
set_option maxRecDepth 100000 in
theorem ok_Reader_readAll (l : Launch) (hfl : l.flags = pinnedFlags ++ [noTraceFlag]) (D : va_G) (A : Nat → Prop) (σ : Nat) (x0 : Nat) (x1 : Nat) (h : xb_H) (bc : Nat) (bs : Nat) (Qr : xb_H → Prop) (Qt : String → xb_H → Prop) (hw : w_Reader_readAll x0 x1 h bc bs Qr Qt) : xt_Met l y_Reader_readAll [.code y_Reader_readAll b_Reader_readAll 5 none] (xb_rm 8 bc bs) (xb_Pc D A σ h [.ref x0, .ref x1]) (xb_Qc D A h (fun v h => v = none ∧ Qr h) Qt) bc bs A := by
  refine xb_ofAm (cc := b_Reader_readAll) (by decide) (Nat.le_of_ble_eq_true rfl) ?_
  unfold w_Reader_readAll at hw
  show xb_am l D A σ 8 bc bs h (fun v h => v = none ∧ Qr h) Qt y_Reader_readAll.cls y_Reader_readAll.name b_Reader_readAll 5 ([] : List ExceptionTableEntry) none 0 [(0, .ref x0), (1, .ref x1)] [] h bc bs
  obtain ⟨MC, hMC⟩ : ∃ x, x = bc := ⟨_, rfl⟩
  obtain ⟨MS, hMS⟩ : ∃ x, x = bs := ⟨_, rfl⟩
  rw [show xb_am l D A σ 8 bc bs = xb_am l D A σ 8 MC MS by rw [hMC, hMS]]
  obtain ⟨h0, hh0⟩ : ∃ x, x = h := ⟨_, rfl⟩
  rw [show xb_am l D A σ 8 MC MS h = xb_am l D A σ 8 MC MS h0 by rw [hh0]]
  intro p e s m args below meth c hC H locs ls k n hE hl hR hS hk hn
  obtain ⟨hx, hb, hown, hlocks, htab, hml, hr, hB, hA, hnm⟩ := id hC
  have hts := hB.1.1.at args
  refine lv_aload_n hx hb (xb_d D_Reader_readAll 0 rfl) rfl (lv_at hl 0 rfl) ?_
  refine lv_aload_n hx hb (xb_d D_Reader_readAll 1 rfl) rfl (lv_at hl 1 rfl) ?_
  obtain ⟨hk1, hw⟩ := hw
  refine xb_putP (C := R_Reader) (T := F_Reader) (N := 6) (ty := .object "StackHost$StackModule") (x := (some x1)) hx hb 3 0 hts fin_Reader t_Reader t_Reader_ok n_Reader hown hR hS hk1 (by decide) rfl (by decide) rfl (hts _ m_76d8349c) (fun _ h9 => h9) rfl (by decide +kernel) (xb_pnO _ _).1 (xb_pnO _ _).2 (xb_d D_Reader_readAll 2 rfl) (fun H locs hR hS => ?_)
  obtain ⟨h2, eh2⟩ : ∃ x : xb_H, x = xb_P h x0 0 (some x1) := ⟨_, rfl⟩
  rw [← eh2] at hR
  have hw := hw h2 eh2
  have hE : xb_ext h0 h2 := by rw [eh2]; exact hE
  refine lv_aload_n hx hb (xb_d D_Reader_readAll 3 rfl) rfl (lv_at hl 0 rfl) ?_
  refine lv_aload_n hx hb (xb_d D_Reader_readAll 4 rfl) rfl (lv_at hl 1 rfl) ?_
  obtain ⟨hk3, hw⟩ := hw
  refine xb_getP (C := R_StackModule) (T := F_StackModule) (N := 19) hx hb 2 0 hts fin_StackModule hown hR hk3 (by decide) rfl (by decide) rfl (hts _ m_dfe7ea21) (fun _ h9 => h9) (xb_d D_Reader_readAll 5 rfl) ?_
  obtain ⟨b4, eb4, hw⟩ := hw
  refine xb_some eb4 ?_
  have hk1 : xb_k h2 x0 = 4 := by rw [eh2]; exact hk1
  refine xb_putP (C := R_Reader) (T := F_Reader) (N := 6) (ty := .array .byte) (x := (some b4)) hx hb 3 1 hts fin_Reader t_Reader t_Reader_ok n_Reader hown hR hS hk1 (by decide) rfl (by decide) rfl (hts _ m_d1ba4be8) (fun _ h9 => h9) rfl (by decide +kernel) (xb_pnA _ _).1 (xb_pnA _ _).2 (xb_d D_Reader_readAll 6 rfl) (fun H locs hR hS => ?_)
  obtain ⟨h5, eh5⟩ : ∃ x : xb_H, x = xb_P h2 x0 1 (some b4) := ⟨_, rfl⟩
  rw [← eh5] at hR
  have hw := hw h5 eh5
  have hE : xb_ext h0 h5 := by rw [eh5]; exact hE
  refine lv_aload_n hx hb (xb_d D_Reader_readAll 7 rfl) rfl (lv_at hl 0 rfl) ?_
  refine lv_aload_n hx hb (xb_d D_Reader_readAll 8 rfl) rfl (lv_at hl 1 rfl) ?_
  have hk3 : xb_k h5 x1 = 3 := by rw [eh5]; exact hk3
  refine xb_getP (C := R_StackModule) (T := F_StackModule) (N := 19) hx hb 2 1 hts fin_StackModule hown hR hk3 (by decide) rfl (by decide) rfl (hts _ m_b7d0b101) (fun _ h9 => h9) (xb_d D_Reader_readAll 9 rfl) ?_
  obtain ⟨b6, eb6, hw⟩ := hw
  refine xb_some eb6 ?_
  have hk1 : xb_k h5 x0 = 4 := by rw [eh5]; exact hk1
  refine xb_putP (C := R_Reader) (T := F_Reader) (N := 6) (ty := .array .int) (x := (some b6)) hx hb 3 2 hts fin_Reader t_Reader t_Reader_ok n_Reader hown hR hS hk1 (by decide) rfl (by decide) rfl (hts _ m_5660bdee) (fun _ h9 => h9) rfl (by decide +kernel) (xb_pnA _ _).1 (xb_pnA _ _).2 (xb_d D_Reader_readAll 10 rfl) (fun H locs hR hS => ?_)
  obtain ⟨h7, eh7⟩ : ∃ x : xb_H, x = xb_P h5 x0 2 (some b6) := ⟨_, rfl⟩
  rw [← eh7] at hR
  have hw := hw h7 eh7
  have hE : xb_ext h0 h7 := by rw [eh7]; exact hE
  refine lv_aload_n hx hb (xb_d D_Reader_readAll 11 rfl) rfl (lv_at hl 0 rfl) ?_
  refine lv_aload_n hx hb (xb_d D_Reader_readAll 12 rfl) rfl (lv_at hl 0 rfl) ?_
  have hk1 : xb_k h7 x0 = 4 := by rw [eh7]; exact hk1
  refine xb_getP (C := R_Reader) (T := F_Reader) (N := 6) hx hb 3 1 hts fin_Reader hown hR hk1 (by decide) rfl (by decide) rfl (hts _ m_d1ba4be8) (fun _ h9 => h9) (xb_d D_Reader_readAll 13 rfl) ?_
  obtain ⟨b8, eb8, hw⟩ := hw
  refine xb_some eb8 ?_
  obtain ⟨hk9, hw⟩ := hw
  refine xb_alen hx hb hR hk9 (by decide) (xb_d D_Reader_readAll 14 rfl) ?_
  refine xb_putI (C := R_Reader) (T := F_Reader) (N := 6) (ty := .int) (x := (nI (xb_n h7 b8))) hx hb 3 4 hts fin_Reader t_Reader t_Reader_ok n_Reader hown hR hS hk1 (by decide) rfl (by decide) rfl (hts _ m_49916c4b) (fun _ h9 => h9) rfl (by decide +kernel) rfl rfl (xb_d D_Reader_readAll 15 rfl) (fun H locs hR hS => ?_)
  obtain ⟨h10, eh10⟩ : ∃ x : xb_H, x = xb_I h7 x0 4 (nI (xb_n h7 b8)) := ⟨_, rfl⟩
  rw [← eh10] at hR
  have hw := hw h10 eh10
  have hE : xb_ext h0 h10 := by rw [eh10]; exact hE
  refine lv_iconst (v := 0) hx hb (xb_d D_Reader_readAll 16 rfl) (by decide) ?_
  refine lv_istore_n hx hb (xb_d D_Reader_readAll 17 rfl) rfl hl (by decide) rfl (fun ls hl => ?_)
  have hl : lv_has ls 5 [(2, .int 0), (0, .ref x0), (1, .ref x1)] := hl
  obtain ⟨n8, hw⟩ := hw
  exact am_Reader_readAll_L32 l hfl D A σ MC MS h0 Qr Qt n8 x0 0 h10 bc bs hw p e s m args below meth c hC H locs ls k n hE (lv_sub hl [1, 0] rfl) hR hS (by omega) (by omega)

