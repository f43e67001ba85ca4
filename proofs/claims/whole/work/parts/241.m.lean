theorem m_fcd4ee86 : (.methodLink "StackHost$Checker" 83 y_Checker_checkBody : Cond) ∈ xt_tbl := xt_in (xt_t4 (List.mem_of_getElem? (i := 179) (by decide +kernel))) (by decide +kernel)
theorem m_07dac21e : (.instanceMethod y_Checker_checkBody : Cond) ∈ xt_tbl := xt_in (xt_t4 (List.mem_of_getElem? (i := 181) (by decide +kernel))) (by decide +kernel)
theorem m_658854e7 : (.selects "StackHost$Checker" y_Checker_checkBody y_Checker_checkBody : Cond) ∈ xt_tbl := xt_in (xt_v3 (q := (⟨"StackHost$Checker", "checkBody", "(I)V"⟩, 17)) (List.mem_of_getElem? (i := 12) (by decide +kernel))) (by decide +kernel)
theorem m_8922cac1 : (.code y_Checker_checkBody b_Checker_checkBody 3 none : Cond) ∈ xt_tbl := xt_in (xt_t4 (List.mem_of_getElem? (i := 182) (by decide +kernel))) (by decide +kernel)
theorem m_0e49c3e0 : (.methodLink "StackHost$Checker" 52 y_Checker_checkTypes : Cond) ∈ xt_tbl := xt_in (xt_t4 (List.mem_of_getElem? (i := 95) (by decide +kernel))) (by decide +kernel)
theorem m_45a55abb : (.instanceMethod y_Checker_checkTypes : Cond) ∈ xt_tbl := xt_in (xt_t4 (List.mem_of_getElem? (i := 97) (by decide +kernel))) (by decide +kernel)
theorem m_97df6a3a : (.selects "StackHost$Checker" y_Checker_checkTypes y_Checker_checkTypes : Cond) ∈ xt_tbl := xt_in (xt_v3 (q := (⟨"StackHost$Checker", "checkTypes", "()V"⟩, 17)) (List.mem_of_getElem? (i := 0) (by decide +kernel))) (by decide +kernel)
theorem m_c6faec1a : (.code y_Checker_checkTypes b_Checker_checkTypes 2 none : Cond) ∈ xt_tbl := xt_in (xt_t4 (List.mem_of_getElem? (i := 98) (by decide +kernel))) (by decide +kernel)
theorem m_e595c8dc : (.methodLink "StackHost$Checker" 55 y_Checker_checkImports : Cond) ∈ xt_tbl := xt_in (xt_t4 (List.mem_of_getElem? (i := 105) (by decide +kernel))) (by decide +kernel)
theorem m_1237d7a0 : (.instanceMethod y_Checker_checkImports : Cond) ∈ xt_tbl := xt_in (xt_t4 (List.mem_of_getElem? (i := 107) (by decide +kernel))) (by decide +kernel)
theorem m_71438ce6 : (.selects "StackHost$Checker" y_Checker_checkImports y_Checker_checkImports : Cond) ∈ xt_tbl := xt_in (xt_v3 (q := (⟨"StackHost$Checker", "checkImports", "()V"⟩, 17)) (List.mem_of_getElem? (i := 1) (by decide +kernel))) (by decide +kernel)
theorem m_9fbbce5f : (.code y_Checker_checkImports b_Checker_checkImports 3 none : Cond) ∈ xt_tbl := xt_in (xt_t4 (List.mem_of_getElem? (i := 108) (by decide +kernel))) (by decide +kernel)
theorem m_d5baa7ed : (.methodLink "StackHost$Checker" 58 y_Checker_checkOwn : Cond) ∈ xt_tbl := xt_in (xt_t4 (List.mem_of_getElem? (i := 127) (by decide +kernel))) (by decide +kernel)
theorem m_ae68368c : (.instanceMethod y_Checker_checkOwn : Cond) ∈ xt_tbl := xt_in (xt_t4 (List.mem_of_getElem? (i := 129) (by decide +kernel))) (by decide +kernel)
theorem m_bbcfa690 : (.selects "StackHost$Checker" y_Checker_checkOwn y_Checker_checkOwn : Cond) ∈ xt_tbl := xt_in (xt_v3 (q := (⟨"StackHost$Checker", "checkOwn", "()V"⟩, 17)) (List.mem_of_getElem? (i := 4) (by decide +kernel))) (by decide +kernel)
theorem m_4cb09472 : (.code y_Checker_checkOwn b_Checker_checkOwn 3 none : Cond) ∈ xt_tbl := xt_in (xt_t4 (List.mem_of_getElem? (i := 130) (by decide +kernel))) (by decide +kernel)
theorem m_15eb1d8c : (.methodLink "StackHost$Checker" 61 y_Checker_checkExports : Cond) ∈ xt_tbl := xt_in (xt_t4 (List.mem_of_getElem? (i := 135) (by decide +kernel))) (by decide +kernel)
theorem m_224064e0 : (.instanceMethod y_Checker_checkExports : Cond) ∈ xt_tbl := xt_in (xt_t4 (List.mem_of_getElem? (i := 137) (by decide +kernel))) (by decide +kernel)
theorem m_b827b6b9 : (.selects "StackHost$Checker" y_Checker_checkExports y_Checker_checkExports : Cond) ∈ xt_tbl := xt_in (xt_v3 (q := (⟨"StackHost$Checker", "checkExports", "()V"⟩, 17)) (List.mem_of_getElem? (i := 6) (by decide +kernel))) (by decide +kernel)
theorem m_399146e8 : (.code y_Checker_checkExports b_Checker_checkExports 6 none : Cond) ∈ xt_tbl := xt_in (xt_t4 (List.mem_of_getElem? (i := 138) (by decide +kernel))) (by decide +kernel)
theorem m_3cc77c36 : (.methodLink "StackHost$Checker" 64 y_Checker_checkStart : Cond) ∈ xt_tbl := xt_in (xt_t4 (List.mem_of_getElem? (i := 151) (by decide +kernel))) (by decide +kernel)
theorem m_0c8e6472 : (.instanceMethod y_Checker_checkStart : Cond) ∈ xt_tbl := xt_in (xt_t4 (List.mem_of_getElem? (i := 153) (by decide +kernel))) (by decide +kernel)
theorem m_76f753dd : (.selects "StackHost$Checker" y_Checker_checkStart y_Checker_checkStart : Cond) ∈ xt_tbl := xt_in (xt_v3 (q := (⟨"StackHost$Checker", "checkStart", "()V"⟩, 17)) (List.mem_of_getElem? (i := 8) (by decide +kernel))) (by decide +kernel)
theorem m_ff0321fc : (.code y_Checker_checkStart b_Checker_checkStart 2 none : Cond) ∈ xt_tbl := xt_in (xt_t4 (List.mem_of_getElem? (i := 154) (by decide +kernel))) (by decide +kernel)
theorem m_dee919d7 : (.methodLink "StackHost$Checker" 67 y_Checker_checkElements : Cond) ∈ xt_tbl := xt_in (xt_t4 (List.mem_of_getElem? (i := 167) (by decide +kernel))) (by decide +kernel)
theorem m_940c550e : (.instanceMethod y_Checker_checkElements : Cond) ∈ xt_tbl := xt_in (xt_t4 (List.mem_of_getElem? (i := 169) (by decide +kernel))) (by decide +kernel)
theorem m_83f22aad : (.selects "StackHost$Checker" y_Checker_checkElements y_Checker_checkElements : Cond) ∈ xt_tbl := xt_in (xt_v3 (q := (⟨"StackHost$Checker", "checkElements", "()V"⟩, 17)) (List.mem_of_getElem? (i := 9) (by decide +kernel))) (by decide +kernel)
theorem m_f607ff87 : (.code y_Checker_checkElements b_Checker_checkElements 5 none : Cond) ∈ xt_tbl := xt_in (xt_t4 (List.mem_of_getElem? (i := 170) (by decide +kernel))) (by decide +kernel)
theorem m_c5023afd : (.methodLink "StackHost$Checker" 70 y_Checker_checkData : Cond) ∈ xt_tbl := xt_in (xt_t4 (List.mem_of_getElem? (i := 175) (by decide +kernel))) (by decide +kernel)
theorem m_51075248 : (.instanceMethod y_Checker_checkData : Cond) ∈ xt_tbl := xt_in (xt_t4 (List.mem_of_getElem? (i := 177) (by decide +kernel))) (by decide +kernel)
theorem m_c30e2e4c : (.selects "StackHost$Checker" y_Checker_checkData y_Checker_checkData : Cond) ∈ xt_tbl := xt_in (xt_v3 (q := (⟨"StackHost$Checker", "checkData", "()V"⟩, 17)) (List.mem_of_getElem? (i := 11) (by decide +kernel))) (by decide +kernel)
theorem m_b4a4a416 : (.code y_Checker_checkData b_Checker_checkData 2 none : Cond) ∈ xt_tbl := xt_in (xt_t4 (List.mem_of_getElem? (i := 178) (by decide +kernel))) (by decide +kernel)
theorem m_12426e47 : (.fieldLink "StackHost$Checker" 42 "StackHost$StackModule" "code" "[B" : Cond) ∈ xt_tbl := xt_in (xt_t3 (List.mem_of_getElem? (i := 47) (by decide +kernel))) (by decide +kernel)
theorem m_527108a7 : (.fieldLink "StackHost$Checker" 48 "StackHost$StackModule" "notes" "[I" : Cond) ∈ xt_tbl := xt_in (xt_t3 (List.mem_of_getElem? (i := 52) (by decide +kernel))) (by decide +kernel)
theorem nm_Checker_checkBody : xt_nm y_Checker_checkBody 1 := ⟨by decide +kernel, by decide +kernel⟩
theorem nm_Checker_checkTypes : xt_nm y_Checker_checkTypes 0 := ⟨by decide +kernel, by decide +kernel⟩
theorem nm_Checker_checkImports : xt_nm y_Checker_checkImports 0 := ⟨by decide +kernel, by decide +kernel⟩
theorem nm_Checker_checkOwn : xt_nm y_Checker_checkOwn 0 := ⟨by decide +kernel, by decide +kernel⟩
theorem nm_Checker_checkExports : xt_nm y_Checker_checkExports 0 := ⟨by decide +kernel, by decide +kernel⟩
theorem nm_Checker_checkStart : xt_nm y_Checker_checkStart 0 := ⟨by decide +kernel, by decide +kernel⟩
theorem nm_Checker_checkElements : xt_nm y_Checker_checkElements 0 := ⟨by decide +kernel, by decide +kernel⟩
theorem nm_Checker_checkData : xt_nm y_Checker_checkData 0 := ⟨by decide +kernel, by decide +kernel⟩
set_option maxRecDepth 100000 in
def T_Checker_checkAll : List (Nat × Instr × Nat) := [(0, .aload_n 0, 1), (1, .aload_n 1, 1), (2, .putfield 38, 3), (5, .aload_n 0, 1), (6, .aload_n 1, 1), (7, .getfield 42, 3), (10, .putfield 47, 3), (13, .aload_n 0, 1), (14, .aload_n 1, 1), (15, .getfield 48, 3), (18, .putfield 51, 3), (21, .aload_n 0, 1), (22, .getfield 9, 3), (25, .arraylength, 1), (26, .aload_n 0, 1), (27, .getfield 47, 3), (30, .arraylength, 1), (31, .if_icmp .gt 16, 3), (34, .aload_n 0, 1), (35, .aload_n 0, 1), (36, .getfield 47, 3), (39, .arraylength, 1), (40, .iconst 1, 1), (41, .iadd, 1), (42, .newarray .byte, 2), (44, .putfield 9, 3), (47, .aload_n 0, 1), (48, .invokevirtual 52, 3), (51, .aload_n 0, 1), (52, .invokevirtual 55, 3), (55, .aload_n 0, 1), (56, .invokevirtual 58, 3), (59, .aload_n 0, 1), (60, .invokevirtual 61, 3), (63, .aload_n 0, 1), (64, .invokevirtual 64, 3), (67, .aload_n 0, 1), (68, .invokevirtual 67, 3), (71, .aload_n 0, 1), (72, .invokevirtual 70, 3), (75, .iconst 0, 1), (76, .istore_n 2, 1), (77, .iload_n 2, 1), (78, .aload_n 0, 1), (79, .getfield 38, 3), (82, .getfield 73, 3), (85, .invokevirtual 77, 3), (88, .if_icmp .ge 14, 3), (91, .aload_n 0, 1), (92, .iload_n 2, 1), (93, .invokevirtual 83, 3), (96, .iinc 2 1, 3), (99, .goto (-22), 3), (102, .return_, 1)]
theorem D_Checker_checkAll : ∀ q ∈ T_Checker_checkAll, decode b_Checker_checkAll q.1 = .ok (q.2.1, q.2.2) := by decide +kernel

set_option maxHeartbeats 4000000 in
set_option maxRecDepth 100000 in
theorem am_Checker_checkAll_L77 (l : Launch) (hfl : l.flags = pinnedFlags ++ [noTraceFlag]) (D : va_G) (A : Nat → Prop) (σ MC MS : Nat) (h0 : xb_H) (Qr : xb_H → Nat → Nat → Prop) (Qt : String → xb_H → Nat → Nat → Prop) (n9 : Nat) : ∀ (x0 : Nat) (x2 : Int32) (h : xb_H) (bc : Nat) (bs : Nat), w_Checker_checkAll_L77 Qr Qt n9 x0 x2 h bc bs → xb_am l D A σ 8 MC MS h0 (fun v h bc bs => v = none ∧ Qr h bc bs) Qt y_Checker_checkAll.cls y_Checker_checkAll.name b_Checker_checkAll 3 ([] : List ExceptionTableEntry) none 77 [(0, .ref x0), (2, .int x2)] [] h bc bs := by
  induction n9 with
  | zero => intro x0 x2 h bc bs hw; exact False.elim hw
  | succ n9 ih =>
    intro x0 x2 h bc bs hw
    unfold w_Checker_checkAll_L77 at hw
    intro p e s m args below meth c hC H locs ls k n hE hl hR hS hk hn
    obtain ⟨hx, hb, hown, hlocks, htab, hml, hr, hB, hA, hnm⟩ := id hC
    have hts := hB.1.1.at args
    refine lv_iload_n hx hb (xb_d D_Checker_checkAll 42 rfl) rfl (lv_at hl 1 rfl) ?_
    refine lv_aload_n hx hb (xb_d D_Checker_checkAll 43 rfl) rfl (lv_at hl 0 rfl) ?_
    obtain ⟨hk1, hw⟩ := hw
    refine xb_getP (C := R_Checker) (T := F_Checker) (N := 17) hx hb 4 0 hts fin_Checker hown hR hk1 (by decide) rfl (by decide) rfl (hts _ m_070795bc) (fun _ h9 => h9) (xb_d D_Checker_checkAll 44 rfl) ?_
    obtain ⟨b2, eb2, hw⟩ := hw
    refine xb_some eb2 ?_
    obtain ⟨hk3, hw⟩ := hw
    refine xb_getP (C := R_StackModule) (T := F_StackModule) (N := 19) hx hb 2 11 hts fin_StackModule hown hR hk3 (by decide) rfl (by decide) rfl (hts _ m_5c3b2b0d) (fun _ h9 => h9) (xb_d D_Checker_checkAll 45 rfl) ?_
    obtain ⟨b4, eb4, hw⟩ := hw
    refine xb_some eb4 ?_
    obtain ⟨hk5, hw⟩ := hw
    refine xb_call0 (D := D) (A := A) (σ := σ) (h := h) (d := 2) (maxL := 1) (rest := [.int x2]) (av := [.ref b4]) (fun T hT X => by obtain ⟨cb9, ra9, rb9, rc9⟩ := xb_recv (ci := 1) hR rfl hk5 (by decide); exact xt_invV X hx hown (hts _ m_c8b950b4) (hts _ m_ded65609) (hts _ m_a4161156) (xt_sigOf (hts _ m_83ba3721)) nm_Row_lines (by rw [hT]; exact ra9) rb9 rc9 (g := F0 m 85 ls [.ref b4, .int x2]) rfl (argsL := []) (rest := [.int x2]) rfl rfl (by rw [hb]; exact (xb_d D_Checker_checkAll 46 rfl))) (ok_Row_lines l hfl D A σ b4 h _ hw) (hml.trans hl.1.symm) (by rw [hb]; exact (xb_d D_Checker_checkAll 46 rfl)) (Nat.le_of_ble_eq_true rfl) (Nat.le_of_ble_eq_true rfl) (Nat.le_of_ble_eq_true rfl) (show k ≤ MC by omega) (show n ≤ MS by omega) (xt_w1 hB.1 m_83ba3721) (xt_cdOf hB.1 m_83ba3721) (hts _ m_c1bef504) hB hR hS hA (fun vv h6 H locs hq hEh6 hR hS => ?_)
    obtain ⟨r7, rfl, hw⟩ := hq
    have hw := hw hEh6
    have hE := hE.tr hEh6
    refine W.eq (g2 := F0 m 88 ls [.int r7, .int x2]) rfl ?_
    refine lv_icmp_ge (tgt := 102) hx hb (xb_d D_Checker_checkAll 47 rfl) rfl (fun hc8 => ?_) (fun hc8 => ?_)
    · have hw := hw.1 hc8
      exact xb_vret bc bs hx hb hr hlocks (show k + bc ≤ MC by omega) (show n + bs ≤ MS by omega) hE hR hS (xb_d D_Checker_checkAll 53 rfl) hw
    · have hw := hw.2 hc8
      refine lv_aload_n hx hb (xb_d D_Checker_checkAll 48 rfl) rfl (lv_at hl 0 rfl) ?_
      refine lv_iload_n hx hb (xb_d D_Checker_checkAll 49 rfl) rfl (lv_at hl 1 rfl) ?_
      have hk1 : xb_k h6 x0 = 5 := hEh6.k hk1
      refine xb_call (D := D) (A := A) (σ := σ) (h := h6) (d := 7) (mc := bc) (ms := bs) (maxL := 3) (rest := []) (av := [.ref x0, .int x2]) (fun T hT X => by obtain ⟨cb9, ra9, rb9, rc9⟩ := xb_recv (ci := 4) hR rfl hk1 (by decide); exact xt_invV X hx hown (hts _ m_fcd4ee86) (hts _ m_07dac21e) (hts _ m_658854e7) (xt_sigOf (hts _ m_8922cac1)) nm_Checker_checkBody (by rw [hT]; exact ra9) rb9 rc9 (g := F0 m 93 ls [.int x2, .ref x0]) rfl (argsL := [.int x2]) (rest := []) rfl rfl (by rw [hb]; exact (xb_d D_Checker_checkAll 50 rfl))) (ok_Checker_checkBody l hfl D A σ x0 x2 h6 bc bs _ _ hw) (hml.trans hl.1.symm) (by rw [hb]; exact (xb_d D_Checker_checkAll 50 rfl)) (Nat.le_of_ble_eq_true rfl) (Nat.le_of_ble_eq_true rfl) (Nat.le_of_ble_eq_true rfl) (show k + bc ≤ MC by omega) (show n + bs ≤ MS by omega) (xt_w1 hB.1 m_8922cac1) (xt_cdOf hB.1 m_8922cac1) (hts _ m_44748ce5) hB hR hS hA (fun vv h9 bc10 bs10 kk10 nn10 H locs hk10 hn10 hq hEh9 hR hS => ?_) (fun XX ax h9 bc10 bs10 kk10 nn10 H locs hk10 hn10 hq hEh9 hex hR hS => ?_)
      · obtain ⟨rfl, hw⟩ := hq
        have hw := hw hEh9
        have hE := hE.tr hEh9
        refine W.eq (g2 := F0 m 96 ls []) rfl ?_
        refine lv_iinc (v := (x2 + 1)) (k := 1) hx hb (xb_d D_Checker_checkAll 51 rfl) hl rfl (by first | rfl | decide) (by decide) rfl (fun ls hl => ?_)
        have hl : lv_has ls 3 [(2, .int (x2 + 1)), (0, .ref x0)] := hl
        refine lv_goto (tgt := 77) hx hb (xb_d D_Checker_checkAll 52 rfl) rfl ?_
        exact ih x0 (x2 + 1) h9 bc10 bs10 hw p e s m args below meth c hC H locs ls (k + kk10) (n + nn10) hE (lv_sub hl [1, 0] rfl) hR hS (by omega) (by omega)
      · exact xb_pass hlocks (fun x hx9 => by rw [htab] at hx9; first | (cases hx9; done) | (simp [tableOf] at hx9; subst hx9; decide) | (simp [tableOf] at hx9; rcases hx9 with rfl | rfl <;> decide) | (simp [tableOf] at hx9; rcases hx9 with rfl | rfl | rfl <;> decide)) (show (k + kk10) + bc10 ≤ MC by omega) (show (n + nn10) + bs10 ≤ MS by omega) (hE.tr hEh9) hR hS hex hq

set_option maxHeartbeats 4000000 in
set_option maxRecDepth 100000 in
theorem am_Checker_checkAll_L47 (l : Launch) (hfl : l.flags = pinnedFlags ++ [noTraceFlag]) (D : va_G) (A : Nat → Prop) (σ MC MS : Nat) (h0 : xb_H) (Qr : xb_H → Nat → Nat → Prop) (Qt : String → xb_H → Nat → Nat → Prop) (x0 : Nat) (h : xb_H) (bc : Nat) (bs : Nat) (hw : w_Checker_checkAll_L47 Qr Qt x0 h bc bs) : xb_am l D A σ 8 MC MS h0 (fun v h bc bs => v = none ∧ Qr h bc bs) Qt y_Checker_checkAll.cls y_Checker_checkAll.name b_Checker_checkAll 3 ([] : List ExceptionTableEntry) none 47 [(0, .ref x0)] [] h bc bs := by
  unfold w_Checker_checkAll_L47 at hw
  intro p e s m args below meth c hC H locs ls k n hE hl hR hS hk hn
  obtain ⟨hx, hb, hown, hlocks, htab, hml, hr, hB, hA, hnm⟩ := id hC
  have hts := hB.1.1.at args
  refine lv_aload_n hx hb (xb_d D_Checker_checkAll 26 rfl) rfl (lv_at hl 0 rfl) ?_
  obtain ⟨hk1, hw⟩ := hw
  refine xb_call (D := D) (A := A) (σ := σ) (h := h) (d := 3) (mc := bc) (ms := bs) (maxL := 2) (rest := []) (av := [.ref x0]) (fun T hT X => by obtain ⟨cb9, ra9, rb9, rc9⟩ := xb_recv (ci := 4) hR rfl hk1 (by decide); exact xt_invV X hx hown (hts _ m_0e49c3e0) (hts _ m_45a55abb) (hts _ m_97df6a3a) (xt_sigOf (hts _ m_c6faec1a)) nm_Checker_checkTypes (by rw [hT]; exact ra9) rb9 rc9 (g := F0 m 48 ls [.ref x0]) rfl (argsL := []) (rest := []) rfl rfl (by rw [hb]; exact (xb_d D_Checker_checkAll 27 rfl))) (ok_Checker_checkTypes l hfl D A σ x0 h bc bs _ _ hw) (hml.trans hl.1.symm) (by rw [hb]; exact (xb_d D_Checker_checkAll 27 rfl)) (Nat.le_of_ble_eq_true rfl) (Nat.le_of_ble_eq_true rfl) (Nat.le_of_ble_eq_true rfl) (show k + bc ≤ MC by omega) (show n + bs ≤ MS by omega) (xt_w1 hB.1 m_c6faec1a) (xt_cdOf hB.1 m_c6faec1a) (hts _ m_44748ce5) hB hR hS hA (fun vv h2 bc3 bs3 kk3 nn3 H locs hk3 hn3 hq hEh2 hR hS => ?_) (fun XX ax h2 bc3 bs3 kk3 nn3 H locs hk3 hn3 hq hEh2 hex hR hS => ?_)
  · obtain ⟨rfl, hw⟩ := hq
    have hw := hw hEh2
    have hE := hE.tr hEh2
    refine W.eq (g2 := F0 m 51 ls []) rfl ?_
    refine lv_aload_n hx hb (xb_d D_Checker_checkAll 28 rfl) rfl (lv_at hl 0 rfl) ?_
    have hk1 : xb_k h2 x0 = 5 := hEh2.k hk1
    refine xb_call (D := D) (A := A) (σ := σ) (h := h2) (d := 4) (mc := bc3) (ms := bs3) (maxL := 3) (rest := []) (av := [.ref x0]) (fun T hT X => by obtain ⟨cb9, ra9, rb9, rc9⟩ := xb_recv (ci := 4) hR rfl hk1 (by decide); exact xt_invV X hx hown (hts _ m_e595c8dc) (hts _ m_1237d7a0) (hts _ m_71438ce6) (xt_sigOf (hts _ m_9fbbce5f)) nm_Checker_checkImports (by rw [hT]; exact ra9) rb9 rc9 (g := F0 m 52 ls [.ref x0]) rfl (argsL := []) (rest := []) rfl rfl (by rw [hb]; exact (xb_d D_Checker_checkAll 29 rfl))) (ok_Checker_checkImports l hfl D A σ x0 h2 bc3 bs3 _ _ hw) (hml.trans hl.1.symm) (by rw [hb]; exact (xb_d D_Checker_checkAll 29 rfl)) (Nat.le_of_ble_eq_true rfl) (Nat.le_of_ble_eq_true rfl) (Nat.le_of_ble_eq_true rfl) (show (k + kk3) + bc3 ≤ MC by omega) (show (n + nn3) + bs3 ≤ MS by omega) (xt_w1 hB.1 m_9fbbce5f) (xt_cdOf hB.1 m_9fbbce5f) (hts _ m_44748ce5) hB hR hS hA (fun vv h4 bc5 bs5 kk5 nn5 H locs hk5 hn5 hq hEh4 hR hS => ?_) (fun XX ax h4 bc5 bs5 kk5 nn5 H locs hk5 hn5 hq hEh4 hex hR hS => ?_)
    · obtain ⟨rfl, hw⟩ := hq
      have hw := hw hEh4
      have hE := hE.tr hEh4
      refine W.eq (g2 := F0 m 55 ls []) rfl ?_
      refine lv_aload_n hx hb (xb_d D_Checker_checkAll 30 rfl) rfl (lv_at hl 0 rfl) ?_
      have hk1 : xb_k h4 x0 = 5 := hEh4.k hk1
      refine xb_call (D := D) (A := A) (σ := σ) (h := h4) (d := 4) (mc := bc5) (ms := bs5) (maxL := 3) (rest := []) (av := [.ref x0]) (fun T hT X => by obtain ⟨cb9, ra9, rb9, rc9⟩ := xb_recv (ci := 4) hR rfl hk1 (by decide); exact xt_invV X hx hown (hts _ m_d5baa7ed) (hts _ m_ae68368c) (hts _ m_bbcfa690) (xt_sigOf (hts _ m_4cb09472)) nm_Checker_checkOwn (by rw [hT]; exact ra9) rb9 rc9 (g := F0 m 56 ls [.ref x0]) rfl (argsL := []) (rest := []) rfl rfl (by rw [hb]; exact (xb_d D_Checker_checkAll 31 rfl))) (ok_Checker_checkOwn l hfl D A σ x0 h4 bc5 bs5 _ _ hw) (hml.trans hl.1.symm) (by rw [hb]; exact (xb_d D_Checker_checkAll 31 rfl)) (Nat.le_of_ble_eq_true rfl) (Nat.le_of_ble_eq_true rfl) (Nat.le_of_ble_eq_true rfl) (show ((k + kk3) + kk5) + bc5 ≤ MC by omega) (show ((n + nn3) + nn5) + bs5 ≤ MS by omega) (xt_w1 hB.1 m_4cb09472) (xt_cdOf hB.1 m_4cb09472) (hts _ m_44748ce5) hB hR hS hA (fun vv h6 bc7 bs7 kk7 nn7 H locs hk7 hn7 hq hEh6 hR hS => ?_) (fun XX ax h6 bc7 bs7 kk7 nn7 H locs hk7 hn7 hq hEh6 hex hR hS => ?_)
      · obtain ⟨rfl, hw⟩ := hq
        have hw := hw hEh6
        have hE := hE.tr hEh6
        refine W.eq (g2 := F0 m 59 ls []) rfl ?_
        refine lv_aload_n hx hb (xb_d D_Checker_checkAll 32 rfl) rfl (lv_at hl 0 rfl) ?_
        have hk1 : xb_k h6 x0 = 5 := hEh6.k hk1
        refine xb_call (D := D) (A := A) (σ := σ) (h := h6) (d := 4) (mc := bc7) (ms := bs7) (maxL := 6) (rest := []) (av := [.ref x0]) (fun T hT X => by obtain ⟨cb9, ra9, rb9, rc9⟩ := xb_recv (ci := 4) hR rfl hk1 (by decide); exact xt_invV X hx hown (hts _ m_15eb1d8c) (hts _ m_224064e0) (hts _ m_b827b6b9) (xt_sigOf (hts _ m_399146e8)) nm_Checker_checkExports (by rw [hT]; exact ra9) rb9 rc9 (g := F0 m 60 ls [.ref x0]) rfl (argsL := []) (rest := []) rfl rfl (by rw [hb]; exact (xb_d D_Checker_checkAll 33 rfl))) (ok_Checker_checkExports l hfl D A σ x0 h6 bc7 bs7 _ _ hw) (hml.trans hl.1.symm) (by rw [hb]; exact (xb_d D_Checker_checkAll 33 rfl)) (Nat.le_of_ble_eq_true rfl) (Nat.le_of_ble_eq_true rfl) (Nat.le_of_ble_eq_true rfl) (show (((k + kk3) + kk5) + kk7) + bc7 ≤ MC by omega) (show (((n + nn3) + nn5) + nn7) + bs7 ≤ MS by omega) (xt_w1 hB.1 m_399146e8) (xt_cdOf hB.1 m_399146e8) (hts _ m_44748ce5) hB hR hS hA (fun vv h8 bc9 bs9 kk9 nn9 H locs hk9 hn9 hq hEh8 hR hS => ?_) (fun XX ax h8 bc9 bs9 kk9 nn9 H locs hk9 hn9 hq hEh8 hex hR hS => ?_)
        · obtain ⟨rfl, hw⟩ := hq
          have hw := hw hEh8
          have hE := hE.tr hEh8
          refine W.eq (g2 := F0 m 63 ls []) rfl ?_
          refine lv_aload_n hx hb (xb_d D_Checker_checkAll 34 rfl) rfl (lv_at hl 0 rfl) ?_
          have hk1 : xb_k h8 x0 = 5 := hEh8.k hk1
          refine xb_call (D := D) (A := A) (σ := σ) (h := h8) (d := 4) (mc := bc9) (ms := bs9) (maxL := 2) (rest := []) (av := [.ref x0]) (fun T hT X => by obtain ⟨cb9, ra9, rb9, rc9⟩ := xb_recv (ci := 4) hR rfl hk1 (by decide); exact xt_invV X hx hown (hts _ m_3cc77c36) (hts _ m_0c8e6472) (hts _ m_76f753dd) (xt_sigOf (hts _ m_ff0321fc)) nm_Checker_checkStart (by rw [hT]; exact ra9) rb9 rc9 (g := F0 m 64 ls [.ref x0]) rfl (argsL := []) (rest := []) rfl rfl (by rw [hb]; exact (xb_d D_Checker_checkAll 35 rfl))) (ok_Checker_checkStart l hfl D A σ x0 h8 bc9 bs9 _ _ hw) (hml.trans hl.1.symm) (by rw [hb]; exact (xb_d D_Checker_checkAll 35 rfl)) (Nat.le_of_ble_eq_true rfl) (Nat.le_of_ble_eq_true rfl) (Nat.le_of_ble_eq_true rfl) (show ((((k + kk3) + kk5) + kk7) + kk9) + bc9 ≤ MC by omega) (show ((((n + nn3) + nn5) + nn7) + nn9) + bs9 ≤ MS by omega) (xt_w1 hB.1 m_ff0321fc) (xt_cdOf hB.1 m_ff0321fc) (hts _ m_44748ce5) hB hR hS hA (fun vv h10 bc11 bs11 kk11 nn11 H locs hk11 hn11 hq hEh10 hR hS => ?_) (fun XX ax h10 bc11 bs11 kk11 nn11 H locs hk11 hn11 hq hEh10 hex hR hS => ?_)
          · obtain ⟨rfl, hw⟩ := hq
            have hw := hw hEh10
            have hE := hE.tr hEh10
            refine W.eq (g2 := F0 m 67 ls []) rfl ?_
            refine lv_aload_n hx hb (xb_d D_Checker_checkAll 36 rfl) rfl (lv_at hl 0 rfl) ?_
            have hk1 : xb_k h10 x0 = 5 := hEh10.k hk1
            refine xb_call (D := D) (A := A) (σ := σ) (h := h10) (d := 5) (mc := bc11) (ms := bs11) (maxL := 5) (rest := []) (av := [.ref x0]) (fun T hT X => by obtain ⟨cb9, ra9, rb9, rc9⟩ := xb_recv (ci := 4) hR rfl hk1 (by decide); exact xt_invV X hx hown (hts _ m_dee919d7) (hts _ m_940c550e) (hts _ m_83f22aad) (xt_sigOf (hts _ m_f607ff87)) nm_Checker_checkElements (by rw [hT]; exact ra9) rb9 rc9 (g := F0 m 68 ls [.ref x0]) rfl (argsL := []) (rest := []) rfl rfl (by rw [hb]; exact (xb_d D_Checker_checkAll 37 rfl))) (ok_Checker_checkElements l hfl D A σ x0 h10 bc11 bs11 _ _ hw) (hml.trans hl.1.symm) (by rw [hb]; exact (xb_d D_Checker_checkAll 37 rfl)) (Nat.le_of_ble_eq_true rfl) (Nat.le_of_ble_eq_true rfl) (Nat.le_of_ble_eq_true rfl) (show (((((k + kk3) + kk5) + kk7) + kk9) + kk11) + bc11 ≤ MC by omega) (show (((((n + nn3) + nn5) + nn7) + nn9) + nn11) + bs11 ≤ MS by omega) (xt_w1 hB.1 m_f607ff87) (xt_cdOf hB.1 m_f607ff87) (hts _ m_44748ce5) hB hR hS hA (fun vv h12 bc13 bs13 kk13 nn13 H locs hk13 hn13 hq hEh12 hR hS => ?_) (fun XX ax h12 bc13 bs13 kk13 nn13 H locs hk13 hn13 hq hEh12 hex hR hS => ?_)
            · obtain ⟨rfl, hw⟩ := hq
              have hw := hw hEh12
              have hE := hE.tr hEh12
              refine W.eq (g2 := F0 m 71 ls []) rfl ?_
              refine lv_aload_n hx hb (xb_d D_Checker_checkAll 38 rfl) rfl (lv_at hl 0 rfl) ?_
              have hk1 : xb_k h12 x0 = 5 := hEh12.k hk1
              refine xb_call (D := D) (A := A) (σ := σ) (h := h12) (d := 5) (mc := bc13) (ms := bs13) (maxL := 2) (rest := []) (av := [.ref x0]) (fun T hT X => by obtain ⟨cb9, ra9, rb9, rc9⟩ := xb_recv (ci := 4) hR rfl hk1 (by decide); exact xt_invV X hx hown (hts _ m_c5023afd) (hts _ m_51075248) (hts _ m_c30e2e4c) (xt_sigOf (hts _ m_b4a4a416)) nm_Checker_checkData (by rw [hT]; exact ra9) rb9 rc9 (g := F0 m 72 ls [.ref x0]) rfl (argsL := []) (rest := []) rfl rfl (by rw [hb]; exact (xb_d D_Checker_checkAll 39 rfl))) (ok_Checker_checkData l hfl D A σ x0 h12 bc13 bs13 _ _ hw) (hml.trans hl.1.symm) (by rw [hb]; exact (xb_d D_Checker_checkAll 39 rfl)) (Nat.le_of_ble_eq_true rfl) (Nat.le_of_ble_eq_true rfl) (Nat.le_of_ble_eq_true rfl) (show ((((((k + kk3) + kk5) + kk7) + kk9) + kk11) + kk13) + bc13 ≤ MC by omega) (show ((((((n + nn3) + nn5) + nn7) + nn9) + nn11) + nn13) + bs13 ≤ MS by omega) (xt_w1 hB.1 m_b4a4a416) (xt_cdOf hB.1 m_b4a4a416) (hts _ m_44748ce5) hB hR hS hA (fun vv h14 bc15 bs15 kk15 nn15 H locs hk15 hn15 hq hEh14 hR hS => ?_) (fun XX ax h14 bc15 bs15 kk15 nn15 H locs hk15 hn15 hq hEh14 hex hR hS => ?_)
              · obtain ⟨rfl, hw⟩ := hq
                have hw := hw hEh14
                have hE := hE.tr hEh14
                refine W.eq (g2 := F0 m 75 ls []) rfl ?_
                refine lv_iconst (v := 0) hx hb (xb_d D_Checker_checkAll 40 rfl) (by decide) ?_
                refine lv_istore_n hx hb (xb_d D_Checker_checkAll 41 rfl) rfl hl (by decide) rfl (fun ls hl => ?_)
                have hl : lv_has ls 3 [(2, .int 0), (0, .ref x0)] := hl
                obtain ⟨n8, hw⟩ := hw
                exact am_Checker_checkAll_L77 l hfl D A σ MC MS h0 Qr Qt n8 x0 0 h14 bc15 bs15 hw p e s m args below meth c hC H locs ls (((((((k + kk3) + kk5) + kk7) + kk9) + kk11) + kk13) + kk15) (((((((n + nn3) + nn5) + nn7) + nn9) + nn11) + nn13) + nn15) hE (lv_sub hl [1, 0] rfl) hR hS (by omega) (by omega)
              · exact xb_pass hlocks (fun x hx9 => by rw [htab] at hx9; first | (cases hx9; done) | (simp [tableOf] at hx9; subst hx9; decide) | (simp [tableOf] at hx9; rcases hx9 with rfl | rfl <;> decide) | (simp [tableOf] at hx9; rcases hx9 with rfl | rfl | rfl <;> decide)) (show (((((((k + kk3) + kk5) + kk7) + kk9) + kk11) + kk13) + kk15) + bc15 ≤ MC by omega) (show (((((((n + nn3) + nn5) + nn7) + nn9) + nn11) + nn13) + nn15) + bs15 ≤ MS by omega) (hE.tr hEh14) hR hS hex hq
            · exact xb_pass hlocks (fun x hx9 => by rw [htab] at hx9; first | (cases hx9; done) | (simp [tableOf] at hx9; subst hx9; decide) | (simp [tableOf] at hx9; rcases hx9 with rfl | rfl <;> decide) | (simp [tableOf] at hx9; rcases hx9 with rfl | rfl | rfl <;> decide)) (show ((((((k + kk3) + kk5) + kk7) + kk9) + kk11) + kk13) + bc13 ≤ MC by omega) (show ((((((n + nn3) + nn5) + nn7) + nn9) + nn11) + nn13) + bs13 ≤ MS by omega) (hE.tr hEh12) hR hS hex hq
          · exact xb_pass hlocks (fun x hx9 => by rw [htab] at hx9; first | (cases hx9; done) | (simp [tableOf] at hx9; subst hx9; decide) | (simp [tableOf] at hx9; rcases hx9 with rfl | rfl <;> decide) | (simp [tableOf] at hx9; rcases hx9 with rfl | rfl | rfl <;> decide)) (show (((((k + kk3) + kk5) + kk7) + kk9) + kk11) + bc11 ≤ MC by omega) (show (((((n + nn3) + nn5) + nn7) + nn9) + nn11) + bs11 ≤ MS by omega) (hE.tr hEh10) hR hS hex hq
        · exact xb_pass hlocks (fun x hx9 => by rw [htab] at hx9; first | (cases hx9; done) | (simp [tableOf] at hx9; subst hx9; decide) | (simp [tableOf] at hx9; rcases hx9 with rfl | rfl <;> decide) | (simp [tableOf] at hx9; rcases hx9 with rfl | rfl | rfl <;> decide)) (show ((((k + kk3) + kk5) + kk7) + kk9) + bc9 ≤ MC by omega) (show ((((n + nn3) + nn5) + nn7) + nn9) + bs9 ≤ MS by omega) (hE.tr hEh8) hR hS hex hq
      · exact xb_pass hlocks (fun x hx9 => by rw [htab] at hx9; first | (cases hx9; done) | (simp [tableOf] at hx9; subst hx9; decide) | (simp [tableOf] at hx9; rcases hx9 with rfl | rfl <;> decide) | (simp [tableOf] at hx9; rcases hx9 with rfl | rfl | rfl <;> decide)) (show (((k + kk3) + kk5) + kk7) + bc7 ≤ MC by omega) (show (((n + nn3) + nn5) + nn7) + bs7 ≤ MS by omega) (hE.tr hEh6) hR hS hex hq
    · exact xb_pass hlocks (fun x hx9 => by rw [htab] at hx9; first | (cases hx9; done) | (simp [tableOf] at hx9; subst hx9; decide) | (simp [tableOf] at hx9; rcases hx9 with rfl | rfl <;> decide) | (simp [tableOf] at hx9; rcases hx9 with rfl | rfl | rfl <;> decide)) (show ((k + kk3) + kk5) + bc5 ≤ MC by omega) (show ((n + nn3) + nn5) + bs5 ≤ MS by omega) (hE.tr hEh4) hR hS hex hq
  · exact xb_pass hlocks (fun x hx9 => by rw [htab] at hx9; first | (cases hx9; done) | (simp [tableOf] at hx9; subst hx9; decide) | (simp [tableOf] at hx9; rcases hx9 with rfl | rfl <;> decide) | (simp [tableOf] at hx9; rcases hx9 with rfl | rfl | rfl <;> decide)) (show (k + kk3) + bc3 ≤ MC by omega) (show (n + nn3) + bs3 ≤ MS by omega) (hE.tr hEh2) hR hS hex hq

set_option maxHeartbeats 4000000 in
set_option maxRecDepth 100000 in
theorem ok_Checker_checkAll (l : Launch) (hfl : l.flags = pinnedFlags ++ [noTraceFlag]) (D : va_G) (A : Nat → Prop) (σ : Nat) (x0 : Nat) (x1 : Nat) (h : xb_H) (bc : Nat) (bs : Nat) (Qr : xb_H → Nat → Nat → Prop) (Qt : String → xb_H → Nat → Nat → Prop) (hw : w_Checker_checkAll x0 x1 h bc bs Qr Qt) : xb_Met l y_Checker_checkAll [.code y_Checker_checkAll b_Checker_checkAll 3 none] (xb_rm 8 bc bs) (xb_Pc D A σ h [.ref x0, .ref x1]) (xb_Qc D A h bc bs (fun v h bc bs => v = none ∧ Qr h bc bs) Qt) A := by
  refine xb_ofAm (cc := b_Checker_checkAll) (by decide) (Nat.le_of_ble_eq_true rfl) ?_
  unfold w_Checker_checkAll at hw
  show xb_am l D A σ 8 bc bs h (fun v h bc bs => v = none ∧ Qr h bc bs) Qt y_Checker_checkAll.cls y_Checker_checkAll.name b_Checker_checkAll 3 ([] : List ExceptionTableEntry) none 0 [(0, .ref x0), (1, .ref x1)] [] h bc bs
  obtain ⟨MC, hMC⟩ : ∃ x, x = bc := ⟨_, rfl⟩
  obtain ⟨MS, hMS⟩ : ∃ x, x = bs := ⟨_, rfl⟩
  rw [show xb_am l D A σ 8 bc bs = xb_am l D A σ 8 MC MS by rw [hMC, hMS]]
  obtain ⟨h0, hh0⟩ : ∃ x, x = h := ⟨_, rfl⟩
  rw [show xb_am l D A σ 8 MC MS h = xb_am l D A σ 8 MC MS h0 by rw [hh0]]
  intro p e s m args below meth c hC H locs ls k n hE hl hR hS hk hn
  obtain ⟨hx, hb, hown, hlocks, htab, hml, hr, hB, hA, hnm⟩ := id hC
  have hts := hB.1.1.at args
  refine lv_aload_n hx hb (xb_d D_Checker_checkAll 0 rfl) rfl (lv_at hl 0 rfl) ?_
  refine lv_aload_n hx hb (xb_d D_Checker_checkAll 1 rfl) rfl (lv_at hl 1 rfl) ?_
  obtain ⟨hk1, hw⟩ := hw
  refine xb_putP (C := R_Checker) (T := F_Checker) (N := 17) (ty := .object "StackHost$StackModule") (x := (some x1)) hx hb 4 0 hts fin_Checker t_Checker t_Checker_ok n_Checker hown hR hS hk1 (by decide) rfl (by decide) rfl (hts _ m_070795bc) (fun _ h9 => h9) rfl (by decide +kernel) (xb_pnO _ _).1 (xb_pnO _ _).2 (xb_d D_Checker_checkAll 2 rfl) (fun H locs hR hS => ?_)
  obtain ⟨h2, eh2⟩ : ∃ x : xb_H, x = xb_P h x0 0 (some x1) := ⟨_, rfl⟩
  rw [← eh2] at hR
  have hw := hw h2 eh2
  have hE : xb_ext h0 h2 := by rw [eh2]; exact hE
  refine lv_aload_n hx hb (xb_d D_Checker_checkAll 3 rfl) rfl (lv_at hl 0 rfl) ?_
  refine lv_aload_n hx hb (xb_d D_Checker_checkAll 4 rfl) rfl (lv_at hl 1 rfl) ?_
  obtain ⟨hk3, hw⟩ := hw
  refine xb_getP (C := R_StackModule) (T := F_StackModule) (N := 19) hx hb 2 0 hts fin_StackModule hown hR hk3 (by decide) rfl (by decide) rfl (hts _ m_12426e47) (fun _ h9 => h9) (xb_d D_Checker_checkAll 5 rfl) ?_
  obtain ⟨b4, eb4, hw⟩ := hw
  refine xb_some eb4 ?_
  have hk1 : xb_k h2 x0 = 5 := by rw [eh2]; exact hk1
  refine xb_putP (C := R_Checker) (T := F_Checker) (N := 17) (ty := .array .byte) (x := (some b4)) hx hb 4 1 hts fin_Checker t_Checker t_Checker_ok n_Checker hown hR hS hk1 (by decide) rfl (by decide) rfl (hts _ m_8db7c2eb) (fun _ h9 => h9) rfl (by decide +kernel) (xb_pnA _ _).1 (xb_pnA _ _).2 (xb_d D_Checker_checkAll 6 rfl) (fun H locs hR hS => ?_)
  obtain ⟨h5, eh5⟩ : ∃ x : xb_H, x = xb_P h2 x0 1 (some b4) := ⟨_, rfl⟩
  rw [← eh5] at hR
  have hw := hw h5 eh5
  have hE : xb_ext h0 h5 := by rw [eh5]; exact hE
  refine lv_aload_n hx hb (xb_d D_Checker_checkAll 7 rfl) rfl (lv_at hl 0 rfl) ?_
  refine lv_aload_n hx hb (xb_d D_Checker_checkAll 8 rfl) rfl (lv_at hl 1 rfl) ?_
  have hk3 : xb_k h5 x1 = 3 := by rw [eh5]; exact hk3
  refine xb_getP (C := R_StackModule) (T := F_StackModule) (N := 19) hx hb 2 1 hts fin_StackModule hown hR hk3 (by decide) rfl (by decide) rfl (hts _ m_527108a7) (fun _ h9 => h9) (xb_d D_Checker_checkAll 9 rfl) ?_
  obtain ⟨b6, eb6, hw⟩ := hw
  refine xb_some eb6 ?_
  have hk1 : xb_k h5 x0 = 5 := by rw [eh5]; exact hk1
  refine xb_putP (C := R_Checker) (T := F_Checker) (N := 17) (ty := .array .int) (x := (some b6)) hx hb 4 2 hts fin_Checker t_Checker t_Checker_ok n_Checker hown hR hS hk1 (by decide) rfl (by decide) rfl (hts _ m_b5ef1148) (fun _ h9 => h9) rfl (by decide +kernel) (xb_pnA _ _).1 (xb_pnA _ _).2 (xb_d D_Checker_checkAll 10 rfl) (fun H locs hR hS => ?_)
  obtain ⟨h7, eh7⟩ : ∃ x : xb_H, x = xb_P h5 x0 2 (some b6) := ⟨_, rfl⟩
  rw [← eh7] at hR
  have hw := hw h7 eh7
  have hE : xb_ext h0 h7 := by rw [eh7]; exact hE
  refine lv_aload_n hx hb (xb_d D_Checker_checkAll 11 rfl) rfl (lv_at hl 0 rfl) ?_
  have hk1 : xb_k h7 x0 = 5 := by rw [eh7]; exact hk1
  refine xb_getP (C := R_Checker) (T := F_Checker) (N := 17) hx hb 4 3 hts fin_Checker hown hR hk1 (by decide) rfl (by decide) rfl (hts _ m_9eace759) (fun _ h9 => h9) (xb_d D_Checker_checkAll 12 rfl) ?_
  obtain ⟨b8, eb8, hw⟩ := hw
  refine xb_some eb8 ?_
  obtain ⟨hk9, hw⟩ := hw
  refine xb_alen hx hb hR hk9 (by decide) (xb_d D_Checker_checkAll 13 rfl) ?_
  refine lv_aload_n hx hb (xb_d D_Checker_checkAll 14 rfl) rfl (lv_at hl 0 rfl) ?_
  refine xb_getP (C := R_Checker) (T := F_Checker) (N := 17) hx hb 4 1 hts fin_Checker hown hR hk1 (by decide) rfl (by decide) rfl (hts _ m_8db7c2eb) (fun _ h9 => h9) (xb_d D_Checker_checkAll 15 rfl) ?_
  obtain ⟨b10, eb10, hw⟩ := hw
  refine xb_some eb10 ?_
  obtain ⟨hk11, hw⟩ := hw
  refine xb_alen hx hb hR hk11 (by decide) (xb_d D_Checker_checkAll 16 rfl) ?_
  refine lv_icmp_gt (tgt := 47) hx hb (xb_d D_Checker_checkAll 17 rfl) rfl (fun hc12 => ?_) (fun hc12 => ?_)
  · have hw := hw.1 hc12
    exact am_Checker_checkAll_L47 l hfl D A σ MC MS h0 Qr Qt x0 h7 bc bs hw p e s m args below meth c hC H locs ls k n hE (lv_sub hl [0] rfl) hR hS (by omega) (by omega)
  · have hw := hw.2 hc12
    refine lv_aload_n hx hb (xb_d D_Checker_checkAll 18 rfl) rfl (lv_at hl 0 rfl) ?_
    refine lv_aload_n hx hb (xb_d D_Checker_checkAll 19 rfl) rfl (lv_at hl 0 rfl) ?_
    refine xb_getP (C := R_Checker) (T := F_Checker) (N := 17) hx hb 4 1 hts fin_Checker hown hR hk1 (by decide) rfl (by decide) rfl (hts _ m_8db7c2eb) (fun _ h9 => h9) (xb_d D_Checker_checkAll 20 rfl) ?_
    obtain ⟨b13, eb13, hw⟩ := hw
    refine xb_some eb13 ?_
    obtain ⟨hk14, hw⟩ := hw
    refine xb_alen hx hb hR hk14 (by decide) (xb_d D_Checker_checkAll 21 rfl) ?_
    refine lv_iconst (v := 1) hx hb (xb_d D_Checker_checkAll 22 rfl) (by decide) ?_
    refine lv_iadd hx hb (xb_d D_Checker_checkAll 23 rfl) ?_
    obtain ⟨hnq15, hbq15, hcq15, hsq15, hw⟩ := hw
    have enq15 : (Int32.toNatClampNeg ((nI (xb_n h7 b13)) + 1)) = (Int32.toNatClampNeg ((nI (xb_n h7 b13)) + 1)) := rfl
    refine xb_newa_b hx hb (hts _ m_2503b19f) hR hS hA hnq15 hbq15 (show k + 1 ≤ MC by omega) (show n + _ ≤ MS by rw [enq15]; omega) (xb_d D_Checker_checkAll 24 rfl) (fun q15 H hqq15 hR hS => ?_)
    rw [enq15] at hR ⊢
    have hw := hw q15 hqq15
    obtain ⟨h16, eh16⟩ : ∃ x : xb_H, x = xb_new h7 q15 100 (Int32.toNatClampNeg ((nI (xb_n h7 b13)) + 1)) := ⟨_, rfl⟩
    rw [← eh16] at hR
    have hw := hw h16 eh16
    have hE : xb_ext h0 h16 := by rw [eh16]; exact hE.new _ _ hqq15
    have hk17 : xb_k h16 q15 = 100 := by rw [eh16]; exact xb_new_k _ _ _ _
    have hk1 : xb_k h16 x0 = 5 := by rw [eh16]; exact xb_nk hqq15 hk1
    refine xb_putP (C := R_Checker) (T := F_Checker) (N := 17) (ty := .array .byte) (x := (some q15)) hx hb 4 3 hts fin_Checker t_Checker t_Checker_ok n_Checker hown hR hS hk1 (by decide) rfl (by decide) rfl (hts _ m_9eace759) (fun _ h9 => h9) rfl (by decide +kernel) (xb_pnA _ _).1 (xb_pnA _ _).2 (xb_d D_Checker_checkAll 25 rfl) (fun H locs hR hS => ?_)
    obtain ⟨h18, eh18⟩ : ∃ x : xb_H, x = xb_P h16 x0 3 (some q15) := ⟨_, rfl⟩
    rw [← eh18] at hR
    have hw := hw h18 eh18
    have hE : xb_ext h0 h18 := by rw [eh18]; exact hE
    exact am_Checker_checkAll_L47 l hfl D A σ MC MS h0 Qr Qt x0 h18 (bc - 1) (bs - (Int32.toNatClampNeg ((nI (xb_n h7 b13)) + 1))) hw p e s m args below meth c hC H locs ls (k + 1) (n + (Int32.toNatClampNeg ((nI (xb_n h7 b13)) + 1))) hE (lv_sub hl [0] rfl) hR hS (by omega) (by omega)

theorem m_02d4ff05 : (.methodLink "StackHost$Machine" 223 y_Machine_control : Cond) ∈ xt_tbl := xt_in (xt_t9 (List.mem_of_getElem? (i := 5) (by decide +kernel))) (by decide +kernel)
theorem m_edffe6df : (.instanceMethod y_Machine_control : Cond) ∈ xt_tbl := xt_in (xt_t9 (List.mem_of_getElem? (i := 7) (by decide +kernel))) (by decide +kernel)
theorem m_40d82715 : (.selects "StackHost$Machine" y_Machine_control y_Machine_control : Cond) ∈ xt_tbl := xt_in (xt_v8 (q := (⟨"StackHost$Machine", "control", "(I)V"⟩, 18)) (List.mem_of_getElem? (i := 11) (by decide +kernel))) (by decide +kernel)
theorem m_a4da8ace : (.code y_Machine_control b_Machine_control 3 none : Cond) ∈ xt_tbl := xt_in (xt_t9 (List.mem_of_getElem? (i := 8) (by decide +kernel))) (by decide +kernel)
theorem m_5186b176 : (.methodLink "StackHost$Machine" 220 y_Machine_useNamed : Cond) ∈ xt_tbl := xt_in (xt_t9 (List.mem_of_getElem? (i := 0) (by decide +kernel))) (by decide +kernel)
theorem m_77dd8d47 : (.instanceMethod y_Machine_useNamed : Cond) ∈ xt_tbl := xt_in (xt_t9 (List.mem_of_getElem? (i := 2) (by decide +kernel))) (by decide +kernel)
theorem m_b73e8bb0 : (.selects "StackHost$Machine" y_Machine_useNamed y_Machine_useNamed : Cond) ∈ xt_tbl := xt_in (xt_v8 (q := (⟨"StackHost$Machine", "useNamed", "(I)V"⟩, 18)) (List.mem_of_getElem? (i := 10) (by decide +kernel))) (by decide +kernel)
theorem m_619ecbba : (.code y_Machine_useNamed b_Machine_useNamed 3 none : Cond) ∈ xt_tbl := xt_in (xt_t9 (List.mem_of_getElem? (i := 3) (by decide +kernel))) (by decide +kernel)
theorem m_52bee0ff : (.methodLink "StackHost$Machine" 217 y_Machine_useMemory : Cond) ∈ xt_tbl := xt_in (xt_t8 (List.mem_of_getElem? (i := 218) (by decide +kernel))) (by decide +kernel)
theorem m_0c776cd9 : (.instanceMethod y_Machine_useMemory : Cond) ∈ xt_tbl := xt_in (xt_t8 (List.mem_of_getElem? (i := 220) (by decide +kernel))) (by decide +kernel)
theorem m_54520fd0 : (.selects "StackHost$Machine" y_Machine_useMemory y_Machine_useMemory : Cond) ∈ xt_tbl := xt_in (xt_v8 (q := (⟨"StackHost$Machine", "useMemory", "(I)V"⟩, 18)) (List.mem_of_getElem? (i := 9) (by decide +kernel))) (by decide +kernel)
theorem m_35558221 : (.code y_Machine_useMemory b_Machine_useMemory 9 none : Cond) ∈ xt_tbl := xt_in (xt_t8 (List.mem_of_getElem? (i := 221) (by decide +kernel))) (by decide +kernel)
theorem m_74f96eb9 : (.methodLink "StackHost$Machine" 214 y_Machine_sizeMemory : Cond) ∈ xt_tbl := xt_in (xt_t8 (List.mem_of_getElem? (i := 213) (by decide +kernel))) (by decide +kernel)
theorem m_370729f6 : (.instanceMethod y_Machine_sizeMemory : Cond) ∈ xt_tbl := xt_in (xt_t8 (List.mem_of_getElem? (i := 215) (by decide +kernel))) (by decide +kernel)
theorem m_ad194adf : (.selects "StackHost$Machine" y_Machine_sizeMemory y_Machine_sizeMemory : Cond) ∈ xt_tbl := xt_in (xt_v8 (q := (⟨"StackHost$Machine", "sizeMemory", "(I)V"⟩, 18)) (List.mem_of_getElem? (i := 8) (by decide +kernel))) (by decide +kernel)
theorem m_2d25fcdd : (.code y_Machine_sizeMemory b_Machine_sizeMemory 2 none : Cond) ∈ xt_tbl := xt_in (xt_t8 (List.mem_of_getElem? (i := 216) (by decide +kernel))) (by decide +kernel)
theorem m_db21e659 : (.methodLink "StackHost$Machine" 210 y_StackModule_constantAt : Cond) ∈ xt_tbl := xt_in (xt_t8 (List.mem_of_getElem? (i := 212) (by decide +kernel))) (by decide +kernel)
theorem m_5cd21231 : (.methodLink "StackHost$Machine" 207 y_Machine_reckonWhole : Cond) ∈ xt_tbl := xt_in (xt_t8 (List.mem_of_getElem? (i := 144) (by decide +kernel))) (by decide +kernel)
theorem m_3c9378a4 : (.instanceMethod y_Machine_reckonWhole : Cond) ∈ xt_tbl := xt_in (xt_t8 (List.mem_of_getElem? (i := 146) (by decide +kernel))) (by decide +kernel)
theorem m_49400823 : (.selects "StackHost$Machine" y_Machine_reckonWhole y_Machine_reckonWhole : Cond) ∈ xt_tbl := xt_in (xt_v8 (q := (⟨"StackHost$Machine", "reckonWhole", "(I)V"⟩, 18)) (List.mem_of_getElem? (i := 4) (by decide +kernel))) (by decide +kernel)
theorem m_eea792a8 : (.code y_Machine_reckonWhole b_Machine_reckonWhole 2 none : Cond) ∈ xt_tbl := xt_in (xt_t8 (List.mem_of_getElem? (i := 147) (by decide +kernel))) (by decide +kernel)
theorem m_20fd797c : (.methodLink "StackHost$Machine" 204 y_Machine_reckonFloating : Cond) ∈ xt_tbl := xt_in (xt_t8 (List.mem_of_getElem? (i := 82) (by decide +kernel))) (by decide +kernel)
theorem m_2faf23ec : (.instanceMethod y_Machine_reckonFloating : Cond) ∈ xt_tbl := xt_in (xt_t8 (List.mem_of_getElem? (i := 84) (by decide +kernel))) (by decide +kernel)
theorem m_542fcffc : (.selects "StackHost$Machine" y_Machine_reckonFloating y_Machine_reckonFloating : Cond) ∈ xt_tbl := xt_in (xt_v7 (q := (⟨"StackHost$Machine", "reckonFloating", "(I)V"⟩, 18)) (List.mem_of_getElem? (i := 9) (by decide +kernel))) (by decide +kernel)
theorem m_76f0ef1a : (.code y_Machine_reckonFloating b_Machine_reckonFloating 5 none : Cond) ∈ xt_tbl := xt_in (xt_t8 (List.mem_of_getElem? (i := 85) (by decide +kernel))) (by decide +kernel)
theorem m_4f9a0675 : (.methodLink "StackHost$Machine" 201 y_Machine_convert : Cond) ∈ xt_tbl := xt_in (xt_t8 (List.mem_of_getElem? (i := 12) (by decide +kernel))) (by decide +kernel)
theorem m_5dd650a3 : (.instanceMethod y_Machine_convert : Cond) ∈ xt_tbl := xt_in (xt_t8 (List.mem_of_getElem? (i := 14) (by decide +kernel))) (by decide +kernel)
theorem m_effb3973 : (.selects "StackHost$Machine" y_Machine_convert y_Machine_convert : Cond) ∈ xt_tbl := xt_in (xt_v6 (q := (⟨"StackHost$Machine", "convert", "(I)V"⟩, 18)) (List.mem_of_getElem? (i := 14) (by decide +kernel))) (by decide +kernel)
theorem m_7902188e : (.code y_Machine_convert b_Machine_convert 4 none : Cond) ∈ xt_tbl := xt_in (xt_t8 (List.mem_of_getElem? (i := 15) (by decide +kernel))) (by decide +kernel)
theorem nm_Machine_control : xt_nm y_Machine_control 1 := ⟨by decide +kernel, by decide +kernel⟩
theorem nm_Machine_useNamed : xt_nm y_Machine_useNamed 1 := ⟨by decide +kernel, by decide +kernel⟩
theorem nm_Machine_useMemory : xt_nm y_Machine_useMemory 1 := ⟨by decide +kernel, by decide +kernel⟩
theorem nm_Machine_sizeMemory : xt_nm y_Machine_sizeMemory 1 := ⟨by decide +kernel, by decide +kernel⟩
theorem nm_Machine_reckonWhole : xt_nm y_Machine_reckonWhole 1 := ⟨by decide +kernel, by decide +kernel⟩
theorem nm_Machine_reckonFloating : xt_nm y_Machine_reckonFloating 1 := ⟨by decide +kernel, by decide +kernel⟩
theorem nm_Machine_convert : xt_nm y_Machine_convert 1 := ⟨by decide +kernel, by decide +kernel⟩
set_option maxRecDepth 100000 in
def T_Machine_step : List (Nat × Instr × Nat) := [(0, .aload_n 0, 1), (1, .getfield 104, 3), (4, .aload_n 0, 1), (5, .getfield 108, 3), (8, .baload, 1), (9, .sipush 255, 3), (12, .iand, 1), (13, .istore_n 1, 1), (14, .iload_n 1, 1), (15, .sipush 167, 3), (18, .if_icmp .lt 21, 3), (21, .aload_n 0, 1), (22, .iload_n 1, 1), (23, .invokevirtual 201, 3), (26, .aload_n 0, 1), (27, .dup, 1), (28, .getfield 108, 3), (31, .iconst 1, 1), (32, .iadd, 1), (33, .putfield 108, 3), (36, .goto 152, 3), (39, .iload_n 1, 1), (40, .sipush 139, 3), (43, .if_icmp .lt 21, 3), (46, .aload_n 0, 1), (47, .iload_n 1, 1), (48, .invokevirtual 204, 3), (51, .aload_n 0, 1), (52, .dup, 1), (53, .getfield 108, 3), (56, .iconst 1, 1), (57, .iadd, 1), (58, .putfield 108, 3), (61, .goto 127, 3), (64, .iload_n 1, 1), (65, .bipush 69, 2), (67, .if_icmp .lt 21, 3), (70, .aload_n 0, 1), (71, .iload_n 1, 1), (72, .invokevirtual 207, 3), (75, .aload_n 0, 1), (76, .dup, 1), (77, .getfield 108, 3), (80, .iconst 1, 1), (81, .iadd, 1), (82, .putfield 108, 3), (85, .goto 103, 3), (88, .iload_n 1, 1), (89, .bipush 65, 2), (91, .if_icmp .lt 37, 3), (94, .aload_n 0, 1), (95, .aload_n 0, 1), (96, .getfield 117, 3), (99, .getfield 139, 3), (102, .aload_n 0, 1), (103, .getfield 108, 3), (106, .invokevirtual 210, 3), (109, .invokevirtual 198, 3), (112, .aload_n 0, 1), (113, .aload_n 0, 1), (114, .getfield 111, 3), (117, .aload_n 0, 1), (118, .getfield 108, 3), (121, .iaload, 1), (122, .putfield 108, 3), (125, .goto 63, 3), (128, .iload_n 1, 1), (129, .bipush 63, 2), (131, .if_icmp .lt 11, 3), (134, .aload_n 0, 1), (135, .iload_n 1, 1), (136, .invokevirtual 214, 3), (139, .goto 49, 3), (142, .iload_n 1, 1), (143, .bipush 40, 2), (145, .if_icmp .lt 11, 3), (148, .aload_n 0, 1), (149, .iload_n 1, 1), (150, .invokevirtual 217, 3), (153, .goto 35, 3), (156, .iload_n 1, 1), (157, .bipush 32, 2), (159, .if_icmp .lt 24, 3), (162, .aload_n 0, 1), (163, .iload_n 1, 1), (164, .invokevirtual 220, 3), (167, .aload_n 0, 1), (168, .aload_n 0, 1), (169, .getfield 111, 3), (172, .aload_n 0, 1), (173, .getfield 108, 3), (176, .iaload, 1), (177, .putfield 108, 3), (180, .goto 8, 3), (183, .aload_n 0, 1), (184, .iload_n 1, 1), (185, .invokevirtual 223, 3), (188, .return_, 1)]
theorem D_Machine_step : ∀ q ∈ T_Machine_step, decode b_Machine_step q.1 = .ok (q.2.1, q.2.2) := by decide +kernel

set_option maxHeartbeats 4000000 in
set_option maxRecDepth 100000 in
theorem am_Machine_step_L188 (l : Launch) (hfl : l.flags = pinnedFlags ++ [noTraceFlag]) (D : va_G) (A : Nat → Prop) (σ MC MS : Nat) (h0 : xb_H) (Qr : xb_H → Nat → Nat → Prop) (h : xb_H) (bc : Nat) (bs : Nat) (hw : w_Machine_step_L188 Qr h bc bs) : xb_am l D A σ 8 MC MS h0 (fun v h bc bs => v = none ∧ Qr h bc bs) (fun _ _ _ _ => False) y_Machine_step.cls y_Machine_step.name b_Machine_step 2 ([] : List ExceptionTableEntry) none 188 [] [] h bc bs := by
  unfold w_Machine_step_L188 at hw
  intro p e s m args below meth c hC H locs ls k n hE hl hR hS hk hn
  obtain ⟨hx, hb, hown, hlocks, htab, hml, hr, hB, hA, hnm⟩ := id hC
  have hts := hB.1.1.at args
  exact xb_vret bc bs hx hb hr hlocks (show k + bc ≤ MC by omega) (show n + bs ≤ MS by omega) hE hR hS (xb_d D_Machine_step 97 rfl) hw

set_option maxHeartbeats 4000000 in
set_option maxRecDepth 100000 in
theorem ok_Machine_step (l : Launch) (hfl : l.flags = pinnedFlags ++ [noTraceFlag]) (D : va_G) (A : Nat → Prop) (σ : Nat) (x0 : Nat) (h : xb_H) (bc : Nat) (bs : Nat) (Qr : xb_H → Nat → Nat → Prop) (hw : w_Machine_step x0 h bc bs Qr) : xb_Met l y_Machine_step [.code y_Machine_step b_Machine_step 2 none] (xb_rm 8 bc bs) (xb_Pc D A σ h [.ref x0]) (xb_Qc D A h bc bs (fun v h bc bs => v = none ∧ Qr h bc bs) (fun _ _ _ _ => False)) A := by
  refine xb_ofAm (cc := b_Machine_step) (by decide) (Nat.le_of_ble_eq_true rfl) ?_
  unfold w_Machine_step at hw
  show xb_am l D A σ 8 bc bs h (fun v h bc bs => v = none ∧ Qr h bc bs) (fun _ _ _ _ => False) y_Machine_step.cls y_Machine_step.name b_Machine_step 2 ([] : List ExceptionTableEntry) none 0 [(0, .ref x0)] [] h bc bs
  obtain ⟨MC, hMC⟩ : ∃ x, x = bc := ⟨_, rfl⟩
  obtain ⟨MS, hMS⟩ : ∃ x, x = bs := ⟨_, rfl⟩
  rw [show xb_am l D A σ 8 bc bs = xb_am l D A σ 8 MC MS by rw [hMC, hMS]]
  obtain ⟨h0, hh0⟩ : ∃ x, x = h := ⟨_, rfl⟩
  rw [show xb_am l D A σ 8 MC MS h = xb_am l D A σ 8 MC MS h0 by rw [hh0]]
  intro p e s m args below meth c hC H locs ls k n hE hl hR hS hk hn
  obtain ⟨hx, hb, hown, hlocks, htab, hml, hr, hB, hA, hnm⟩ := id hC
  have hts := hB.1.1.at args
  refine lv_aload_n hx hb (xb_d D_Machine_step 0 rfl) rfl (lv_at hl 0 rfl) ?_
  obtain ⟨hk1, hw⟩ := hw
  refine xb_getP (C := R_Machine) (T := F_Machine) (N := 18) hx hb 7 13 hts fin_Machine hown hR hk1 (by decide) rfl (by decide) rfl (hts _ m_a6a0f666) (fun _ h9 => h9) (xb_d D_Machine_step 1 rfl) ?_
  obtain ⟨b2, eb2, hw⟩ := hw
  refine xb_some eb2 ?_
  refine lv_aload_n hx hb (xb_d D_Machine_step 2 rfl) rfl (lv_at hl 0 rfl) ?_
  refine xb_getI (C := R_Machine) (T := F_Machine) (N := 18) hx hb 7 15 hts fin_Machine hown hR hk1 (by decide) rfl (by decide) rfl (hts _ m_6a595805) (fun _ h9 => h9) (xb_d D_Machine_step 3 rfl) ?_
  obtain ⟨hk4, hw⟩ := hw
  obtain ⟨hi3, hw⟩ := hw
  refine xb_bald hx hb hR hk4 hi3 (xb_d D_Machine_step 4 rfl) ?_
  refine lv_sipush (v := 255) hx hb (xb_d D_Machine_step 5 rfl) (by decide) ?_
  refine lv_iand hx hb (xb_d D_Machine_step 6 rfl) ?_
  obtain ⟨v5, ev5⟩ : ∃ x : Int32, x = ((xb_i h b2 (Int32.toNatClampNeg (xb_i h x0 15))) &&& 255) := ⟨_, rfl⟩
  have hw := hw v5 ev5
  refine xt_numi (y := v5) ev5.symm ?_
  refine lv_istore_n hx hb (xb_d D_Machine_step 7 rfl) rfl hl (by decide) rfl (fun ls hl => ?_)
  have hl : lv_has ls 2 [(1, .int v5), (0, .ref x0)] := hl
  refine lv_iload_n hx hb (xb_d D_Machine_step 8 rfl) rfl (lv_at hl 0 rfl) ?_
  refine lv_sipush (v := 167) hx hb (xb_d D_Machine_step 9 rfl) (by decide) ?_
  refine lv_icmp_lt (tgt := 39) hx hb (xb_d D_Machine_step 10 rfl) rfl (fun hc6 => ?_) (fun hc6 => ?_)
  · have hw := hw.1 hc6
    refine lv_iload_n hx hb (xb_d D_Machine_step 21 rfl) rfl (lv_at hl 0 rfl) ?_
    refine lv_sipush (v := 139) hx hb (xb_d D_Machine_step 22 rfl) (by decide) ?_
    refine lv_icmp_lt (tgt := 64) hx hb (xb_d D_Machine_step 23 rfl) rfl (fun hc7 => ?_) (fun hc7 => ?_)
    · have hw := hw.1 hc7
      refine lv_iload_n hx hb (xb_d D_Machine_step 34 rfl) rfl (lv_at hl 0 rfl) ?_
      refine lv_bipush (v := 69) hx hb (xb_d D_Machine_step 35 rfl) (by decide) ?_
      refine lv_icmp_lt (tgt := 88) hx hb (xb_d D_Machine_step 36 rfl) rfl (fun hc8 => ?_) (fun hc8 => ?_)
      · have hw := hw.1 hc8
        refine lv_iload_n hx hb (xb_d D_Machine_step 47 rfl) rfl (lv_at hl 0 rfl) ?_
        refine lv_bipush (v := 65) hx hb (xb_d D_Machine_step 48 rfl) (by decide) ?_
        refine lv_icmp_lt (tgt := 128) hx hb (xb_d D_Machine_step 49 rfl) rfl (fun hc9 => ?_) (fun hc9 => ?_)
        · have hw := hw.1 hc9
          refine lv_iload_n hx hb (xb_d D_Machine_step 66 rfl) rfl (lv_at hl 0 rfl) ?_
          refine lv_bipush (v := 63) hx hb (xb_d D_Machine_step 67 rfl) (by decide) ?_
          refine lv_icmp_lt (tgt := 142) hx hb (xb_d D_Machine_step 68 rfl) rfl (fun hc10 => ?_) (fun hc10 => ?_)
          · have hw := hw.1 hc10
            refine lv_iload_n hx hb (xb_d D_Machine_step 73 rfl) rfl (lv_at hl 0 rfl) ?_
            refine lv_bipush (v := 40) hx hb (xb_d D_Machine_step 74 rfl) (by decide) ?_
            refine lv_icmp_lt (tgt := 156) hx hb (xb_d D_Machine_step 75 rfl) rfl (fun hc11 => ?_) (fun hc11 => ?_)
            · have hw := hw.1 hc11
              refine lv_iload_n hx hb (xb_d D_Machine_step 80 rfl) rfl (lv_at hl 0 rfl) ?_
              refine lv_bipush (v := 32) hx hb (xb_d D_Machine_step 81 rfl) (by decide) ?_
              refine lv_icmp_lt (tgt := 183) hx hb (xb_d D_Machine_step 82 rfl) rfl (fun hc12 => ?_) (fun hc12 => ?_)
              · have hw := hw.1 hc12
                refine lv_aload_n hx hb (xb_d D_Machine_step 94 rfl) rfl (lv_at hl 1 rfl) ?_
                refine lv_iload_n hx hb (xb_d D_Machine_step 95 rfl) rfl (lv_at hl 0 rfl) ?_
                refine xb_call (D := D) (A := A) (σ := σ) (h := h) (d := 7) (mc := bc) (ms := bs) (maxL := 3) (rest := []) (av := [.ref x0, .int v5]) (fun T hT X => by obtain ⟨cb9, ra9, rb9, rc9⟩ := xb_recv (ci := 7) hR rfl hk1 (by decide); exact xt_invV X hx hown (hts _ m_02d4ff05) (hts _ m_edffe6df) (hts _ m_40d82715) (xt_sigOf (hts _ m_a4da8ace)) nm_Machine_control (by rw [hT]; exact ra9) rb9 rc9 (g := F0 m 185 ls [.int v5, .ref x0]) rfl (argsL := [.int v5]) (rest := []) rfl rfl (by rw [hb]; exact (xb_d D_Machine_step 96 rfl))) (ok_Machine_control l hfl D A σ x0 v5 h bc bs _ hw) (hml.trans hl.1.symm) (by rw [hb]; exact (xb_d D_Machine_step 96 rfl)) (Nat.le_of_ble_eq_true rfl) (Nat.le_of_ble_eq_true rfl) (Nat.le_of_ble_eq_true rfl) (show k + bc ≤ MC by omega) (show n + bs ≤ MS by omega) (xt_w1 hB.1 m_a4da8ace) (xt_cdOf hB.1 m_a4da8ace) (hts _ m_73451f9b) hB hR hS hA (fun vv h13 bc14 bs14 kk14 nn14 H locs hk14 hn14 hq hEh13 hR hS => ?_) (fun XX ax h13 bc14 bs14 kk14 nn14 H locs hk14 hn14 hq hEh13 hex hR hS => ?_)
                · obtain ⟨rfl, hw⟩ := hq
                  have hw := hw hEh13
                  have hE := hE.tr hEh13
                  refine W.eq (g2 := F0 m 188 ls []) rfl ?_
                  exact am_Machine_step_L188 l hfl D A σ MC MS h0 Qr h13 bc14 bs14 hw p e s m args below meth c hC H locs ls (k + kk14) (n + nn14) hE (lv_sub hl [] rfl) hR hS (by omega) (by omega)
                · exact False.elim hq
              · have hw := hw.2 hc12
                refine lv_aload_n hx hb (xb_d D_Machine_step 83 rfl) rfl (lv_at hl 1 rfl) ?_
                refine lv_iload_n hx hb (xb_d D_Machine_step 84 rfl) rfl (lv_at hl 0 rfl) ?_
                refine xb_call0 (D := D) (A := A) (σ := σ) (h := h) (d := 3) (maxL := 3) (rest := []) (av := [.ref x0, .int v5]) (fun T hT X => by obtain ⟨cb9, ra9, rb9, rc9⟩ := xb_recv (ci := 7) hR rfl hk1 (by decide); exact xt_invV X hx hown (hts _ m_5186b176) (hts _ m_77dd8d47) (hts _ m_b73e8bb0) (xt_sigOf (hts _ m_619ecbba)) nm_Machine_useNamed (by rw [hT]; exact ra9) rb9 rc9 (g := F0 m 164 ls [.int v5, .ref x0]) rfl (argsL := [.int v5]) (rest := []) rfl rfl (by rw [hb]; exact (xb_d D_Machine_step 85 rfl))) (ok_Machine_useNamed l hfl D A σ x0 v5 h _ hw) (hml.trans hl.1.symm) (by rw [hb]; exact (xb_d D_Machine_step 85 rfl)) (Nat.le_of_ble_eq_true rfl) (Nat.le_of_ble_eq_true rfl) (Nat.le_of_ble_eq_true rfl) (show k ≤ MC by omega) (show n ≤ MS by omega) (xt_w1 hB.1 m_619ecbba) (xt_cdOf hB.1 m_619ecbba) (hts _ m_73451f9b) hB hR hS hA (fun vv h15 H locs hq hEh15 hR hS => ?_)
                obtain ⟨rfl, hw⟩ := hq
                have hw := hw hEh15
                have hE := hE.tr hEh15
                refine W.eq (g2 := F0 m 167 ls []) rfl ?_
                refine lv_aload_n hx hb (xb_d D_Machine_step 86 rfl) rfl (lv_at hl 1 rfl) ?_
                refine lv_aload_n hx hb (xb_d D_Machine_step 87 rfl) rfl (lv_at hl 1 rfl) ?_
                have hk1 : xb_k h15 x0 = 8 := hEh15.k hk1
                refine xb_getP (C := R_Machine) (T := F_Machine) (N := 18) hx hb 7 14 hts fin_Machine hown hR hk1 (by decide) rfl (by decide) rfl (hts _ m_8f763f86) (fun _ h9 => h9) (xb_d D_Machine_step 88 rfl) ?_
                obtain ⟨b17, eb17, hw⟩ := hw
                refine xb_some eb17 ?_
                refine lv_aload_n hx hb (xb_d D_Machine_step 89 rfl) rfl (lv_at hl 1 rfl) ?_
                refine xb_getI (C := R_Machine) (T := F_Machine) (N := 18) hx hb 7 15 hts fin_Machine hown hR hk1 (by decide) rfl (by decide) rfl (hts _ m_6a595805) (fun _ h9 => h9) (xb_d D_Machine_step 90 rfl) ?_
                obtain ⟨hk19, hw⟩ := hw
                obtain ⟨hi18, hw⟩ := hw
                refine xb_iald hx hb hR hk19 hi18 (xb_d D_Machine_step 91 rfl) ?_
                refine xb_putI (C := R_Machine) (T := F_Machine) (N := 18) (ty := .int) (x := (xb_i h15 b17 (Int32.toNatClampNeg (xb_i h15 x0 15)))) hx hb 7 15 hts fin_Machine t_Machine t_Machine_ok n_Machine hown hR hS hk1 (by decide) rfl (by decide) rfl (hts _ m_6a595805) (fun _ h9 => h9) rfl (by decide +kernel) rfl rfl (xb_d D_Machine_step 92 rfl) (fun H locs hR hS => ?_)
                obtain ⟨h20, eh20⟩ : ∃ x : xb_H, x = xb_I h15 x0 15 (xb_i h15 b17 (Int32.toNatClampNeg (xb_i h15 x0 15))) := ⟨_, rfl⟩
                rw [← eh20] at hR
                have hw := hw h20 eh20
                have hE : xb_ext h0 h20 := by rw [eh20]; exact hE
                refine lv_goto (tgt := 188) hx hb (xb_d D_Machine_step 93 rfl) rfl ?_
                exact am_Machine_step_L188 l hfl D A σ MC MS h0 Qr h20 bc bs hw p e s m args below meth c hC H locs ls k n hE (lv_sub hl [] rfl) hR hS (by omega) (by omega)
            · have hw := hw.2 hc11
              refine lv_aload_n hx hb (xb_d D_Machine_step 76 rfl) rfl (lv_at hl 1 rfl) ?_
              refine lv_iload_n hx hb (xb_d D_Machine_step 77 rfl) rfl (lv_at hl 0 rfl) ?_
              refine xb_call0 (D := D) (A := A) (σ := σ) (h := h) (d := 5) (maxL := 9) (rest := []) (av := [.ref x0, .int v5]) (fun T hT X => by obtain ⟨cb9, ra9, rb9, rc9⟩ := xb_recv (ci := 7) hR rfl hk1 (by decide); exact xt_invV X hx hown (hts _ m_52bee0ff) (hts _ m_0c776cd9) (hts _ m_54520fd0) (xt_sigOf (hts _ m_35558221)) nm_Machine_useMemory (by rw [hT]; exact ra9) rb9 rc9 (g := F0 m 150 ls [.int v5, .ref x0]) rfl (argsL := [.int v5]) (rest := []) rfl rfl (by rw [hb]; exact (xb_d D_Machine_step 78 rfl))) (ok_Machine_useMemory l hfl D A σ x0 v5 h _ hw) (hml.trans hl.1.symm) (by rw [hb]; exact (xb_d D_Machine_step 78 rfl)) (Nat.le_of_ble_eq_true rfl) (Nat.le_of_ble_eq_true rfl) (Nat.le_of_ble_eq_true rfl) (show k ≤ MC by omega) (show n ≤ MS by omega) (xt_w1 hB.1 m_35558221) (xt_cdOf hB.1 m_35558221) (hts _ m_73451f9b) hB hR hS hA (fun vv h21 H locs hq hEh21 hR hS => ?_)
              obtain ⟨rfl, hw⟩ := hq
              have hw := hw hEh21
              have hE := hE.tr hEh21
              refine W.eq (g2 := F0 m 153 ls []) rfl ?_
              refine lv_goto (tgt := 188) hx hb (xb_d D_Machine_step 79 rfl) rfl ?_
              exact am_Machine_step_L188 l hfl D A σ MC MS h0 Qr h21 bc bs hw p e s m args below meth c hC H locs ls k n hE (lv_sub hl [] rfl) hR hS (by omega) (by omega)
          · have hw := hw.2 hc10
            refine lv_aload_n hx hb (xb_d D_Machine_step 69 rfl) rfl (lv_at hl 1 rfl) ?_
            refine lv_iload_n hx hb (xb_d D_Machine_step 70 rfl) rfl (lv_at hl 0 rfl) ?_
            refine xb_call (D := D) (A := A) (σ := σ) (h := h) (d := 6) (mc := bc) (ms := bs) (maxL := 2) (rest := []) (av := [.ref x0, .int v5]) (fun T hT X => by obtain ⟨cb9, ra9, rb9, rc9⟩ := xb_recv (ci := 7) hR rfl hk1 (by decide); exact xt_invV X hx hown (hts _ m_74f96eb9) (hts _ m_370729f6) (hts _ m_ad194adf) (xt_sigOf (hts _ m_2d25fcdd)) nm_Machine_sizeMemory (by rw [hT]; exact ra9) rb9 rc9 (g := F0 m 136 ls [.int v5, .ref x0]) rfl (argsL := [.int v5]) (rest := []) rfl rfl (by rw [hb]; exact (xb_d D_Machine_step 71 rfl))) (ok_Machine_sizeMemory l hfl D A σ x0 v5 h bc bs _ hw) (hml.trans hl.1.symm) (by rw [hb]; exact (xb_d D_Machine_step 71 rfl)) (Nat.le_of_ble_eq_true rfl) (Nat.le_of_ble_eq_true rfl) (Nat.le_of_ble_eq_true rfl) (show k + bc ≤ MC by omega) (show n + bs ≤ MS by omega) (xt_w1 hB.1 m_2d25fcdd) (xt_cdOf hB.1 m_2d25fcdd) (hts _ m_73451f9b) hB hR hS hA (fun vv h23 bc24 bs24 kk24 nn24 H locs hk24 hn24 hq hEh23 hR hS => ?_) (fun XX ax h23 bc24 bs24 kk24 nn24 H locs hk24 hn24 hq hEh23 hex hR hS => ?_)
            · obtain ⟨rfl, hw⟩ := hq
              have hw := hw hEh23
              have hE := hE.tr hEh23
              refine W.eq (g2 := F0 m 139 ls []) rfl ?_
              refine lv_goto (tgt := 188) hx hb (xb_d D_Machine_step 72 rfl) rfl ?_
              exact am_Machine_step_L188 l hfl D A σ MC MS h0 Qr h23 bc24 bs24 hw p e s m args below meth c hC H locs ls (k + kk24) (n + nn24) hE (lv_sub hl [] rfl) hR hS (by omega) (by omega)
            · exact False.elim hq
        · have hw := hw.2 hc9
          refine lv_aload_n hx hb (xb_d D_Machine_step 50 rfl) rfl (lv_at hl 1 rfl) ?_
          refine lv_aload_n hx hb (xb_d D_Machine_step 51 rfl) rfl (lv_at hl 1 rfl) ?_
          refine xb_getP (C := R_Machine) (T := F_Machine) (N := 18) hx hb 7 12 hts fin_Machine hown hR hk1 (by decide) rfl (by decide) rfl (hts _ m_a347cb26) (fun _ h9 => h9) (xb_d D_Machine_step 52 rfl) ?_
          obtain ⟨b25, eb25, hw⟩ := hw
          refine xb_some eb25 ?_
          obtain ⟨hk26, hw⟩ := hw
          refine xb_getP (C := R_Instance) (T := F_Instance) (N := 8) hx hb 10 1 hts fin_Instance hown hR hk26 (by decide) rfl (by decide) rfl (hts _ m_142b55ed) (fun _ h9 => h9) (xb_d D_Machine_step 53 rfl) ?_
          obtain ⟨b27, eb27, hw⟩ := hw
          refine xb_some eb27 ?_
          refine lv_aload_n hx hb (xb_d D_Machine_step 54 rfl) rfl (lv_at hl 1 rfl) ?_
          refine xb_getI (C := R_Machine) (T := F_Machine) (N := 18) hx hb 7 15 hts fin_Machine hown hR hk1 (by decide) rfl (by decide) rfl (hts _ m_6a595805) (fun _ h9 => h9) (xb_d D_Machine_step 55 rfl) ?_
          obtain ⟨hk28, hw⟩ := hw
          refine xb_call0 (D := D) (A := A) (σ := σ) (h := h) (d := 2) (maxL := 3) (rest := [.ref x0]) (av := [.ref b27, .int (xb_i h x0 15)]) (fun T hT X => by obtain ⟨cb9, ra9, rb9, rc9⟩ := xb_recv (ci := 2) hR rfl hk28 (by decide); exact xt_invV X hx hown (hts _ m_db21e659) (hts _ m_dc97d6c5) (hts _ m_351140f1) (xt_sigOf (hts _ m_7a46ed9e)) nm_StackModule_constantAt (by rw [hT]; exact ra9) rb9 rc9 (g := F0 m 106 ls [.int (xb_i h x0 15), .ref b27, .ref x0]) rfl (argsL := [.int (xb_i h x0 15)]) (rest := [.ref x0]) rfl rfl (by rw [hb]; exact (xb_d D_Machine_step 56 rfl))) (ok_StackModule_constantAt l hfl D A σ b27 (xb_i h x0 15) h _ hw) (hml.trans hl.1.symm) (by rw [hb]; exact (xb_d D_Machine_step 56 rfl)) (Nat.le_of_ble_eq_true rfl) (Nat.le_of_ble_eq_true rfl) (Nat.le_of_ble_eq_true rfl) (show k ≤ MC by omega) (show n ≤ MS by omega) (xt_w1 hB.1 m_7a46ed9e) (xt_cdOf hB.1 m_7a46ed9e) (hts _ m_9c375545) hB hR hS hA (fun vv h29 H locs hq hEh29 hR hS => ?_)
          obtain ⟨r30, rfl, hw⟩ := hq
          have hw := hw hEh29
          have hE := hE.tr hEh29
          refine W.eq (g2 := F0 m 109 ls [.long r30, .ref x0]) rfl ?_
          have hk1 : xb_k h29 x0 = 8 := hEh29.k hk1
          refine xb_call0 (D := D) (A := A) (σ := σ) (h := h29) (d := 2) (maxL := 3) (rest := []) (av := [.ref x0, .long r30]) (fun T hT X => by obtain ⟨cb9, ra9, rb9, rc9⟩ := xb_recv (ci := 7) hR rfl hk1 (by decide); exact xt_invV X hx hown (hts _ m_b93b25cc) (hts _ m_5256b489) (hts _ m_b846adde) (xt_sigOf (hts _ m_ea231fcd)) nm_Machine_putValue (by rw [hT]; exact ra9) rb9 rc9 (g := F0 m 109 ls [.long r30, .ref x0]) rfl (argsL := [.long r30]) (rest := []) rfl rfl (by rw [hb]; exact (xb_d D_Machine_step 57 rfl))) (ok_Machine_putValue l hfl D A σ x0 r30 h29 _ hw) (hml.trans hl.1.symm) (by rw [hb]; exact (xb_d D_Machine_step 57 rfl)) (Nat.le_of_ble_eq_true rfl) (Nat.le_of_ble_eq_true rfl) (Nat.le_of_ble_eq_true rfl) (show k ≤ MC by omega) (show n ≤ MS by omega) (xt_w1 hB.1 m_ea231fcd) (xt_cdOf hB.1 m_ea231fcd) (hts _ m_73451f9b) hB hR hS hA (fun vv h31 H locs hq hEh31 hR hS => ?_)
          obtain ⟨rfl, hw⟩ := hq
          have hw := hw hEh31
          have hE := hE.tr hEh31
          refine W.eq (g2 := F0 m 112 ls []) rfl ?_
          refine lv_aload_n hx hb (xb_d D_Machine_step 58 rfl) rfl (lv_at hl 1 rfl) ?_
          refine lv_aload_n hx hb (xb_d D_Machine_step 59 rfl) rfl (lv_at hl 1 rfl) ?_
          have hk1 : xb_k h31 x0 = 8 := hEh31.k hk1
          refine xb_getP (C := R_Machine) (T := F_Machine) (N := 18) hx hb 7 14 hts fin_Machine hown hR hk1 (by decide) rfl (by decide) rfl (hts _ m_8f763f86) (fun _ h9 => h9) (xb_d D_Machine_step 60 rfl) ?_
          obtain ⟨b33, eb33, hw⟩ := hw
          refine xb_some eb33 ?_
          refine lv_aload_n hx hb (xb_d D_Machine_step 61 rfl) rfl (lv_at hl 1 rfl) ?_
          refine xb_getI (C := R_Machine) (T := F_Machine) (N := 18) hx hb 7 15 hts fin_Machine hown hR hk1 (by decide) rfl (by decide) rfl (hts _ m_6a595805) (fun _ h9 => h9) (xb_d D_Machine_step 62 rfl) ?_
          obtain ⟨hk35, hw⟩ := hw
          obtain ⟨hi34, hw⟩ := hw
          refine xb_iald hx hb hR hk35 hi34 (xb_d D_Machine_step 63 rfl) ?_
          refine xb_putI (C := R_Machine) (T := F_Machine) (N := 18) (ty := .int) (x := (xb_i h31 b33 (Int32.toNatClampNeg (xb_i h31 x0 15)))) hx hb 7 15 hts fin_Machine t_Machine t_Machine_ok n_Machine hown hR hS hk1 (by decide) rfl (by decide) rfl (hts _ m_6a595805) (fun _ h9 => h9) rfl (by decide +kernel) rfl rfl (xb_d D_Machine_step 64 rfl) (fun H locs hR hS => ?_)
          obtain ⟨h36, eh36⟩ : ∃ x : xb_H, x = xb_I h31 x0 15 (xb_i h31 b33 (Int32.toNatClampNeg (xb_i h31 x0 15))) := ⟨_, rfl⟩
          rw [← eh36] at hR
          have hw := hw h36 eh36
          have hE : xb_ext h0 h36 := by rw [eh36]; exact hE
          refine lv_goto (tgt := 188) hx hb (xb_d D_Machine_step 65 rfl) rfl ?_
          exact am_Machine_step_L188 l hfl D A σ MC MS h0 Qr h36 bc bs hw p e s m args below meth c hC H locs ls k n hE (lv_sub hl [] rfl) hR hS (by omega) (by omega)
      · have hw := hw.2 hc8
        refine lv_aload_n hx hb (xb_d D_Machine_step 37 rfl) rfl (lv_at hl 1 rfl) ?_
        refine lv_iload_n hx hb (xb_d D_Machine_step 38 rfl) rfl (lv_at hl 0 rfl) ?_
        refine xb_call0 (D := D) (A := A) (σ := σ) (h := h) (d := 6) (maxL := 2) (rest := []) (av := [.ref x0, .int v5]) (fun T hT X => by obtain ⟨cb9, ra9, rb9, rc9⟩ := xb_recv (ci := 7) hR rfl hk1 (by decide); exact xt_invV X hx hown (hts _ m_5cd21231) (hts _ m_3c9378a4) (hts _ m_49400823) (xt_sigOf (hts _ m_eea792a8)) nm_Machine_reckonWhole (by rw [hT]; exact ra9) rb9 rc9 (g := F0 m 72 ls [.int v5, .ref x0]) rfl (argsL := [.int v5]) (rest := []) rfl rfl (by rw [hb]; exact (xb_d D_Machine_step 39 rfl))) (ok_Machine_reckonWhole l hfl D A σ x0 v5 h _ hw) (hml.trans hl.1.symm) (by rw [hb]; exact (xb_d D_Machine_step 39 rfl)) (Nat.le_of_ble_eq_true rfl) (Nat.le_of_ble_eq_true rfl) (Nat.le_of_ble_eq_true rfl) (show k ≤ MC by omega) (show n ≤ MS by omega) (xt_w1 hB.1 m_eea792a8) (xt_cdOf hB.1 m_eea792a8) (hts _ m_73451f9b) hB hR hS hA (fun vv h37 H locs hq hEh37 hR hS => ?_)
        obtain ⟨rfl, hw⟩ := hq
        have hw := hw hEh37
        have hE := hE.tr hEh37
        refine W.eq (g2 := F0 m 75 ls []) rfl ?_
        refine lv_aload_n hx hb (xb_d D_Machine_step 40 rfl) rfl (lv_at hl 1 rfl) ?_
        refine lv_dup hx hb (xb_d D_Machine_step 41 rfl) rfl ?_
        have hk1 : xb_k h37 x0 = 8 := hEh37.k hk1
        refine xb_getI (C := R_Machine) (T := F_Machine) (N := 18) hx hb 7 15 hts fin_Machine hown hR hk1 (by decide) rfl (by decide) rfl (hts _ m_6a595805) (fun _ h9 => h9) (xb_d D_Machine_step 42 rfl) ?_
        refine lv_iconst (v := 1) hx hb (xb_d D_Machine_step 43 rfl) (by decide) ?_
        refine lv_iadd hx hb (xb_d D_Machine_step 44 rfl) ?_
        refine xb_putI (C := R_Machine) (T := F_Machine) (N := 18) (ty := .int) (x := ((xb_i h37 x0 15) + 1)) hx hb 7 15 hts fin_Machine t_Machine t_Machine_ok n_Machine hown hR hS hk1 (by decide) rfl (by decide) rfl (hts _ m_6a595805) (fun _ h9 => h9) rfl (by decide +kernel) rfl rfl (xb_d D_Machine_step 45 rfl) (fun H locs hR hS => ?_)
        obtain ⟨h39, eh39⟩ : ∃ x : xb_H, x = xb_I h37 x0 15 ((xb_i h37 x0 15) + 1) := ⟨_, rfl⟩
        rw [← eh39] at hR
        have hw := hw h39 eh39
        have hE : xb_ext h0 h39 := by rw [eh39]; exact hE
        refine lv_goto (tgt := 188) hx hb (xb_d D_Machine_step 46 rfl) rfl ?_
        exact am_Machine_step_L188 l hfl D A σ MC MS h0 Qr h39 bc bs hw p e s m args below meth c hC H locs ls k n hE (lv_sub hl [] rfl) hR hS (by omega) (by omega)
    · have hw := hw.2 hc7
      refine lv_aload_n hx hb (xb_d D_Machine_step 24 rfl) rfl (lv_at hl 1 rfl) ?_
      refine lv_iload_n hx hb (xb_d D_Machine_step 25 rfl) rfl (lv_at hl 0 rfl) ?_
      refine xb_call0 (D := D) (A := A) (σ := σ) (h := h) (d := 6) (maxL := 5) (rest := []) (av := [.ref x0, .int v5]) (fun T hT X => by obtain ⟨cb9, ra9, rb9, rc9⟩ := xb_recv (ci := 7) hR rfl hk1 (by decide); exact xt_invV X hx hown (hts _ m_20fd797c) (hts _ m_2faf23ec) (hts _ m_542fcffc) (xt_sigOf (hts _ m_76f0ef1a)) nm_Machine_reckonFloating (by rw [hT]; exact ra9) rb9 rc9 (g := F0 m 48 ls [.int v5, .ref x0]) rfl (argsL := [.int v5]) (rest := []) rfl rfl (by rw [hb]; exact (xb_d D_Machine_step 26 rfl))) (ok_Machine_reckonFloating l hfl D A σ x0 v5 h _ hw) (hml.trans hl.1.symm) (by rw [hb]; exact (xb_d D_Machine_step 26 rfl)) (Nat.le_of_ble_eq_true rfl) (Nat.le_of_ble_eq_true rfl) (Nat.le_of_ble_eq_true rfl) (show k ≤ MC by omega) (show n ≤ MS by omega) (xt_w1 hB.1 m_76f0ef1a) (xt_cdOf hB.1 m_76f0ef1a) (hts _ m_73451f9b) hB hR hS hA (fun vv h40 H locs hq hEh40 hR hS => ?_)
      obtain ⟨rfl, hw⟩ := hq
      have hw := hw hEh40
      have hE := hE.tr hEh40
      refine W.eq (g2 := F0 m 51 ls []) rfl ?_
      refine lv_aload_n hx hb (xb_d D_Machine_step 27 rfl) rfl (lv_at hl 1 rfl) ?_
      refine lv_dup hx hb (xb_d D_Machine_step 28 rfl) rfl ?_
      have hk1 : xb_k h40 x0 = 8 := hEh40.k hk1
      refine xb_getI (C := R_Machine) (T := F_Machine) (N := 18) hx hb 7 15 hts fin_Machine hown hR hk1 (by decide) rfl (by decide) rfl (hts _ m_6a595805) (fun _ h9 => h9) (xb_d D_Machine_step 29 rfl) ?_
      refine lv_iconst (v := 1) hx hb (xb_d D_Machine_step 30 rfl) (by decide) ?_
      refine lv_iadd hx hb (xb_d D_Machine_step 31 rfl) ?_
      refine xb_putI (C := R_Machine) (T := F_Machine) (N := 18) (ty := .int) (x := ((xb_i h40 x0 15) + 1)) hx hb 7 15 hts fin_Machine t_Machine t_Machine_ok n_Machine hown hR hS hk1 (by decide) rfl (by decide) rfl (hts _ m_6a595805) (fun _ h9 => h9) rfl (by decide +kernel) rfl rfl (xb_d D_Machine_step 32 rfl) (fun H locs hR hS => ?_)
      obtain ⟨h42, eh42⟩ : ∃ x : xb_H, x = xb_I h40 x0 15 ((xb_i h40 x0 15) + 1) := ⟨_, rfl⟩
      rw [← eh42] at hR
      have hw := hw h42 eh42
      have hE : xb_ext h0 h42 := by rw [eh42]; exact hE
      refine lv_goto (tgt := 188) hx hb (xb_d D_Machine_step 33 rfl) rfl ?_
      exact am_Machine_step_L188 l hfl D A σ MC MS h0 Qr h42 bc bs hw p e s m args below meth c hC H locs ls k n hE (lv_sub hl [] rfl) hR hS (by omega) (by omega)
  · have hw := hw.2 hc6
    refine lv_aload_n hx hb (xb_d D_Machine_step 11 rfl) rfl (lv_at hl 1 rfl) ?_
    refine lv_iload_n hx hb (xb_d D_Machine_step 12 rfl) rfl (lv_at hl 0 rfl) ?_
    refine xb_call0 (D := D) (A := A) (σ := σ) (h := h) (d := 6) (maxL := 4) (rest := []) (av := [.ref x0, .int v5]) (fun T hT X => by obtain ⟨cb9, ra9, rb9, rc9⟩ := xb_recv (ci := 7) hR rfl hk1 (by decide); exact xt_invV X hx hown (hts _ m_4f9a0675) (hts _ m_5dd650a3) (hts _ m_effb3973) (xt_sigOf (hts _ m_7902188e)) nm_Machine_convert (by rw [hT]; exact ra9) rb9 rc9 (g := F0 m 23 ls [.int v5, .ref x0]) rfl (argsL := [.int v5]) (rest := []) rfl rfl (by rw [hb]; exact (xb_d D_Machine_step 13 rfl))) (ok_Machine_convert l hfl D A σ x0 v5 h _ hw) (hml.trans hl.1.symm) (by rw [hb]; exact (xb_d D_Machine_step 13 rfl)) (Nat.le_of_ble_eq_true rfl) (Nat.le_of_ble_eq_true rfl) (Nat.le_of_ble_eq_true rfl) (show k ≤ MC by omega) (show n ≤ MS by omega) (xt_w1 hB.1 m_7902188e) (xt_cdOf hB.1 m_7902188e) (hts _ m_73451f9b) hB hR hS hA (fun vv h43 H locs hq hEh43 hR hS => ?_)
    obtain ⟨rfl, hw⟩ := hq
    have hw := hw hEh43
    have hE := hE.tr hEh43
    refine W.eq (g2 := F0 m 26 ls []) rfl ?_
    refine lv_aload_n hx hb (xb_d D_Machine_step 14 rfl) rfl (lv_at hl 1 rfl) ?_
    refine lv_dup hx hb (xb_d D_Machine_step 15 rfl) rfl ?_
    have hk1 : xb_k h43 x0 = 8 := hEh43.k hk1
    refine xb_getI (C := R_Machine) (T := F_Machine) (N := 18) hx hb 7 15 hts fin_Machine hown hR hk1 (by decide) rfl (by decide) rfl (hts _ m_6a595805) (fun _ h9 => h9) (xb_d D_Machine_step 16 rfl) ?_
    refine lv_iconst (v := 1) hx hb (xb_d D_Machine_step 17 rfl) (by decide) ?_
    refine lv_iadd hx hb (xb_d D_Machine_step 18 rfl) ?_
    refine xb_putI (C := R_Machine) (T := F_Machine) (N := 18) (ty := .int) (x := ((xb_i h43 x0 15) + 1)) hx hb 7 15 hts fin_Machine t_Machine t_Machine_ok n_Machine hown hR hS hk1 (by decide) rfl (by decide) rfl (hts _ m_6a595805) (fun _ h9 => h9) rfl (by decide +kernel) rfl rfl (xb_d D_Machine_step 19 rfl) (fun H locs hR hS => ?_)
    obtain ⟨h45, eh45⟩ : ∃ x : xb_H, x = xb_I h43 x0 15 ((xb_i h43 x0 15) + 1) := ⟨_, rfl⟩
    rw [← eh45] at hR
    have hw := hw h45 eh45
    have hE : xb_ext h0 h45 := by rw [eh45]; exact hE
    refine lv_goto (tgt := 188) hx hb (xb_d D_Machine_step 20 rfl) rfl ?_
    exact am_Machine_step_L188 l hfl D A σ MC MS h0 Qr h45 bc bs hw p e s m args below meth c hC H locs ls k n hE (lv_sub hl [] rfl) hR hS (by omega) (by omega)

theorem m_1965b4f5 : (.methodLink "StackHost$Reader" 50 y_Reader_readSection : Cond) ∈ xt_tbl := xt_in (xt_t3 (List.mem_of_getElem? (i := 183) (by decide +kernel))) (by decide +kernel)
theorem m_e5b1c144 : (.instanceMethod y_Reader_readSection : Cond) ∈ xt_tbl := xt_in (xt_t3 (List.mem_of_getElem? (i := 185) (by decide +kernel))) (by decide +kernel)
theorem m_16cf4588 : (.selects "StackHost$Reader" y_Reader_readSection y_Reader_readSection : Cond) ∈ xt_tbl := xt_in (xt_v1 (q := (⟨"StackHost$Reader", "readSection", "(I)V"⟩, 6)) (List.mem_of_getElem? (i := 3) (by decide +kernel))) (by decide +kernel)
theorem m_83834fa3 : (.code y_Reader_readSection b_Reader_readSection 7 none : Cond) ∈ xt_tbl := xt_in (xt_t3 (List.mem_of_getElem? (i := 186) (by decide +kernel))) (by decide +kernel)
theorem m_965ac87e : (.fieldLinkNest "StackHost$Reader" 34 "StackHost" "MAGIC" "[B" "StackHost" : Cond) ∈ xt_tbl := xt_in (xt_t3 (List.mem_of_getElem? (i := 171) (by decide +kernel))) (by decide +kernel)
theorem m_dfe7ea21 : (.fieldLink "StackHost$Reader" 19 "StackHost$StackModule" "code" "[B" : Cond) ∈ xt_tbl := xt_in (xt_t3 (List.mem_of_getElem? (i := 48) (by decide +kernel))) (by decide +kernel)
theorem m_b7d0b101 : (.fieldLink "StackHost$Reader" 26 "StackHost$StackModule" "notes" "[I" : Cond) ∈ xt_tbl := xt_in (xt_t3 (List.mem_of_getElem? (i := 53) (by decide +kernel))) (by decide +kernel)
theorem nm_Reader_readSection : xt_nm y_Reader_readSection 1 := ⟨by decide +kernel, by decide +kernel⟩
set_option maxRecDepth 100000 in
def T_Reader_readAll : List (Nat × Instr × Nat) := [(0, .aload_n 0, 1), (1, .aload_n 1, 1), (2, .putfield 15, 3), (5, .aload_n 0, 1), (6, .aload_n 1, 1), (7, .getfield 19, 3), (10, .putfield 25, 3), (13, .aload_n 0, 1), (14, .aload_n 1, 1), (15, .getfield 26, 3), (18, .putfield 29, 3), (21, .aload_n 0, 1), (22, .aload_n 0, 1), (23, .getfield 25, 3), (26, .arraylength, 1), (27, .putfield 30, 3), (30, .iconst 0, 1), (31, .istore_n 2, 1), (32, .iload_n 2, 1), (33, .getstatic 34, 3), (36, .arraylength, 1), (37, .if_icmp .ge 41, 3), (40, .iload_n 2, 1), (41, .aload_n 0, 1), (42, .getfield 25, 3), (45, .arraylength, 1), (46, .if_icmp .ge 17, 3), (49, .aload_n 0, 1), (50, .getfield 25, 3), (53, .iload_n 2, 1), (54, .baload, 1), (55, .getstatic 34, 3), (58, .iload_n 2, 1), (59, .baload, 1), (60, .if_icmp .eq 12, 3), (63, .aload_n 0, 1), (64, .getfield 15, 3), (67, .iconst 1, 1), (68, .iload_n 2, 1), (69, .invokevirtual 37, 3), (72, .iinc 2 1, 3), (75, .goto (-43), 3), (78, .aload_n 0, 1), (79, .getstatic 34, 3), (82, .arraylength, 1), (83, .putfield 41, 3), (86, .iconst 0, 1), (87, .istore_n 2, 1), (88, .iconst 0, 1), (89, .istore_n 3, 1), (90, .iload_n 3, 1), (91, .aload_n 0, 1), (92, .getfield 25, 3), (95, .arraylength, 1), (96, .if_icmp .ge 102, 3), (99, .aload_n 0, 1), (100, .getfield 41, 3), (103, .aload_n 0, 1), (104, .getfield 25, 3), (107, .arraylength, 1), (108, .if_icmp .ge 90, 3), (111, .aload_n 0, 1), (112, .getfield 25, 3), (115, .aload_n 0, 1), (116, .getfield 41, 3), (119, .baload, 1), (120, .sipush 255, 3), (123, .iand, 1), (124, .istore 4, 2), (126, .iload 4, 2), (128, .bipush 11, 2), (130, .if_icmp .le 15, 3), (133, .aload_n 0, 1), (134, .getfield 15, 3), (137, .iconst 5, 1), (138, .aload_n 0, 1), (139, .getfield 41, 3), (142, .invokevirtual 37, 3), (145, .iload 4, 2), (147, .ifCond .eq 22, 3), (150, .iload 4, 2), (152, .iload_n 2, 1), (153, .if_icmp .gt 16, 3), (156, .aload_n 0, 1), (157, .getfield 15, 3), (160, .bipush 6, 2), (162, .aload_n 0, 1), (163, .getfield 41, 3), (166, .invokevirtual 37, 3), (169, .iload_n 2, 1), (170, .iload 4, 2), (172, .invokestatic 44, 3), (175, .istore_n 2, 1), (176, .aload_n 0, 1), (177, .dup, 1), (178, .getfield 41, 3), (181, .iconst 1, 1), (182, .iadd, 1), (183, .putfield 41, 3), (186, .aload_n 0, 1), (187, .iload 4, 2), (189, .invokevirtual 50, 3), (192, .iinc 3 1, 3), (195, .goto (-105), 3), (198, .aload_n 0, 1), (199, .getfield 15, 3), (202, .getfield 54, 3), (205, .invokevirtual 58, 3), (208, .aload_n 0, 1), (209, .getfield 15, 3), (212, .getfield 64, 3), (215, .invokevirtual 58, 3), (218, .aload_n 0, 1), (219, .getfield 15, 3), (222, .getfield 67, 3), (225, .iconst 0, 1), (226, .iaload, 1), (227, .isub, 1), (228, .if_icmp .eq 17, 3), (231, .aload_n 0, 1), (232, .getfield 15, 3), (235, .bipush 8, 2), (237, .aload_n 0, 1), (238, .getfield 25, 3), (241, .arraylength, 1), (242, .invokevirtual 37, 3), (245, .return_, 1)]
theorem D_Reader_readAll : ∀ q ∈ T_Reader_readAll, decode b_Reader_readAll q.1 = .ok (q.2.1, q.2.2) := by decide +kernel

set_option maxHeartbeats 4000000 in
set_option maxRecDepth 100000 in
theorem am_Reader_readAll_L245 (l : Launch) (hfl : l.flags = pinnedFlags ++ [noTraceFlag]) (D : va_G) (A : Nat → Prop) (σ MC MS : Nat) (h0 : xb_H) (Qr : xb_H → Nat → Nat → Prop) (Qt : String → xb_H → Nat → Nat → Prop) (h : xb_H) (bc : Nat) (bs : Nat) (hw : w_Reader_readAll_L245 Qr Qt h bc bs) : xb_am l D A σ 8 MC MS h0 (fun v h bc bs => v = none ∧ Qr h bc bs) Qt y_Reader_readAll.cls y_Reader_readAll.name b_Reader_readAll 5 ([] : List ExceptionTableEntry) none 245 [] [] h bc bs := by
  unfold w_Reader_readAll_L245 at hw
  intro p e s m args below meth c hC H locs ls k n hE hl hR hS hk hn
  obtain ⟨hx, hb, hown, hlocks, htab, hml, hr, hB, hA, hnm⟩ := id hC
  have hts := hB.1.1.at args
  exact xb_vret bc bs hx hb hr hlocks (show k + bc ≤ MC by omega) (show n + bs ≤ MS by omega) hE hR hS (xb_d D_Reader_readAll 126 rfl) hw

set_option maxHeartbeats 4000000 in
set_option maxRecDepth 100000 in
theorem am_Reader_readAll_L198 (l : Launch) (hfl : l.flags = pinnedFlags ++ [noTraceFlag]) (D : va_G) (A : Nat → Prop) (σ MC MS : Nat) (h0 : xb_H) (Qr : xb_H → Nat → Nat → Prop) (Qt : String → xb_H → Nat → Nat → Prop) (x0 : Nat) (h : xb_H) (bc : Nat) (bs : Nat) (hw : w_Reader_readAll_L198 Qr Qt x0 h bc bs) : xb_am l D A σ 8 MC MS h0 (fun v h bc bs => v = none ∧ Qr h bc bs) Qt y_Reader_readAll.cls y_Reader_readAll.name b_Reader_readAll 5 ([] : List ExceptionTableEntry) none 198 [(0, .ref x0)] [] h bc bs := by
  unfold w_Reader_readAll_L198 at hw
  intro p e s m args below meth c hC H locs ls k n hE hl hR hS hk hn
  obtain ⟨hx, hb, hown, hlocks, htab, hml, hr, hB, hA, hnm⟩ := id hC
  have hts := hB.1.1.at args
  refine lv_aload_n hx hb (xb_d D_Reader_readAll 104 rfl) rfl (lv_at hl 0 rfl) ?_
  obtain ⟨hk1, hw⟩ := hw
  refine xb_getP (C := R_Reader) (T := F_Reader) (N := 6) hx hb 3 0 hts fin_Reader hown hR hk1 (by decide) rfl (by decide) rfl (hts _ m_76d8349c) (fun _ h9 => h9) (xb_d D_Reader_readAll 105 rfl) ?_
  obtain ⟨b2, eb2, hw⟩ := hw
  refine xb_some eb2 ?_
  obtain ⟨hk3, hw⟩ := hw
  refine xb_getP (C := R_StackModule) (T := F_StackModule) (N := 19) hx hb 2 11 hts fin_StackModule hown hR hk3 (by decide) rfl (by decide) rfl (hts _ m_4dbee54b) (fun _ h9 => h9) (xb_d D_Reader_readAll 106 rfl) ?_
  obtain ⟨b4, eb4, hw⟩ := hw
  refine xb_some eb4 ?_
  obtain ⟨hk5, hw⟩ := hw
  refine xb_call0 (D := D) (A := A) (σ := σ) (h := h) (d := 2) (maxL := 1) (rest := []) (av := [.ref b4]) (fun T hT X => by obtain ⟨cb9, ra9, rb9, rc9⟩ := xb_recv (ci := 1) hR rfl hk5 (by decide); exact xt_invV X hx hown (hts _ m_d5d63d05) (hts _ m_ded65609) (hts _ m_a4161156) (xt_sigOf (hts _ m_83ba3721)) nm_Row_lines (by rw [hT]; exact ra9) rb9 rc9 (g := F0 m 205 ls [.ref b4]) rfl (argsL := []) (rest := []) rfl rfl (by rw [hb]; exact (xb_d D_Reader_readAll 107 rfl))) (ok_Row_lines l hfl D A σ b4 h _ hw) (hml.trans hl.1.symm) (by rw [hb]; exact (xb_d D_Reader_readAll 107 rfl)) (Nat.le_of_ble_eq_true rfl) (Nat.le_of_ble_eq_true rfl) (Nat.le_of_ble_eq_true rfl) (show k ≤ MC by omega) (show n ≤ MS by omega) (xt_w1 hB.1 m_83ba3721) (xt_cdOf hB.1 m_83ba3721) (hts _ m_c1bef504) hB hR hS hA (fun vv h6 H locs hq hEh6 hR hS => ?_)
  obtain ⟨r7, rfl, hw⟩ := hq
  have hw := hw hEh6
  have hE := hE.tr hEh6
  refine W.eq (g2 := F0 m 208 ls [.int r7]) rfl ?_
  refine lv_aload_n hx hb (xb_d D_Reader_readAll 108 rfl) rfl (lv_at hl 0 rfl) ?_
  have hk1 : xb_k h6 x0 = 4 := hEh6.k hk1
  refine xb_getP (C := R_Reader) (T := F_Reader) (N := 6) hx hb 3 0 hts fin_Reader hown hR hk1 (by decide) rfl (by decide) rfl (hts _ m_76d8349c) (fun _ h9 => h9) (xb_d D_Reader_readAll 109 rfl) ?_
  obtain ⟨b8, eb8, hw⟩ := hw
  refine xb_some eb8 ?_
  obtain ⟨hk9, hw⟩ := hw
  refine xb_getP (C := R_StackModule) (T := F_StackModule) (N := 19) hx hb 2 4 hts fin_StackModule hown hR hk9 (by decide) rfl (by decide) rfl (hts _ m_08af5762) (fun _ h9 => h9) (xb_d D_Reader_readAll 110 rfl) ?_
  obtain ⟨b10, eb10, hw⟩ := hw
  refine xb_some eb10 ?_
  obtain ⟨hk11, hw⟩ := hw
  refine xb_call0 (D := D) (A := A) (σ := σ) (h := h6) (d := 2) (maxL := 1) (rest := [.int r7]) (av := [.ref b10]) (fun T hT X => by obtain ⟨cb9, ra9, rb9, rc9⟩ := xb_recv (ci := 1) hR rfl hk11 (by decide); exact xt_invV X hx hown (hts _ m_d5d63d05) (hts _ m_ded65609) (hts _ m_a4161156) (xt_sigOf (hts _ m_83ba3721)) nm_Row_lines (by rw [hT]; exact ra9) rb9 rc9 (g := F0 m 215 ls [.ref b10, .int r7]) rfl (argsL := []) (rest := [.int r7]) rfl rfl (by rw [hb]; exact (xb_d D_Reader_readAll 111 rfl))) (ok_Row_lines l hfl D A σ b10 h6 _ hw) (hml.trans hl.1.symm) (by rw [hb]; exact (xb_d D_Reader_readAll 111 rfl)) (Nat.le_of_ble_eq_true rfl) (Nat.le_of_ble_eq_true rfl) (Nat.le_of_ble_eq_true rfl) (show k ≤ MC by omega) (show n ≤ MS by omega) (xt_w1 hB.1 m_83ba3721) (xt_cdOf hB.1 m_83ba3721) (hts _ m_c1bef504) hB hR hS hA (fun vv h12 H locs hq hEh12 hR hS => ?_)
  obtain ⟨r13, rfl, hw⟩ := hq
  have hw := hw hEh12
  have hE := hE.tr hEh12
  refine W.eq (g2 := F0 m 218 ls [.int r13, .int r7]) rfl ?_
  refine lv_aload_n hx hb (xb_d D_Reader_readAll 112 rfl) rfl (lv_at hl 0 rfl) ?_
  have hk1 : xb_k h12 x0 = 4 := hEh12.k hk1
  refine xb_getP (C := R_Reader) (T := F_Reader) (N := 6) hx hb 3 0 hts fin_Reader hown hR hk1 (by decide) rfl (by decide) rfl (hts _ m_76d8349c) (fun _ h9 => h9) (xb_d D_Reader_readAll 113 rfl) ?_
  obtain ⟨b14, eb14, hw⟩ := hw
  refine xb_some eb14 ?_
  obtain ⟨hk15, hw⟩ := hw
  refine xb_getP (C := R_StackModule) (T := F_StackModule) (N := 19) hx hb 2 14 hts fin_StackModule hown hR hk15 (by decide) rfl (by decide) rfl (hts _ m_8d503518) (fun _ h9 => h9) (xb_d D_Reader_readAll 114 rfl) ?_
  obtain ⟨b16, eb16, hw⟩ := hw
  refine xb_some eb16 ?_
  refine lv_iconst (v := 0) hx hb (xb_d D_Reader_readAll 115 rfl) (by decide) ?_
  obtain ⟨hk18, hw⟩ := hw
  obtain ⟨hi17, hw⟩ := hw
  refine xb_iald hx hb hR hk18 hi17 (xb_d D_Reader_readAll 116 rfl) ?_
  refine xt_numi (y := (xb_i h12 b16 0)) (congrArg (xb_i h12 b16) (by decide : (0 : Int32).toNatClampNeg = 0)) ?_
  refine lv_isub hx hb (xb_d D_Reader_readAll 117 rfl) ?_
  refine lv_icmp_eq (tgt := 245) hx hb (xb_d D_Reader_readAll 118 rfl) rfl (fun hc19 => ?_) (fun hc19 => ?_)
  · have hw := hw.1 hc19
    exact am_Reader_readAll_L245 l hfl D A σ MC MS h0 Qr Qt h12 bc bs hw p e s m args below meth c hC H locs ls k n hE (lv_sub hl [] rfl) hR hS (by omega) (by omega)
  · have hw := hw.2 hc19
    refine lv_aload_n hx hb (xb_d D_Reader_readAll 119 rfl) rfl (lv_at hl 0 rfl) ?_
    refine xb_getP (C := R_Reader) (T := F_Reader) (N := 6) hx hb 3 0 hts fin_Reader hown hR hk1 (by decide) rfl (by decide) rfl (hts _ m_76d8349c) (fun _ h9 => h9) (xb_d D_Reader_readAll 120 rfl) ?_
    obtain ⟨b20, eb20, hw⟩ := hw
    refine xb_some eb20 ?_
    refine lv_bipush (v := 8) hx hb (xb_d D_Reader_readAll 121 rfl) (by decide) ?_
    refine lv_aload_n hx hb (xb_d D_Reader_readAll 122 rfl) rfl (lv_at hl 0 rfl) ?_
    refine xb_getP (C := R_Reader) (T := F_Reader) (N := 6) hx hb 3 1 hts fin_Reader hown hR hk1 (by decide) rfl (by decide) rfl (hts _ m_d1ba4be8) (fun _ h9 => h9) (xb_d D_Reader_readAll 123 rfl) ?_
    obtain ⟨b21, eb21, hw⟩ := hw
    refine xb_some eb21 ?_
    obtain ⟨hk22, hw⟩ := hw
    refine xb_alen hx hb hR hk22 (by decide) (xb_d D_Reader_readAll 124 rfl) ?_
    obtain ⟨hk23, hw⟩ := hw
    refine xb_call (D := D) (A := A) (σ := σ) (h := h12) (d := 2) (mc := bc) (ms := bs) (maxL := 3) (rest := []) (av := [.ref b20, .int 8, .int (nI (xb_n h12 b21))]) (fun T hT X => by obtain ⟨cb9, ra9, rb9, rc9⟩ := xb_recv (ci := 2) hR rfl hk23 (by decide); exact xt_invV X hx hown (hts _ m_6fcde429) (hts _ m_865d5b07) (hts _ m_113f8f75) (xt_sigOf (hts _ m_73e65e5f)) nm_StackModule_fail (by rw [hT]; exact ra9) rb9 rc9 (g := F0 m 242 ls [.int (nI (xb_n h12 b21)), .int 8, .ref b20]) rfl (argsL := [.int 8, .int (nI (xb_n h12 b21))]) (rest := []) rfl rfl (by rw [hb]; exact (xb_d D_Reader_readAll 125 rfl))) (ok_StackModule_fail l hfl D A σ b20 8 (nI (xb_n h12 b21)) h12 bc bs _ _ hw) (hml.trans hl.1.symm) (by rw [hb]; exact (xb_d D_Reader_readAll 125 rfl)) (Nat.le_of_ble_eq_true rfl) (Nat.le_of_ble_eq_true rfl) (Nat.le_of_ble_eq_true rfl) (show k + bc ≤ MC by omega) (show n + bs ≤ MS by omega) (xt_w1 hB.1 m_73e65e5f) (xt_cdOf hB.1 m_73e65e5f) (hts _ m_9c375545) hB hR hS hA (fun vv h24 bc25 bs25 kk25 nn25 H locs hk25 hn25 hq hEh24 hR hS => ?_) (fun XX ax h24 bc25 bs25 kk25 nn25 H locs hk25 hn25 hq hEh24 hex hR hS => ?_)
    · obtain ⟨rfl, hw⟩ := hq
      have hw := hw hEh24
      have hE := hE.tr hEh24
      refine W.eq (g2 := F0 m 245 ls []) rfl ?_
      exact am_Reader_readAll_L245 l hfl D A σ MC MS h0 Qr Qt h24 bc25 bs25 hw p e s m args below meth c hC H locs ls (k + kk25) (n + nn25) hE (lv_sub hl [] rfl) hR hS (by omega) (by omega)
    · exact xb_pass hlocks (fun x hx9 => by rw [htab] at hx9; first | (cases hx9; done) | (simp [tableOf] at hx9; subst hx9; decide) | (simp [tableOf] at hx9; rcases hx9 with rfl | rfl <;> decide) | (simp [tableOf] at hx9; rcases hx9 with rfl | rfl | rfl <;> decide)) (show (k + kk25) + bc25 ≤ MC by omega) (show (n + nn25) + bs25 ≤ MS by omega) (hE.tr hEh24) hR hS hex hq

set_option maxHeartbeats 4000000 in
set_option maxRecDepth 100000 in
theorem am_Reader_readAll_L169 (l : Launch) (hfl : l.flags = pinnedFlags ++ [noTraceFlag]) (D : va_G) (A : Nat → Prop) (σ MC MS : Nat) (h0 : xb_H) (Qr : xb_H → Nat → Nat → Prop) (Qt : String → xb_H → Nat → Nat → Prop) (K90 : Nat → Int32 → Int32 → xb_H → Nat → Nat → Prop) (hK90 : ∀ (x0 : Nat) (x2 : Int32) (x3 : Int32) (h : xb_H) (bc : Nat) (bs : Nat), K90 x0 x2 x3 h bc bs → xb_am l D A σ 8 MC MS h0 (fun v h bc bs => v = none ∧ Qr h bc bs) Qt y_Reader_readAll.cls y_Reader_readAll.name b_Reader_readAll 5 ([] : List ExceptionTableEntry) none 90 [(0, .ref x0), (2, .int x2), (3, .int x3)] [] h bc bs) (x0 : Nat) (x2 : Int32) (x3 : Int32) (x4 : Int32) (h : xb_H) (bc : Nat) (bs : Nat) (hw : w_Reader_readAll_L169 K90 Qr Qt x0 x2 x3 x4 h bc bs) : xb_am l D A σ 8 MC MS h0 (fun v h bc bs => v = none ∧ Qr h bc bs) Qt y_Reader_readAll.cls y_Reader_readAll.name b_Reader_readAll 5 ([] : List ExceptionTableEntry) none 169 [(0, .ref x0), (2, .int x2), (3, .int x3), (4, .int x4)] [] h bc bs := by
  unfold w_Reader_readAll_L169 at hw
  intro p e s m args below meth c hC H locs ls k n hE hl hR hS hk hn
  obtain ⟨hx, hb, hown, hlocks, htab, hml, hr, hB, hA, hnm⟩ := id hC
  have hts := hB.1.1.at args
  refine lv_iload_n hx hb (xb_d D_Reader_readAll 89 rfl) rfl (lv_at hl 1 rfl) ?_
  refine lv_iload hx hb (xb_d D_Reader_readAll 90 rfl) (lv_at hl 3 rfl) ?_
  refine va_mmax hx hb (hml.trans hl.1.symm) hown (hts _ m_1b4cc923) (hts _ m_80a2ec50) (hts _ m_868a9286) (hts _ m_b6349a14) (by show 1 ≤ 8 + _; omega) (Nat.le_trans (Nat.le_of_ble_eq_true rfl : _ ≤ 60) (by show 60 ≤ 120 + _; omega)) (show k ≤ MC by omega) (show n ≤ MS by omega) (xb_d D_Reader_readAll 91 rfl) ?_
  obtain ⟨v1, ev1⟩ : ∃ x : Int32, x = (if x2 < x4 then x4 else x2) := ⟨_, rfl⟩
  have hw := hw v1 ev1
  refine xt_numi (y := v1) ev1.symm ?_
  refine lv_istore_n hx hb (xb_d D_Reader_readAll 92 rfl) rfl hl (by decide) rfl (fun ls hl => ?_)
  have hl : lv_has ls 5 [(2, .int v1), (0, .ref x0), (3, .int x3), (4, .int x4)] := hl
  refine lv_aload_n hx hb (xb_d D_Reader_readAll 93 rfl) rfl (lv_at hl 1 rfl) ?_
  refine lv_dup hx hb (xb_d D_Reader_readAll 94 rfl) rfl ?_
  obtain ⟨hk2, hw⟩ := hw
  refine xb_getI (C := R_Reader) (T := F_Reader) (N := 6) hx hb 3 3 hts fin_Reader hown hR hk2 (by decide) rfl (by decide) rfl (hts _ m_a9b84ac2) (fun _ h9 => h9) (xb_d D_Reader_readAll 95 rfl) ?_
  refine lv_iconst (v := 1) hx hb (xb_d D_Reader_readAll 96 rfl) (by decide) ?_
  refine lv_iadd hx hb (xb_d D_Reader_readAll 97 rfl) ?_
  refine xb_putI (C := R_Reader) (T := F_Reader) (N := 6) (ty := .int) (x := ((xb_i h x0 3) + 1)) hx hb 3 3 hts fin_Reader t_Reader t_Reader_ok n_Reader hown hR hS hk2 (by decide) rfl (by decide) rfl (hts _ m_a9b84ac2) (fun _ h9 => h9) rfl (by decide +kernel) rfl rfl (xb_d D_Reader_readAll 98 rfl) (fun H locs hR hS => ?_)
  obtain ⟨h3, eh3⟩ : ∃ x : xb_H, x = xb_I h x0 3 ((xb_i h x0 3) + 1) := ⟨_, rfl⟩
  rw [← eh3] at hR
  have hw := hw h3 eh3
  have hE : xb_ext h0 h3 := by rw [eh3]; exact hE
  refine lv_aload_n hx hb (xb_d D_Reader_readAll 99 rfl) rfl (lv_at hl 1 rfl) ?_
  refine lv_iload hx hb (xb_d D_Reader_readAll 100 rfl) (lv_at hl 3 rfl) ?_
  have hk2 : xb_k h3 x0 = 4 := by rw [eh3]; exact hk2
  refine xb_call (D := D) (A := A) (σ := σ) (h := h3) (d := 7) (mc := bc) (ms := bs) (maxL := 7) (rest := []) (av := [.ref x0, .int x4]) (fun T hT X => by obtain ⟨cb9, ra9, rb9, rc9⟩ := xb_recv (ci := 3) hR rfl hk2 (by decide); exact xt_invV X hx hown (hts _ m_1965b4f5) (hts _ m_e5b1c144) (hts _ m_16cf4588) (xt_sigOf (hts _ m_83834fa3)) nm_Reader_readSection (by rw [hT]; exact ra9) rb9 rc9 (g := F0 m 189 ls [.int x4, .ref x0]) rfl (argsL := [.int x4]) (rest := []) rfl rfl (by rw [hb]; exact (xb_d D_Reader_readAll 101 rfl))) (ok_Reader_readSection l hfl D A σ x0 x4 h3 bc bs _ _ hw) (hml.trans hl.1.symm) (by rw [hb]; exact (xb_d D_Reader_readAll 101 rfl)) (Nat.le_of_ble_eq_true rfl) (Nat.le_of_ble_eq_true rfl) (Nat.le_of_ble_eq_true rfl) (show k + bc ≤ MC by omega) (show n + bs ≤ MS by omega) (xt_w1 hB.1 m_83834fa3) (xt_cdOf hB.1 m_83834fa3) (hts _ m_938fcec4) hB hR hS hA (fun vv h4 bc5 bs5 kk5 nn5 H locs hk5 hn5 hq hEh4 hR hS => ?_) (fun XX ax h4 bc5 bs5 kk5 nn5 H locs hk5 hn5 hq hEh4 hex hR hS => ?_)
  · obtain ⟨rfl, hw⟩ := hq
    have hw := hw hEh4
    have hE := hE.tr hEh4
    refine W.eq (g2 := F0 m 192 ls []) rfl ?_
    refine lv_iinc (v := (x3 + 1)) (k := 2) hx hb (xb_d D_Reader_readAll 102 rfl) hl rfl (by first | rfl | decide) (by decide) rfl (fun ls hl => ?_)
    have hl : lv_has ls 5 [(3, .int (x3 + 1)), (2, .int v1), (0, .ref x0), (4, .int x4)] := hl
    refine lv_goto (tgt := 90) hx hb (xb_d D_Reader_readAll 103 rfl) rfl ?_
    exact hK90 x0 v1 (x3 + 1) h4 bc5 bs5 hw p e s m args below meth c hC H locs ls (k + kk5) (n + nn5) hE (lv_sub hl [2, 1, 0] rfl) hR hS (by omega) (by omega)
  · exact xb_pass hlocks (fun x hx9 => by rw [htab] at hx9; first | (cases hx9; done) | (simp [tableOf] at hx9; subst hx9; decide) | (simp [tableOf] at hx9; rcases hx9 with rfl | rfl <;> decide) | (simp [tableOf] at hx9; rcases hx9 with rfl | rfl | rfl <;> decide)) (show (k + kk5) + bc5 ≤ MC by omega) (show (n + nn5) + bs5 ≤ MS by omega) (hE.tr hEh4) hR hS hex hq

set_option maxHeartbeats 4000000 in
set_option maxRecDepth 100000 in
theorem am_Reader_readAll_L145 (l : Launch) (hfl : l.flags = pinnedFlags ++ [noTraceFlag]) (D : va_G) (A : Nat → Prop) (σ MC MS : Nat) (h0 : xb_H) (Qr : xb_H → Nat → Nat → Prop) (Qt : String → xb_H → Nat → Nat → Prop) (K90 : Nat → Int32 → Int32 → xb_H → Nat → Nat → Prop) (hK90 : ∀ (x0 : Nat) (x2 : Int32) (x3 : Int32) (h : xb_H) (bc : Nat) (bs : Nat), K90 x0 x2 x3 h bc bs → xb_am l D A σ 8 MC MS h0 (fun v h bc bs => v = none ∧ Qr h bc bs) Qt y_Reader_readAll.cls y_Reader_readAll.name b_Reader_readAll 5 ([] : List ExceptionTableEntry) none 90 [(0, .ref x0), (2, .int x2), (3, .int x3)] [] h bc bs) (x0 : Nat) (x2 : Int32) (x3 : Int32) (x4 : Int32) (h : xb_H) (bc : Nat) (bs : Nat) (hw : w_Reader_readAll_L145 K90 Qr Qt x0 x2 x3 x4 h bc bs) : xb_am l D A σ 8 MC MS h0 (fun v h bc bs => v = none ∧ Qr h bc bs) Qt y_Reader_readAll.cls y_Reader_readAll.name b_Reader_readAll 5 ([] : List ExceptionTableEntry) none 145 [(0, .ref x0), (2, .int x2), (3, .int x3), (4, .int x4)] [] h bc bs := by
  unfold w_Reader_readAll_L145 at hw
  intro p e s m args below meth c hC H locs ls k n hE hl hR hS hk hn
  obtain ⟨hx, hb, hown, hlocks, htab, hml, hr, hB, hA, hnm⟩ := id hC
  have hts := hB.1.1.at args
  refine lv_iload hx hb (xb_d D_Reader_readAll 78 rfl) (lv_at hl 3 rfl) ?_
  refine lv_if_eq (tgt := 169) hx hb (xb_d D_Reader_readAll 79 rfl) rfl (fun hc1 => ?_) (fun hc1 => ?_)
  · have hw := hw.1 hc1
    exact am_Reader_readAll_L169 l hfl D A σ MC MS h0 Qr Qt K90 hK90 x0 x2 x3 x4 h bc bs hw p e s m args below meth c hC H locs ls k n hE (lv_sub hl [0, 1, 2, 3] rfl) hR hS (by omega) (by omega)
  · have hw := hw.2 hc1
    refine lv_iload hx hb (xb_d D_Reader_readAll 80 rfl) (lv_at hl 3 rfl) ?_
    refine lv_iload_n hx hb (xb_d D_Reader_readAll 81 rfl) rfl (lv_at hl 1 rfl) ?_
    refine lv_icmp_gt (tgt := 169) hx hb (xb_d D_Reader_readAll 82 rfl) rfl (fun hc2 => ?_) (fun hc2 => ?_)
    · have hw := hw.1 hc2
      exact am_Reader_readAll_L169 l hfl D A σ MC MS h0 Qr Qt K90 hK90 x0 x2 x3 x4 h bc bs hw p e s m args below meth c hC H locs ls k n hE (lv_sub hl [0, 1, 2, 3] rfl) hR hS (by omega) (by omega)
    · have hw := hw.2 hc2
      refine lv_aload_n hx hb (xb_d D_Reader_readAll 83 rfl) rfl (lv_at hl 0 rfl) ?_
      obtain ⟨hk3, hw⟩ := hw
      refine xb_getP (C := R_Reader) (T := F_Reader) (N := 6) hx hb 3 0 hts fin_Reader hown hR hk3 (by decide) rfl (by decide) rfl (hts _ m_76d8349c) (fun _ h9 => h9) (xb_d D_Reader_readAll 84 rfl) ?_
      obtain ⟨b4, eb4, hw⟩ := hw
      refine xb_some eb4 ?_
      refine lv_bipush (v := 6) hx hb (xb_d D_Reader_readAll 85 rfl) (by decide) ?_
      refine lv_aload_n hx hb (xb_d D_Reader_readAll 86 rfl) rfl (lv_at hl 0 rfl) ?_
      refine xb_getI (C := R_Reader) (T := F_Reader) (N := 6) hx hb 3 3 hts fin_Reader hown hR hk3 (by decide) rfl (by decide) rfl (hts _ m_a9b84ac2) (fun _ h9 => h9) (xb_d D_Reader_readAll 87 rfl) ?_
      obtain ⟨hk5, hw⟩ := hw
      refine xb_call (D := D) (A := A) (σ := σ) (h := h) (d := 2) (mc := bc) (ms := bs) (maxL := 3) (rest := []) (av := [.ref b4, .int 6, .int (xb_i h x0 3)]) (fun T hT X => by obtain ⟨cb9, ra9, rb9, rc9⟩ := xb_recv (ci := 2) hR rfl hk5 (by decide); exact xt_invV X hx hown (hts _ m_6fcde429) (hts _ m_865d5b07) (hts _ m_113f8f75) (xt_sigOf (hts _ m_73e65e5f)) nm_StackModule_fail (by rw [hT]; exact ra9) rb9 rc9 (g := F0 m 166 ls [.int (xb_i h x0 3), .int 6, .ref b4]) rfl (argsL := [.int 6, .int (xb_i h x0 3)]) (rest := []) rfl rfl (by rw [hb]; exact (xb_d D_Reader_readAll 88 rfl))) (ok_StackModule_fail l hfl D A σ b4 6 (xb_i h x0 3) h bc bs _ _ hw) (hml.trans hl.1.symm) (by rw [hb]; exact (xb_d D_Reader_readAll 88 rfl)) (Nat.le_of_ble_eq_true rfl) (Nat.le_of_ble_eq_true rfl) (Nat.le_of_ble_eq_true rfl) (show k + bc ≤ MC by omega) (show n + bs ≤ MS by omega) (xt_w1 hB.1 m_73e65e5f) (xt_cdOf hB.1 m_73e65e5f) (hts _ m_9c375545) hB hR hS hA (fun vv h6 bc7 bs7 kk7 nn7 H locs hk7 hn7 hq hEh6 hR hS => ?_) (fun XX ax h6 bc7 bs7 kk7 nn7 H locs hk7 hn7 hq hEh6 hex hR hS => ?_)
      · obtain ⟨rfl, hw⟩ := hq
        have hw := hw hEh6
        have hE := hE.tr hEh6
        refine W.eq (g2 := F0 m 169 ls []) rfl ?_
        exact am_Reader_readAll_L169 l hfl D A σ MC MS h0 Qr Qt K90 hK90 x0 x2 x3 x4 h6 bc7 bs7 hw p e s m args below meth c hC H locs ls (k + kk7) (n + nn7) hE (lv_sub hl [0, 1, 2, 3] rfl) hR hS (by omega) (by omega)
      · exact xb_pass hlocks (fun x hx9 => by rw [htab] at hx9; first | (cases hx9; done) | (simp [tableOf] at hx9; subst hx9; decide) | (simp [tableOf] at hx9; rcases hx9 with rfl | rfl <;> decide) | (simp [tableOf] at hx9; rcases hx9 with rfl | rfl | rfl <;> decide)) (show (k + kk7) + bc7 ≤ MC by omega) (show (n + nn7) + bs7 ≤ MS by omega) (hE.tr hEh6) hR hS hex hq

set_option maxHeartbeats 4000000 in
set_option maxRecDepth 100000 in
theorem am_Reader_readAll_L90 (l : Launch) (hfl : l.flags = pinnedFlags ++ [noTraceFlag]) (D : va_G) (A : Nat → Prop) (σ MC MS : Nat) (h0 : xb_H) (Qr : xb_H → Nat → Nat → Prop) (Qt : String → xb_H → Nat → Nat → Prop) (n9 : Nat) : ∀ (x0 : Nat) (x2 : Int32) (x3 : Int32) (h : xb_H) (bc : Nat) (bs : Nat), w_Reader_readAll_L90 Qr Qt n9 x0 x2 x3 h bc bs → xb_am l D A σ 8 MC MS h0 (fun v h bc bs => v = none ∧ Qr h bc bs) Qt y_Reader_readAll.cls y_Reader_readAll.name b_Reader_readAll 5 ([] : List ExceptionTableEntry) none 90 [(0, .ref x0), (2, .int x2), (3, .int x3)] [] h bc bs := by
  induction n9 with
  | zero => intro x0 x2 x3 h bc bs hw; exact False.elim hw
  | succ n9 ih =>
    intro x0 x2 x3 h bc bs hw
    unfold w_Reader_readAll_L90 at hw
    intro p e s m args below meth c hC H locs ls k n hE hl hR hS hk hn
    obtain ⟨hx, hb, hown, hlocks, htab, hml, hr, hB, hA, hnm⟩ := id hC
    have hts := hB.1.1.at args
    refine lv_iload_n hx hb (xb_d D_Reader_readAll 50 rfl) rfl (lv_at hl 2 rfl) ?_
    refine lv_aload_n hx hb (xb_d D_Reader_readAll 51 rfl) rfl (lv_at hl 0 rfl) ?_
    obtain ⟨hk1, hw⟩ := hw
    refine xb_getP (C := R_Reader) (T := F_Reader) (N := 6) hx hb 3 1 hts fin_Reader hown hR hk1 (by decide) rfl (by decide) rfl (hts _ m_d1ba4be8) (fun _ h9 => h9) (xb_d D_Reader_readAll 52 rfl) ?_
    obtain ⟨b2, eb2, hw⟩ := hw
    refine xb_some eb2 ?_
    obtain ⟨hk3, hw⟩ := hw
    refine xb_alen hx hb hR hk3 (by decide) (xb_d D_Reader_readAll 53 rfl) ?_
    refine lv_icmp_ge (tgt := 198) hx hb (xb_d D_Reader_readAll 54 rfl) rfl (fun hc4 => ?_) (fun hc4 => ?_)
    · have hw := hw.1 hc4
      exact am_Reader_readAll_L198 l hfl D A σ MC MS h0 Qr Qt x0 h bc bs hw p e s m args below meth c hC H locs ls k n hE (lv_sub hl [0] rfl) hR hS (by omega) (by omega)
    · have hw := hw.2 hc4
      refine lv_aload_n hx hb (xb_d D_Reader_readAll 55 rfl) rfl (lv_at hl 0 rfl) ?_
      refine xb_getI (C := R_Reader) (T := F_Reader) (N := 6) hx hb 3 3 hts fin_Reader hown hR hk1 (by decide) rfl (by decide) rfl (hts _ m_a9b84ac2) (fun _ h9 => h9) (xb_d D_Reader_readAll 56 rfl) ?_
      refine lv_aload_n hx hb (xb_d D_Reader_readAll 57 rfl) rfl (lv_at hl 0 rfl) ?_
      refine xb_getP (C := R_Reader) (T := F_Reader) (N := 6) hx hb 3 1 hts fin_Reader hown hR hk1 (by decide) rfl (by decide) rfl (hts _ m_d1ba4be8) (fun _ h9 => h9) (xb_d D_Reader_readAll 58 rfl) ?_
      obtain ⟨b5, eb5, hw⟩ := hw
      refine xb_some eb5 ?_
      obtain ⟨hk6, hw⟩ := hw
      refine xb_alen hx hb hR hk6 (by decide) (xb_d D_Reader_readAll 59 rfl) ?_
      refine lv_icmp_ge (tgt := 198) hx hb (xb_d D_Reader_readAll 60 rfl) rfl (fun hc7 => ?_) (fun hc7 => ?_)
      · have hw := hw.1 hc7
        exact am_Reader_readAll_L198 l hfl D A σ MC MS h0 Qr Qt x0 h bc bs hw p e s m args below meth c hC H locs ls k n hE (lv_sub hl [0] rfl) hR hS (by omega) (by omega)
      · have hw := hw.2 hc7
        refine lv_aload_n hx hb (xb_d D_Reader_readAll 61 rfl) rfl (lv_at hl 0 rfl) ?_
        refine xb_getP (C := R_Reader) (T := F_Reader) (N := 6) hx hb 3 1 hts fin_Reader hown hR hk1 (by decide) rfl (by decide) rfl (hts _ m_d1ba4be8) (fun _ h9 => h9) (xb_d D_Reader_readAll 62 rfl) ?_
        obtain ⟨b8, eb8, hw⟩ := hw
        refine xb_some eb8 ?_
        refine lv_aload_n hx hb (xb_d D_Reader_readAll 63 rfl) rfl (lv_at hl 0 rfl) ?_
        refine xb_getI (C := R_Reader) (T := F_Reader) (N := 6) hx hb 3 3 hts fin_Reader hown hR hk1 (by decide) rfl (by decide) rfl (hts _ m_a9b84ac2) (fun _ h9 => h9) (xb_d D_Reader_readAll 64 rfl) ?_
        obtain ⟨hk10, hw⟩ := hw
        obtain ⟨hi9, hw⟩ := hw
        refine xb_bald hx hb hR hk10 hi9 (xb_d D_Reader_readAll 65 rfl) ?_
        refine lv_sipush (v := 255) hx hb (xb_d D_Reader_readAll 66 rfl) (by decide) ?_
        refine lv_iand hx hb (xb_d D_Reader_readAll 67 rfl) ?_
        obtain ⟨v11, ev11⟩ : ∃ x : Int32, x = ((xb_i h b8 (Int32.toNatClampNeg (xb_i h x0 3))) &&& 255) := ⟨_, rfl⟩
        have hw := hw v11 ev11
        refine xt_numi (y := v11) ev11.symm ?_
        refine lv_istore hx hb (xb_d D_Reader_readAll 68 rfl) hl (by decide) rfl (fun ls hl => ?_)
        have hl : lv_has ls 5 [(4, .int v11), (0, .ref x0), (2, .int x2), (3, .int x3)] := hl
        refine lv_iload hx hb (xb_d D_Reader_readAll 69 rfl) (lv_at hl 0 rfl) ?_
        refine lv_bipush (v := 11) hx hb (xb_d D_Reader_readAll 70 rfl) (by decide) ?_
        refine lv_icmp_le (tgt := 145) hx hb (xb_d D_Reader_readAll 71 rfl) rfl (fun hc12 => ?_) (fun hc12 => ?_)
        · have hw := hw.1 hc12
          exact am_Reader_readAll_L145 l hfl D A σ MC MS h0 Qr Qt (w_Reader_readAll_L90 Qr Qt n9) ih x0 x2 x3 v11 h bc bs hw p e s m args below meth c hC H locs ls k n hE (lv_sub hl [1, 2, 3, 0] rfl) hR hS (by omega) (by omega)
        · have hw := hw.2 hc12
          refine lv_aload_n hx hb (xb_d D_Reader_readAll 72 rfl) rfl (lv_at hl 1 rfl) ?_
          refine xb_getP (C := R_Reader) (T := F_Reader) (N := 6) hx hb 3 0 hts fin_Reader hown hR hk1 (by decide) rfl (by decide) rfl (hts _ m_76d8349c) (fun _ h9 => h9) (xb_d D_Reader_readAll 73 rfl) ?_
          obtain ⟨b13, eb13, hw⟩ := hw
          refine xb_some eb13 ?_
          refine lv_iconst (v := 5) hx hb (xb_d D_Reader_readAll 74 rfl) (by decide) ?_
          refine lv_aload_n hx hb (xb_d D_Reader_readAll 75 rfl) rfl (lv_at hl 1 rfl) ?_
          refine xb_getI (C := R_Reader) (T := F_Reader) (N := 6) hx hb 3 3 hts fin_Reader hown hR hk1 (by decide) rfl (by decide) rfl (hts _ m_a9b84ac2) (fun _ h9 => h9) (xb_d D_Reader_readAll 76 rfl) ?_
          obtain ⟨hk14, hw⟩ := hw
          refine xb_call (D := D) (A := A) (σ := σ) (h := h) (d := 2) (mc := bc) (ms := bs) (maxL := 3) (rest := []) (av := [.ref b13, .int 5, .int (xb_i h x0 3)]) (fun T hT X => by obtain ⟨cb9, ra9, rb9, rc9⟩ := xb_recv (ci := 2) hR rfl hk14 (by decide); exact xt_invV X hx hown (hts _ m_6fcde429) (hts _ m_865d5b07) (hts _ m_113f8f75) (xt_sigOf (hts _ m_73e65e5f)) nm_StackModule_fail (by rw [hT]; exact ra9) rb9 rc9 (g := F0 m 142 ls [.int (xb_i h x0 3), .int 5, .ref b13]) rfl (argsL := [.int 5, .int (xb_i h x0 3)]) (rest := []) rfl rfl (by rw [hb]; exact (xb_d D_Reader_readAll 77 rfl))) (ok_StackModule_fail l hfl D A σ b13 5 (xb_i h x0 3) h bc bs _ _ hw) (hml.trans hl.1.symm) (by rw [hb]; exact (xb_d D_Reader_readAll 77 rfl)) (Nat.le_of_ble_eq_true rfl) (Nat.le_of_ble_eq_true rfl) (Nat.le_of_ble_eq_true rfl) (show k + bc ≤ MC by omega) (show n + bs ≤ MS by omega) (xt_w1 hB.1 m_73e65e5f) (xt_cdOf hB.1 m_73e65e5f) (hts _ m_9c375545) hB hR hS hA (fun vv h15 bc16 bs16 kk16 nn16 H locs hk16 hn16 hq hEh15 hR hS => ?_) (fun XX ax h15 bc16 bs16 kk16 nn16 H locs hk16 hn16 hq hEh15 hex hR hS => ?_)
          · obtain ⟨rfl, hw⟩ := hq
            have hw := hw hEh15
            have hE := hE.tr hEh15
            refine W.eq (g2 := F0 m 145 ls []) rfl ?_
            exact am_Reader_readAll_L145 l hfl D A σ MC MS h0 Qr Qt (w_Reader_readAll_L90 Qr Qt n9) ih x0 x2 x3 v11 h15 bc16 bs16 hw p e s m args below meth c hC H locs ls (k + kk16) (n + nn16) hE (lv_sub hl [1, 2, 3, 0] rfl) hR hS (by omega) (by omega)
          · exact xb_pass hlocks (fun x hx9 => by rw [htab] at hx9; first | (cases hx9; done) | (simp [tableOf] at hx9; subst hx9; decide) | (simp [tableOf] at hx9; rcases hx9 with rfl | rfl <;> decide) | (simp [tableOf] at hx9; rcases hx9 with rfl | rfl | rfl <;> decide)) (show (k + kk16) + bc16 ≤ MC by omega) (show (n + nn16) + bs16 ≤ MS by omega) (hE.tr hEh15) hR hS hex hq

set_option maxHeartbeats 4000000 in
set_option maxRecDepth 100000 in
theorem am_Reader_readAll_L72 (l : Launch) (hfl : l.flags = pinnedFlags ++ [noTraceFlag]) (D : va_G) (A : Nat → Prop) (σ MC MS : Nat) (h0 : xb_H) (Qr : xb_H → Nat → Nat → Prop) (Qt : String → xb_H → Nat → Nat → Prop) (K32 : Nat → Int32 → xb_H → Nat → Nat → Prop) (hK32 : ∀ (x0 : Nat) (x2 : Int32) (h : xb_H) (bc : Nat) (bs : Nat), K32 x0 x2 h bc bs → xb_am l D A σ 8 MC MS h0 (fun v h bc bs => v = none ∧ Qr h bc bs) Qt y_Reader_readAll.cls y_Reader_readAll.name b_Reader_readAll 5 ([] : List ExceptionTableEntry) none 32 [(0, .ref x0), (2, .int x2)] [] h bc bs) (x0 : Nat) (x2 : Int32) (h : xb_H) (bc : Nat) (bs : Nat) (hw : w_Reader_readAll_L72 K32 Qr Qt x0 x2 h bc bs) : xb_am l D A σ 8 MC MS h0 (fun v h bc bs => v = none ∧ Qr h bc bs) Qt y_Reader_readAll.cls y_Reader_readAll.name b_Reader_readAll 5 ([] : List ExceptionTableEntry) none 72 [(0, .ref x0), (2, .int x2)] [] h bc bs := by
  unfold w_Reader_readAll_L72 at hw
  intro p e s m args below meth c hC H locs ls k n hE hl hR hS hk hn
  obtain ⟨hx, hb, hown, hlocks, htab, hml, hr, hB, hA, hnm⟩ := id hC
  have hts := hB.1.1.at args
  refine lv_iinc (v := (x2 + 1)) (k := 1) hx hb (xb_d D_Reader_readAll 40 rfl) hl rfl (by first | rfl | decide) (by decide) rfl (fun ls hl => ?_)
  have hl : lv_has ls 5 [(2, .int (x2 + 1)), (0, .ref x0)] := hl
  refine lv_goto (tgt := 32) hx hb (xb_d D_Reader_readAll 41 rfl) rfl ?_
  exact hK32 x0 (x2 + 1) h bc bs hw p e s m args below meth c hC H locs ls k n hE (lv_sub hl [1, 0] rfl) hR hS (by omega) (by omega)

set_option maxHeartbeats 4000000 in
set_option maxRecDepth 100000 in
theorem am_Reader_readAll_L63 (l : Launch) (hfl : l.flags = pinnedFlags ++ [noTraceFlag]) (D : va_G) (A : Nat → Prop) (σ MC MS : Nat) (h0 : xb_H) (Qr : xb_H → Nat → Nat → Prop) (Qt : String → xb_H → Nat → Nat → Prop) (K32 : Nat → Int32 → xb_H → Nat → Nat → Prop) (hK32 : ∀ (x0 : Nat) (x2 : Int32) (h : xb_H) (bc : Nat) (bs : Nat), K32 x0 x2 h bc bs → xb_am l D A σ 8 MC MS h0 (fun v h bc bs => v = none ∧ Qr h bc bs) Qt y_Reader_readAll.cls y_Reader_readAll.name b_Reader_readAll 5 ([] : List ExceptionTableEntry) none 32 [(0, .ref x0), (2, .int x2)] [] h bc bs) (x0 : Nat) (x2 : Int32) (h : xb_H) (bc : Nat) (bs : Nat) (hw : w_Reader_readAll_L63 K32 Qr Qt x0 x2 h bc bs) : xb_am l D A σ 8 MC MS h0 (fun v h bc bs => v = none ∧ Qr h bc bs) Qt y_Reader_readAll.cls y_Reader_readAll.name b_Reader_readAll 5 ([] : List ExceptionTableEntry) none 63 [(0, .ref x0), (2, .int x2)] [] h bc bs := by
  unfold w_Reader_readAll_L63 at hw
  intro p e s m args below meth c hC H locs ls k n hE hl hR hS hk hn
  obtain ⟨hx, hb, hown, hlocks, htab, hml, hr, hB, hA, hnm⟩ := id hC
  have hts := hB.1.1.at args
  refine lv_aload_n hx hb (xb_d D_Reader_readAll 35 rfl) rfl (lv_at hl 0 rfl) ?_
  obtain ⟨hk1, hw⟩ := hw
  refine xb_getP (C := R_Reader) (T := F_Reader) (N := 6) hx hb 3 0 hts fin_Reader hown hR hk1 (by decide) rfl (by decide) rfl (hts _ m_76d8349c) (fun _ h9 => h9) (xb_d D_Reader_readAll 36 rfl) ?_
  obtain ⟨b2, eb2, hw⟩ := hw
  refine xb_some eb2 ?_
  refine lv_iconst (v := 1) hx hb (xb_d D_Reader_readAll 37 rfl) (by decide) ?_
  refine lv_iload_n hx hb (xb_d D_Reader_readAll 38 rfl) rfl (lv_at hl 1 rfl) ?_
  obtain ⟨hk3, hw⟩ := hw
  refine xb_call (D := D) (A := A) (σ := σ) (h := h) (d := 2) (mc := bc) (ms := bs) (maxL := 3) (rest := []) (av := [.ref b2, .int 1, .int x2]) (fun T hT X => by obtain ⟨cb9, ra9, rb9, rc9⟩ := xb_recv (ci := 2) hR rfl hk3 (by decide); exact xt_invV X hx hown (hts _ m_6fcde429) (hts _ m_865d5b07) (hts _ m_113f8f75) (xt_sigOf (hts _ m_73e65e5f)) nm_StackModule_fail (by rw [hT]; exact ra9) rb9 rc9 (g := F0 m 69 ls [.int x2, .int 1, .ref b2]) rfl (argsL := [.int 1, .int x2]) (rest := []) rfl rfl (by rw [hb]; exact (xb_d D_Reader_readAll 39 rfl))) (ok_StackModule_fail l hfl D A σ b2 1 x2 h bc bs _ _ hw) (hml.trans hl.1.symm) (by rw [hb]; exact (xb_d D_Reader_readAll 39 rfl)) (Nat.le_of_ble_eq_true rfl) (Nat.le_of_ble_eq_true rfl) (Nat.le_of_ble_eq_true rfl) (show k + bc ≤ MC by omega) (show n + bs ≤ MS by omega) (xt_w1 hB.1 m_73e65e5f) (xt_cdOf hB.1 m_73e65e5f) (hts _ m_9c375545) hB hR hS hA (fun vv h4 bc5 bs5 kk5 nn5 H locs hk5 hn5 hq hEh4 hR hS => ?_) (fun XX ax h4 bc5 bs5 kk5 nn5 H locs hk5 hn5 hq hEh4 hex hR hS => ?_)
  · obtain ⟨rfl, hw⟩ := hq
    have hw := hw hEh4
    have hE := hE.tr hEh4
    refine W.eq (g2 := F0 m 72 ls []) rfl ?_
    exact am_Reader_readAll_L72 l hfl D A σ MC MS h0 Qr Qt K32 hK32 x0 x2 h4 bc5 bs5 hw p e s m args below meth c hC H locs ls (k + kk5) (n + nn5) hE (lv_sub hl [0, 1] rfl) hR hS (by omega) (by omega)
  · exact xb_pass hlocks (fun x hx9 => by rw [htab] at hx9; first | (cases hx9; done) | (simp [tableOf] at hx9; subst hx9; decide) | (simp [tableOf] at hx9; rcases hx9 with rfl | rfl <;> decide) | (simp [tableOf] at hx9; rcases hx9 with rfl | rfl | rfl <;> decide)) (show (k + kk5) + bc5 ≤ MC by omega) (show (n + nn5) + bs5 ≤ MS by omega) (hE.tr hEh4) hR hS hex hq

set_option maxHeartbeats 4000000 in
set_option maxRecDepth 100000 in
theorem am_Reader_readAll_L32 (l : Launch) (hfl : l.flags = pinnedFlags ++ [noTraceFlag]) (D : va_G) (A : Nat → Prop) (σ MC MS : Nat) (h0 : xb_H) (Qr : xb_H → Nat → Nat → Prop) (Qt : String → xb_H → Nat → Nat → Prop) (n9 : Nat) : ∀ (x0 : Nat) (x2 : Int32) (h : xb_H) (bc : Nat) (bs : Nat), w_Reader_readAll_L32 Qr Qt n9 x0 x2 h bc bs → xb_am l D A σ 8 MC MS h0 (fun v h bc bs => v = none ∧ Qr h bc bs) Qt y_Reader_readAll.cls y_Reader_readAll.name b_Reader_readAll 5 ([] : List ExceptionTableEntry) none 32 [(0, .ref x0), (2, .int x2)] [] h bc bs := by
  induction n9 with
  | zero => intro x0 x2 h bc bs hw; exact False.elim hw
  | succ n9 ih =>
    intro x0 x2 h bc bs hw
    unfold w_Reader_readAll_L32 at hw
    intro p e s m args below meth c hC H locs ls k n hE hl hR hS hk hn
    obtain ⟨hx, hb, hown, hlocks, htab, hml, hr, hB, hA, hnm⟩ := id hC
    have hts := hB.1.1.at args
    refine lv_iload_n hx hb (xb_d D_Reader_readAll 18 rfl) rfl (lv_at hl 1 rfl) ?_
    obtain ⟨tt1, hZtt1, hTtt1⟩ := hB.1.2.2.2.2
    refine va_getsN hx hb hZtt1 hS hown (hts _ m_965ac87e) (fun _ h9 => h9) (xb_d D_Reader_readAll 19 rfl) ?_
    refine va_tlen (v := 8) hx hb hTtt1 hS (by decide +kernel) (xb_d D_Reader_readAll 20 rfl) ?_
    refine lv_icmp_ge (tgt := 78) hx hb (xb_d D_Reader_readAll 21 rfl) rfl (fun hc2 => ?_) (fun hc2 => ?_)
    · have hw := hw.1 hc2
      refine lv_aload_n hx hb (xb_d D_Reader_readAll 42 rfl) rfl (lv_at hl 0 rfl) ?_
      obtain ⟨tt3, hZtt3, hTtt3⟩ := hB.1.2.2.2.2
      refine va_getsN hx hb hZtt3 hS hown (hts _ m_965ac87e) (fun _ h9 => h9) (xb_d D_Reader_readAll 43 rfl) ?_
      refine va_tlen (v := 8) hx hb hTtt3 hS (by decide +kernel) (xb_d D_Reader_readAll 44 rfl) ?_
      obtain ⟨hk4, hw⟩ := hw
      refine xb_putI (C := R_Reader) (T := F_Reader) (N := 6) (ty := .int) (x := 8) hx hb 3 3 hts fin_Reader t_Reader t_Reader_ok n_Reader hown hR hS hk4 (by decide) rfl (by decide) rfl (hts _ m_a9b84ac2) (fun _ h9 => h9) rfl (by decide +kernel) rfl rfl (xb_d D_Reader_readAll 45 rfl) (fun H locs hR hS => ?_)
      obtain ⟨h5, eh5⟩ : ∃ x : xb_H, x = xb_I h x0 3 8 := ⟨_, rfl⟩
      rw [← eh5] at hR
      have hw := hw h5 eh5
      have hE : xb_ext h0 h5 := by rw [eh5]; exact hE
      refine lv_iconst (v := 0) hx hb (xb_d D_Reader_readAll 46 rfl) (by decide) ?_
      refine lv_istore_n hx hb (xb_d D_Reader_readAll 47 rfl) rfl hl (by decide) rfl (fun ls hl => ?_)
      have hl : lv_has ls 5 [(2, .int 0), (0, .ref x0)] := hl
      refine lv_iconst (v := 0) hx hb (xb_d D_Reader_readAll 48 rfl) (by decide) ?_
      refine lv_istore_n hx hb (xb_d D_Reader_readAll 49 rfl) rfl hl (by decide) rfl (fun ls hl => ?_)
      have hl : lv_has ls 5 [(3, .int 0), (2, .int 0), (0, .ref x0)] := hl
      obtain ⟨n8, hw⟩ := hw
      exact am_Reader_readAll_L90 l hfl D A σ MC MS h0 Qr Qt n8 x0 0 0 h5 bc bs hw p e s m args below meth c hC H locs ls k n hE (lv_sub hl [2, 1, 0] rfl) hR hS (by omega) (by omega)
    · have hw := hw.2 hc2
      refine lv_iload_n hx hb (xb_d D_Reader_readAll 22 rfl) rfl (lv_at hl 1 rfl) ?_
      refine lv_aload_n hx hb (xb_d D_Reader_readAll 23 rfl) rfl (lv_at hl 0 rfl) ?_
      obtain ⟨hk6, hw⟩ := hw
      refine xb_getP (C := R_Reader) (T := F_Reader) (N := 6) hx hb 3 1 hts fin_Reader hown hR hk6 (by decide) rfl (by decide) rfl (hts _ m_d1ba4be8) (fun _ h9 => h9) (xb_d D_Reader_readAll 24 rfl) ?_
      obtain ⟨b7, eb7, hw⟩ := hw
      refine xb_some eb7 ?_
      obtain ⟨hk8, hw⟩ := hw
      refine xb_alen hx hb hR hk8 (by decide) (xb_d D_Reader_readAll 25 rfl) ?_
      refine lv_icmp_ge (tgt := 63) hx hb (xb_d D_Reader_readAll 26 rfl) rfl (fun hc9 => ?_) (fun hc9 => ?_)
      · have hw := hw.1 hc9
        exact am_Reader_readAll_L63 l hfl D A σ MC MS h0 Qr Qt (w_Reader_readAll_L32 Qr Qt n9) ih x0 x2 h bc bs hw p e s m args below meth c hC H locs ls k n hE (lv_sub hl [0, 1] rfl) hR hS (by omega) (by omega)
      · have hw := hw.2 hc9
        refine lv_aload_n hx hb (xb_d D_Reader_readAll 27 rfl) rfl (lv_at hl 0 rfl) ?_
        refine xb_getP (C := R_Reader) (T := F_Reader) (N := 6) hx hb 3 1 hts fin_Reader hown hR hk6 (by decide) rfl (by decide) rfl (hts _ m_d1ba4be8) (fun _ h9 => h9) (xb_d D_Reader_readAll 28 rfl) ?_
        obtain ⟨b10, eb10, hw⟩ := hw
        refine xb_some eb10 ?_
        refine lv_iload_n hx hb (xb_d D_Reader_readAll 29 rfl) rfl (lv_at hl 1 rfl) ?_
        obtain ⟨hk12, hw⟩ := hw
        obtain ⟨hi11, hw⟩ := hw
        refine xb_bald hx hb hR hk12 hi11 (xb_d D_Reader_readAll 30 rfl) ?_
        obtain ⟨tt13, hZtt13, hTtt13⟩ := hB.1.2.2.2.2
        refine va_getsN hx hb hZtt13 hS hown (hts _ m_965ac87e) (fun _ h9 => h9) (xb_d D_Reader_readAll 31 rfl) ?_
        refine lv_iload_n hx hb (xb_d D_Reader_readAll 32 rfl) rfl (lv_at hl 1 rfl) ?_
        obtain ⟨hi14, hw⟩ := hw
        refine va_tb (v := .int (xt_mg (Int32.toNatClampNeg x2))) hx hb hTtt13 hS hi14 rfl (xb_d D_Reader_readAll 33 rfl) ?_
        refine lv_icmp_eq (tgt := 72) hx hb (xb_d D_Reader_readAll 34 rfl) rfl (fun hc15 => ?_) (fun hc15 => ?_)
        · have hw := hw.1 hc15
          exact am_Reader_readAll_L72 l hfl D A σ MC MS h0 Qr Qt (w_Reader_readAll_L32 Qr Qt n9) ih x0 x2 h bc bs hw p e s m args below meth c hC H locs ls k n hE (lv_sub hl [0, 1] rfl) hR hS (by omega) (by omega)
        · have hw := hw.2 hc15
          exact am_Reader_readAll_L63 l hfl D A σ MC MS h0 Qr Qt (w_Reader_readAll_L32 Qr Qt n9) ih x0 x2 h bc bs hw p e s m args below meth c hC H locs ls k n hE (lv_sub hl [0, 1] rfl) hR hS (by omega) (by omega)

set_option maxHeartbeats 4000000 in
set_option maxRecDepth 100000 in
theorem ok_Reader_readAll (l : Launch) (hfl : l.flags = pinnedFlags ++ [noTraceFlag]) (D : va_G) (A : Nat → Prop) (σ : Nat) (x0 : Nat) (x1 : Nat) (h : xb_H) (bc : Nat) (bs : Nat) (Qr : xb_H → Nat → Nat → Prop) (Qt : String → xb_H → Nat → Nat → Prop) (hw : w_Reader_readAll x0 x1 h bc bs Qr Qt) : xb_Met l y_Reader_readAll [.code y_Reader_readAll b_Reader_readAll 5 none] (xb_rm 8 bc bs) (xb_Pc D A σ h [.ref x0, .ref x1]) (xb_Qc D A h bc bs (fun v h bc bs => v = none ∧ Qr h bc bs) Qt) A := by
  refine xb_ofAm (cc := b_Reader_readAll) (by decide) (Nat.le_of_ble_eq_true rfl) ?_
  unfold w_Reader_readAll at hw
  show xb_am l D A σ 8 bc bs h (fun v h bc bs => v = none ∧ Qr h bc bs) Qt y_Reader_readAll.cls y_Reader_readAll.name b_Reader_readAll 5 ([] : List ExceptionTableEntry) none 0 [(0, .ref x0), (1, .ref x1)] [] h bc bs
  obtain ⟨MC, hMC⟩ : ∃ x, x = bc := ⟨_, rfl⟩
  obtain ⟨MS, hMS⟩ : ∃ x, x = bs := ⟨_, rfl⟩
  rw [show xb_am l D A σ 8 bc bs = xb_am l D A σ 8 MC MS by rw [hMC, hMS]]
  obtain ⟨h0, hh0⟩ : ∃ x, x = h := ⟨_, rfl⟩
  rw [show xb_am l D A σ 8 MC MS h = xb_am l D A σ 8 MC MS h0 by rw [hh0]]
  intro p e s m args below meth c hC H locs ls k n hE hl hR hS hk hn
  obtain ⟨hx, hb, hown, hlocks, htab, hml, hr, hB, hA, hnm⟩ := id hC
  have hts := hB.1.1.at args
  refine lv_aload_n hx hb (xb_d D_Reader_readAll 0 rfl) rfl (lv_at hl 0 rfl) ?_
  refine lv_aload_n hx hb (xb_d D_Reader_readAll 1 rfl) rfl (lv_at hl 1 rfl) ?_
  obtain ⟨hk1, hw⟩ := hw
  refine xb_putP (C := R_Reader) (T := F_Reader) (N := 6) (ty := .object "StackHost$StackModule") (x := (some x1)) hx hb 3 0 hts fin_Reader t_Reader t_Reader_ok n_Reader hown hR hS hk1 (by decide) rfl (by decide) rfl (hts _ m_76d8349c) (fun _ h9 => h9) rfl (by decide +kernel) (xb_pnO _ _).1 (xb_pnO _ _).2 (xb_d D_Reader_readAll 2 rfl) (fun H locs hR hS => ?_)
  obtain ⟨h2, eh2⟩ : ∃ x : xb_H, x = xb_P h x0 0 (some x1) := ⟨_, rfl⟩
  rw [← eh2] at hR
  have hw := hw h2 eh2
  have hE : xb_ext h0 h2 := by rw [eh2]; exact hE
  refine lv_aload_n hx hb (xb_d D_Reader_readAll 3 rfl) rfl (lv_at hl 0 rfl) ?_
  refine lv_aload_n hx hb (xb_d D_Reader_readAll 4 rfl) rfl (lv_at hl 1 rfl) ?_
  obtain ⟨hk3, hw⟩ := hw
  refine xb_getP (C := R_StackModule) (T := F_StackModule) (N := 19) hx hb 2 0 hts fin_StackModule hown hR hk3 (by decide) rfl (by decide) rfl (hts _ m_dfe7ea21) (fun _ h9 => h9) (xb_d D_Reader_readAll 5 rfl) ?_
  obtain ⟨b4, eb4, hw⟩ := hw
  refine xb_some eb4 ?_
  have hk1 : xb_k h2 x0 = 4 := by rw [eh2]; exact hk1
  refine xb_putP (C := R_Reader) (T := F_Reader) (N := 6) (ty := .array .byte) (x := (some b4)) hx hb 3 1 hts fin_Reader t_Reader t_Reader_ok n_Reader hown hR hS hk1 (by decide) rfl (by decide) rfl (hts _ m_d1ba4be8) (fun _ h9 => h9) rfl (by decide +kernel) (xb_pnA _ _).1 (xb_pnA _ _).2 (xb_d D_Reader_readAll 6 rfl) (fun H locs hR hS => ?_)
  obtain ⟨h5, eh5⟩ : ∃ x : xb_H, x = xb_P h2 x0 1 (some b4) := ⟨_, rfl⟩
  rw [← eh5] at hR
  have hw := hw h5 eh5
  have hE : xb_ext h0 h5 := by rw [eh5]; exact hE
  refine lv_aload_n hx hb (xb_d D_Reader_readAll 7 rfl) rfl (lv_at hl 0 rfl) ?_
  refine lv_aload_n hx hb (xb_d D_Reader_readAll 8 rfl) rfl (lv_at hl 1 rfl) ?_
  have hk3 : xb_k h5 x1 = 3 := by rw [eh5]; exact hk3
  refine xb_getP (C := R_StackModule) (T := F_StackModule) (N := 19) hx hb 2 1 hts fin_StackModule hown hR hk3 (by decide) rfl (by decide) rfl (hts _ m_b7d0b101) (fun _ h9 => h9) (xb_d D_Reader_readAll 9 rfl) ?_
  obtain ⟨b6, eb6, hw⟩ := hw
  refine xb_some eb6 ?_
  have hk1 : xb_k h5 x0 = 4 := by rw [eh5]; exact hk1
  refine xb_putP (C := R_Reader) (T := F_Reader) (N := 6) (ty := .array .int) (x := (some b6)) hx hb 3 2 hts fin_Reader t_Reader t_Reader_ok n_Reader hown hR hS hk1 (by decide) rfl (by decide) rfl (hts _ m_5660bdee) (fun _ h9 => h9) rfl (by decide +kernel) (xb_pnA _ _).1 (xb_pnA _ _).2 (xb_d D_Reader_readAll 10 rfl) (fun H locs hR hS => ?_)
  obtain ⟨h7, eh7⟩ : ∃ x : xb_H, x = xb_P h5 x0 2 (some b6) := ⟨_, rfl⟩
  rw [← eh7] at hR
  have hw := hw h7 eh7
  have hE : xb_ext h0 h7 := by rw [eh7]; exact hE
  refine lv_aload_n hx hb (xb_d D_Reader_readAll 11 rfl) rfl (lv_at hl 0 rfl) ?_
  refine lv_aload_n hx hb (xb_d D_Reader_readAll 12 rfl) rfl (lv_at hl 0 rfl) ?_
  have hk1 : xb_k h7 x0 = 4 := by rw [eh7]; exact hk1
  refine xb_getP (C := R_Reader) (T := F_Reader) (N := 6) hx hb 3 1 hts fin_Reader hown hR hk1 (by decide) rfl (by decide) rfl (hts _ m_d1ba4be8) (fun _ h9 => h9) (xb_d D_Reader_readAll 13 rfl) ?_
  obtain ⟨b8, eb8, hw⟩ := hw
  refine xb_some eb8 ?_
  obtain ⟨hk9, hw⟩ := hw
  refine xb_alen hx hb hR hk9 (by decide) (xb_d D_Reader_readAll 14 rfl) ?_
  refine xb_putI (C := R_Reader) (T := F_Reader) (N := 6) (ty := .int) (x := (nI (xb_n h7 b8))) hx hb 3 4 hts fin_Reader t_Reader t_Reader_ok n_Reader hown hR hS hk1 (by decide) rfl (by decide) rfl (hts _ m_49916c4b) (fun _ h9 => h9) rfl (by decide +kernel) rfl rfl (xb_d D_Reader_readAll 15 rfl) (fun H locs hR hS => ?_)
  obtain ⟨h10, eh10⟩ : ∃ x : xb_H, x = xb_I h7 x0 4 (nI (xb_n h7 b8)) := ⟨_, rfl⟩
  rw [← eh10] at hR
  have hw := hw h10 eh10
  have hE : xb_ext h0 h10 := by rw [eh10]; exact hE
  refine lv_iconst (v := 0) hx hb (xb_d D_Reader_readAll 16 rfl) (by decide) ?_
  refine lv_istore_n hx hb (xb_d D_Reader_readAll 17 rfl) rfl hl (by decide) rfl (fun ls hl => ?_)
  have hl : lv_has ls 5 [(2, .int 0), (0, .ref x0), (1, .ref x1)] := hl
  obtain ⟨n8, hw⟩ := hw
  exact am_Reader_readAll_L32 l hfl D A σ MC MS h0 Qr Qt n8 x0 0 h10 bc bs hw p e s m args below meth c hC H locs ls k n hE (lv_sub hl [1, 0] rfl) hR hS (by omega) (by omega)

theorem m_4644df8e : (.methodLink "StackHostModel" 290 y_M_expression : Cond) ∈ xt_tbl := xt_in (xt_t11 (List.mem_of_getElem? (i := 36) (by decide +kernel))) (by decide +kernel)
theorem m_2230da74 : (.instanceMethod y_M_expression : Cond) ∈ xt_tbl := xt_in (xt_t11 (List.mem_of_getElem? (i := 38) (by decide +kernel))) (by decide +kernel)
theorem m_7fd46769 : (.selects "StackHostModel" y_M_expression y_M_expression : Cond) ∈ xt_tbl := xt_in (xt_v10 (q := (⟨"StackHostModel", "expression", "()V"⟩, 97)) (List.mem_of_getElem? (i := 2) (by decide +kernel))) (by decide +kernel)
theorem m_ed213729 : (.code y_M_expression b_M_expression 5 none : Cond) ∈ xt_tbl := xt_in (xt_t11 (List.mem_of_getElem? (i := 39) (by decide +kernel))) (by decide +kernel)
theorem m_77b6987a : (.constantLong "StackHostModel" 299 1000 : Cond) ∈ xt_tbl := xt_in (xt_t11 (List.mem_of_getElem? (i := 59) (by decide +kernel))) (by decide +kernel)
theorem nm_M_expression : xt_nm y_M_expression 0 := ⟨by decide +kernel, by decide +kernel⟩
set_option maxRecDepth 100000 in
def T_M_body : List (Nat × Instr × Nat) := [(0, .aload_n 0, 1), (1, .invokevirtual 218, 3), (4, .lstore_n 1, 1), (5, .aload_n 0, 1), (6, .getfield 193, 3), (9, .ifCond .ne 27, 3), (12, .lload_n 1, 1), (13, .aload_n 0, 1), (14, .getfield 205, 3), (17, .aload_n 0, 1), (18, .getfield 202, 3), (21, .isub, 1), (22, .i2l, 1), (23, .lcmp, 1), (24, .ifCond .le 12, 3), (27, .aload_n 0, 1), (28, .iconst 2, 1), (29, .aload_n 0, 1), (30, .getfield 205, 3), (33, .invokevirtual 208, 3), (36, .aload_n 0, 1), (37, .getfield 193, 3), (40, .ifCond .eq 4, 3), (43, .return_, 1), (44, .aload_n 0, 1), (45, .getfield 205, 3), (48, .istore_n 3, 1), (49, .aload_n 0, 1), (50, .aload_n 0, 1), (51, .getfield 202, 3), (54, .lload_n 1, 1), (55, .l2i, 1), (56, .iadd, 1), (57, .putfield 205, 3), (60, .aload_n 0, 1), (61, .invokevirtual 218, 3), (64, .lstore 4, 2), (66, .lconst 0, 1), (67, .lstore 6, 2), (69, .lconst 0, 1), (70, .lstore 8, 2), (72, .lload 8, 2), (74, .lload 4, 2), (76, .lcmp, 1), (77, .ifCond .ge 62, 3), (80, .aload_n 0, 1), (81, .getfield 193, 3), (84, .ifCond .ne 55, 3), (87, .aload_n 0, 1), (88, .getfield 202, 3), (91, .istore 10, 2), (93, .lload 6, 2), (95, .aload_n 0, 1), (96, .invokevirtual 218, 3), (99, .ladd, 1), (100, .lstore 6, 2), (102, .aload_n 0, 1), (103, .getfield 193, 3), (106, .ifCond .ne 20, 3), (109, .lload 6, 2), (111, .ldc2_w 299, 3), (114, .lcmp, 1), (115, .ifCond .le 11, 3), (118, .aload_n 0, 1), (119, .bipush 9, 2), (121, .iload 10, 2), (123, .invokevirtual 208, 3), (126, .aload_n 0, 1), (127, .invokevirtual 240, 3), (130, .lload 8, 2), (132, .lconst 1, 1), (133, .ladd, 1), (134, .lstore 8, 2), (136, .goto (-64), 3), (139, .aload_n 0, 1), (140, .getfield 193, 3), (143, .ifCond .ne 7, 3), (146, .aload_n 0, 1), (147, .invokevirtual 290, 3), (150, .aload_n 0, 1), (151, .getfield 193, 3), (154, .ifCond .ne 24, 3), (157, .aload_n 0, 1), (158, .getfield 202, 3), (161, .aload_n 0, 1), (162, .getfield 205, 3), (165, .if_icmp .ge 13, 3), (168, .aload_n 0, 1), (169, .bipush 7, 2), (171, .aload_n 0, 1), (172, .getfield 202, 3), (175, .invokevirtual 208, 3), (178, .aload_n 0, 1), (179, .iload_n 3, 1), (180, .putfield 205, 3), (183, .return_, 1)]
theorem D_M_body : ∀ q ∈ T_M_body, decode b_M_body q.1 = .ok (q.2.1, q.2.2) := by decide +kernel

set_option maxHeartbeats 4000000 in
set_option maxRecDepth 100000 in
theorem am_M_body_L178 (l : Launch) (hfl : l.flags = pinnedFlags ++ [noTraceFlag]) (D : va_G) (A : Nat → Prop) (σ MC MS : Nat) (h0 : xb_H) (Qr : xb_H → Prop) (x0 : Nat) (x3 : Int32) (h : xb_H) (hw : w_M_body_L178 Qr x0 x3 h) : xb_am l D A σ 8 MC MS h0 (fun v h _ _ => v = none ∧ Qr h) (fun _ _ _ _ => False) y_M_body.cls y_M_body.name b_M_body 11 ([] : List ExceptionTableEntry) none 178 [(0, .ref x0), (3, .int x3)] [] h 0 0 := by
  unfold w_M_body_L178 at hw
  intro p e s m args below meth c hC H locs ls k n hE hl hR hS hk hn
  obtain ⟨hx, hb, hown, hlocks, htab, hml, hr, hB, hA, hnm⟩ := id hC
  have hts := hB.1.1.at args
  refine lv_aload_n hx hb (xb_d D_M_body 92 rfl) rfl (lv_at hl 0 rfl) ?_
  refine lv_iload_n hx hb (xb_d D_M_body 93 rfl) rfl (lv_at hl 1 rfl) ?_
  obtain ⟨hk1, hw⟩ := hw
  refine xb_putI (C := R_M) (T := F_M) (N := 97) (ty := .int) (x := x3) hx hb 8 16 hts fin_M t_M t_M_ok n_M hown hR hS hk1 (by decide) rfl (by decide) rfl (hts _ m_48124c81) (fun _ h9 => h9) rfl (by decide +kernel) rfl rfl (xb_d D_M_body 94 rfl) (fun H locs hR hS => ?_)
  obtain ⟨h2, eh2⟩ : ∃ x : xb_H, x = xb_I h x0 16 x3 := ⟨_, rfl⟩
  rw [← eh2] at hR
  have hw := hw h2 eh2
  have hE : xb_ext h0 h2 := by rw [eh2]; exact hE
  exact xb_vret 0 0 hx hb hr hlocks (show k + 0 ≤ MC by omega) (show n + 0 ≤ MS by omega) hE hR hS (xb_d D_M_body 95 rfl) hw

set_option maxHeartbeats 4000000 in
set_option maxRecDepth 100000 in
theorem am_M_body_L150 (l : Launch) (hfl : l.flags = pinnedFlags ++ [noTraceFlag]) (D : va_G) (A : Nat → Prop) (σ MC MS : Nat) (h0 : xb_H) (Qr : xb_H → Prop) (x0 : Nat) (x3 : Int32) (h : xb_H) (hw : w_M_body_L150 Qr x0 x3 h) : xb_am l D A σ 8 MC MS h0 (fun v h _ _ => v = none ∧ Qr h) (fun _ _ _ _ => False) y_M_body.cls y_M_body.name b_M_body 11 ([] : List ExceptionTableEntry) none 150 [(0, .ref x0), (3, .int x3)] [] h 0 0 := by
  unfold w_M_body_L150 at hw
  intro p e s m args below meth c hC H locs ls k n hE hl hR hS hk hn
  obtain ⟨hx, hb, hown, hlocks, htab, hml, hr, hB, hA, hnm⟩ := id hC
  have hts := hB.1.1.at args
  refine lv_aload_n hx hb (xb_d D_M_body 79 rfl) rfl (lv_at hl 0 rfl) ?_
  obtain ⟨hk1, hw⟩ := hw
  refine xb_getI (C := R_M) (T := F_M) (N := 97) hx hb 8 17 hts fin_M hown hR hk1 (by decide) rfl (by decide) rfl (hts _ m_ff69da61) (fun _ h9 => h9) (xb_d D_M_body 80 rfl) ?_
  refine lv_if_ne (tgt := 178) hx hb (xb_d D_M_body 81 rfl) rfl (fun hc2 => ?_) (fun hc2 => ?_)
  · have hw := hw.1 hc2
    exact am_M_body_L178 l hfl D A σ MC MS h0 Qr x0 x3 h hw p e s m args below meth c hC H locs ls k n hE (lv_sub hl [0, 1] rfl) hR hS (by omega) (by omega)
  · have hw := hw.2 hc2
    refine lv_aload_n hx hb (xb_d D_M_body 82 rfl) rfl (lv_at hl 0 rfl) ?_
    refine xb_getI (C := R_M) (T := F_M) (N := 97) hx hb 8 15 hts fin_M hown hR hk1 (by decide) rfl (by decide) rfl (hts _ m_6c2d27ad) (fun _ h9 => h9) (xb_d D_M_body 83 rfl) ?_
    refine lv_aload_n hx hb (xb_d D_M_body 84 rfl) rfl (lv_at hl 0 rfl) ?_
    refine xb_getI (C := R_M) (T := F_M) (N := 97) hx hb 8 16 hts fin_M hown hR hk1 (by decide) rfl (by decide) rfl (hts _ m_48124c81) (fun _ h9 => h9) (xb_d D_M_body 85 rfl) ?_
    refine lv_icmp_ge (tgt := 178) hx hb (xb_d D_M_body 86 rfl) rfl (fun hc3 => ?_) (fun hc3 => ?_)
    · have hw := hw.1 hc3
      exact am_M_body_L178 l hfl D A σ MC MS h0 Qr x0 x3 h hw p e s m args below meth c hC H locs ls k n hE (lv_sub hl [0, 1] rfl) hR hS (by omega) (by omega)
    · have hw := hw.2 hc3
      refine lv_aload_n hx hb (xb_d D_M_body 87 rfl) rfl (lv_at hl 0 rfl) ?_
      refine lv_bipush (v := 7) hx hb (xb_d D_M_body 88 rfl) (by decide) ?_
      refine lv_aload_n hx hb (xb_d D_M_body 89 rfl) rfl (lv_at hl 0 rfl) ?_
      refine xb_getI (C := R_M) (T := F_M) (N := 97) hx hb 8 15 hts fin_M hown hR hk1 (by decide) rfl (by decide) rfl (hts _ m_6c2d27ad) (fun _ h9 => h9) (xb_d D_M_body 90 rfl) ?_
      refine xb_call0 (D := D) (A := A) (σ := σ) (h := h) (d := 2) (maxL := 3) (rest := []) (av := [.ref x0, .int 7, .int (xb_i h x0 15)]) (fun T hT X => by obtain ⟨cb9, ra9, rb9, rc9⟩ := xb_recv (ci := 8) hR rfl hk1 (by decide); exact xt_invV X hx hown (hts _ m_939052ad) (hts _ m_29cc8c73) (hts _ m_3b1ac7ab) (xt_sigOf (hts _ m_8f062ecd)) nm_M_fail (by rw [hT]; exact ra9) rb9 rc9 (g := F0 m 175 ls [.int (xb_i h x0 15), .int 7, .ref x0]) rfl (argsL := [.int 7, .int (xb_i h x0 15)]) (rest := []) rfl rfl (by rw [hb]; exact (xb_d D_M_body 91 rfl))) (ok_M_fail l hfl D A σ x0 7 (xb_i h x0 15) h _ hw) (hml.trans hl.1.symm) (by rw [hb]; exact (xb_d D_M_body 91 rfl)) (Nat.le_of_ble_eq_true rfl) (Nat.le_of_ble_eq_true rfl) (Nat.le_of_ble_eq_true rfl) (show k ≤ MC by omega) (show n ≤ MS by omega) (xt_w1 hB.1 m_8f062ecd) (xt_cdOf hB.1 m_8f062ecd) (hts _ m_d5ed7bed) hB hR hS hA (fun vv h4 H locs hq hEh4 hR hS => ?_)
      obtain ⟨rfl, hw⟩ := hq
      have hw := hw hEh4
      have hE := hE.tr hEh4
      refine W.eq (g2 := F0 m 178 ls []) rfl ?_
      exact am_M_body_L178 l hfl D A σ MC MS h0 Qr x0 x3 h4 hw p e s m args below meth c hC H locs ls k n hE (lv_sub hl [0, 1] rfl) hR hS (by omega) (by omega)

set_option maxHeartbeats 4000000 in
set_option maxRecDepth 100000 in
theorem am_M_body_L139 (l : Launch) (hfl : l.flags = pinnedFlags ++ [noTraceFlag]) (D : va_G) (A : Nat → Prop) (σ MC MS : Nat) (h0 : xb_H) (Qr : xb_H → Prop) (x0 : Nat) (x3 : Int32) (h : xb_H) (hw : w_M_body_L139 Qr x0 x3 h) : xb_am l D A σ 8 MC MS h0 (fun v h _ _ => v = none ∧ Qr h) (fun _ _ _ _ => False) y_M_body.cls y_M_body.name b_M_body 11 ([] : List ExceptionTableEntry) none 139 [(0, .ref x0), (3, .int x3)] [] h 0 0 := by
  unfold w_M_body_L139 at hw
  intro p e s m args below meth c hC H locs ls k n hE hl hR hS hk hn
  obtain ⟨hx, hb, hown, hlocks, htab, hml, hr, hB, hA, hnm⟩ := id hC
  have hts := hB.1.1.at args
  refine lv_aload_n hx hb (xb_d D_M_body 74 rfl) rfl (lv_at hl 0 rfl) ?_
  obtain ⟨hk1, hw⟩ := hw
  refine xb_getI (C := R_M) (T := F_M) (N := 97) hx hb 8 17 hts fin_M hown hR hk1 (by decide) rfl (by decide) rfl (hts _ m_ff69da61) (fun _ h9 => h9) (xb_d D_M_body 75 rfl) ?_
  refine lv_if_ne (tgt := 150) hx hb (xb_d D_M_body 76 rfl) rfl (fun hc2 => ?_) (fun hc2 => ?_)
  · have hw := hw.1 hc2
    exact am_M_body_L150 l hfl D A σ MC MS h0 Qr x0 x3 h hw p e s m args below meth c hC H locs ls k n hE (lv_sub hl [0, 1] rfl) hR hS (by omega) (by omega)
  · have hw := hw.2 hc2
    refine lv_aload_n hx hb (xb_d D_M_body 77 rfl) rfl (lv_at hl 0 rfl) ?_
    refine xb_call0 (D := D) (A := A) (σ := σ) (h := h) (d := 7) (maxL := 5) (rest := []) (av := [.ref x0]) (fun T hT X => by obtain ⟨cb9, ra9, rb9, rc9⟩ := xb_recv (ci := 8) hR rfl hk1 (by decide); exact xt_invV X hx hown (hts _ m_4644df8e) (hts _ m_2230da74) (hts _ m_7fd46769) (xt_sigOf (hts _ m_ed213729)) nm_M_expression (by rw [hT]; exact ra9) rb9 rc9 (g := F0 m 147 ls [.ref x0]) rfl (argsL := []) (rest := []) rfl rfl (by rw [hb]; exact (xb_d D_M_body 78 rfl))) (ok_M_expression l hfl D A σ x0 h _ hw) (hml.trans hl.1.symm) (by rw [hb]; exact (xb_d D_M_body 78 rfl)) (Nat.le_of_ble_eq_true rfl) (Nat.le_of_ble_eq_true rfl) (Nat.le_of_ble_eq_true rfl) (show k ≤ MC by omega) (show n ≤ MS by omega) (xt_w1 hB.1 m_ed213729) (xt_cdOf hB.1 m_ed213729) (hts _ m_d5ed7bed) hB hR hS hA (fun vv h3 H locs hq hEh3 hR hS => ?_)
    obtain ⟨rfl, hw⟩ := hq
    have hw := hw hEh3
    have hE := hE.tr hEh3
    refine W.eq (g2 := F0 m 150 ls []) rfl ?_
    exact am_M_body_L150 l hfl D A σ MC MS h0 Qr x0 x3 h3 hw p e s m args below meth c hC H locs ls k n hE (lv_sub hl [0, 1] rfl) hR hS (by omega) (by omega)

set_option maxHeartbeats 4000000 in
set_option maxRecDepth 100000 in
theorem am_M_body_L126 (l : Launch) (hfl : l.flags = pinnedFlags ++ [noTraceFlag]) (D : va_G) (A : Nat → Prop) (σ MC MS : Nat) (h0 : xb_H) (Qr : xb_H → Prop) (K72 : Nat → Int32 → Int64 → Int64 → Int64 → xb_H → Prop) (hK72 : ∀ (x0 : Nat) (x3 : Int32) (x4 : Int64) (x6 : Int64) (x8 : Int64) (h : xb_H), K72 x0 x3 x4 x6 x8 h → xb_am l D A σ 8 MC MS h0 (fun v h _ _ => v = none ∧ Qr h) (fun _ _ _ _ => False) y_M_body.cls y_M_body.name b_M_body 11 ([] : List ExceptionTableEntry) none 72 [(0, .ref x0), (3, .int x3), (4, .long x4), (6, .long x6), (8, .long x8)] [] h 0 0) (x0 : Nat) (x3 : Int32) (x4 : Int64) (x6 : Int64) (x8 : Int64) (h : xb_H) (hw : w_M_body_L126 K72 Qr x0 x3 x4 x6 x8 h) : xb_am l D A σ 8 MC MS h0 (fun v h _ _ => v = none ∧ Qr h) (fun _ _ _ _ => False) y_M_body.cls y_M_body.name b_M_body 11 ([] : List ExceptionTableEntry) none 126 [(0, .ref x0), (3, .int x3), (4, .long x4), (6, .long x6), (8, .long x8)] [] h 0 0 := by
  unfold w_M_body_L126 at hw
  intro p e s m args below meth c hC H locs ls k n hE hl hR hS hk hn
  obtain ⟨hx, hb, hown, hlocks, htab, hml, hr, hB, hA, hnm⟩ := id hC
  have hts := hB.1.1.at args
  refine lv_aload_n hx hb (xb_d D_M_body 67 rfl) rfl (lv_at hl 0 rfl) ?_
  obtain ⟨hk1, hw⟩ := hw
  refine xb_call0 (D := D) (A := A) (σ := σ) (h := h) (d := 4) (maxL := 2) (rest := []) (av := [.ref x0]) (fun T hT X => by obtain ⟨cb9, ra9, rb9, rc9⟩ := xb_recv (ci := 8) hR rfl hk1 (by decide); exact xt_invV X hx hown (hts _ m_8b8b9169) (hts _ m_667aad99) (hts _ m_67a4431f) (xt_sigOf (hts _ m_8f1ca5e5)) nm_M_valueType (by rw [hT]; exact ra9) rb9 rc9 (g := F0 m 127 ls [.ref x0]) rfl (argsL := []) (rest := []) rfl rfl (by rw [hb]; exact (xb_d D_M_body 68 rfl))) (ok_M_valueType l hfl D A σ x0 h _ hw) (hml.trans hl.1.symm) (by rw [hb]; exact (xb_d D_M_body 68 rfl)) (Nat.le_of_ble_eq_true rfl) (Nat.le_of_ble_eq_true rfl) (Nat.le_of_ble_eq_true rfl) (show k ≤ MC by omega) (show n ≤ MS by omega) (xt_w1 hB.1 m_8f1ca5e5) (xt_cdOf hB.1 m_8f1ca5e5) (hts _ m_d5ed7bed) hB hR hS hA (fun vv h2 H locs hq hEh2 hR hS => ?_)
  obtain ⟨rfl, hw⟩ := hq
  have hw := hw hEh2
  have hE := hE.tr hEh2
  refine W.eq (g2 := F0 m 130 ls []) rfl ?_
  refine lv_lload hx hb (xb_d D_M_body 69 rfl) (lv_at hl 4 rfl) ?_
  refine lv_lconst (v := 1) hx hb (xb_d D_M_body 70 rfl) (by decide) ?_
  refine lv_ladd hx hb (xb_d D_M_body 71 rfl) ?_
  obtain ⟨v4, ev4⟩ : ∃ x : Int64, x = (x8 + 1) := ⟨_, rfl⟩
  have hw := hw v4 ev4
  refine xt_numl (y := v4) ev4.symm ?_
  refine lv_lstore hx hb (xb_d D_M_body 72 rfl) hl (by decide) rfl (fun ls hl => ?_)
  have hl : lv_has ls 11 [(8, .long v4), (0, .ref x0), (3, .int x3), (4, .long x4), (6, .long x6)] := hl
  refine lv_goto (tgt := 72) hx hb (xb_d D_M_body 73 rfl) rfl ?_
  exact hK72 x0 x3 x4 x6 v4 h2 hw p e s m args below meth c hC H locs ls k n hE (lv_sub hl [1, 2, 3, 4, 0] rfl) hR hS (by omega) (by omega)

set_option maxHeartbeats 4000000 in
set_option maxRecDepth 100000 in
theorem am_M_body_L72 (l : Launch) (hfl : l.flags = pinnedFlags ++ [noTraceFlag]) (D : va_G) (A : Nat → Prop) (σ MC MS : Nat) (h0 : xb_H) (Qr : xb_H → Prop) (n9 : Nat) : ∀ (x0 : Nat) (x3 : Int32) (x4 : Int64) (x6 : Int64) (x8 : Int64) (h : xb_H), w_M_body_L72 Qr n9 x0 x3 x4 x6 x8 h → xb_am l D A σ 8 MC MS h0 (fun v h _ _ => v = none ∧ Qr h) (fun _ _ _ _ => False) y_M_body.cls y_M_body.name b_M_body 11 ([] : List ExceptionTableEntry) none 72 [(0, .ref x0), (3, .int x3), (4, .long x4), (6, .long x6), (8, .long x8)] [] h 0 0 := by
  induction n9 with
  | zero => intro x0 x3 x4 x6 x8 h hw; exact False.elim hw
  | succ n9 ih =>
    intro x0 x3 x4 x6 x8 h hw
    unfold w_M_body_L72 at hw
    intro p e s m args below meth c hC H locs ls k n hE hl hR hS hk hn
    obtain ⟨hx, hb, hown, hlocks, htab, hml, hr, hB, hA, hnm⟩ := id hC
    have hts := hB.1.1.at args
    refine lv_lload hx hb (xb_d D_M_body 41 rfl) (lv_at hl 4 rfl) ?_
    refine lv_lload hx hb (xb_d D_M_body 42 rfl) (lv_at hl 2 rfl) ?_
    refine xb_lc_ge (tgt := 139) hx hb (xb_d D_M_body 43 rfl) (xb_d D_M_body 44 rfl) rfl (fun hc1 => ?_) (fun hc1 => ?_)
    · have hw := hw.1 hc1
      exact am_M_body_L139 l hfl D A σ MC MS h0 Qr x0 x3 h hw p e s m args below meth c hC H locs ls k n hE (lv_sub hl [0, 1] rfl) hR hS (by omega) (by omega)
    · have hw := hw.2 hc1
      refine lv_aload_n hx hb (xb_d D_M_body 45 rfl) rfl (lv_at hl 0 rfl) ?_
      obtain ⟨hk2, hw⟩ := hw
      refine xb_getI (C := R_M) (T := F_M) (N := 97) hx hb 8 17 hts fin_M hown hR hk2 (by decide) rfl (by decide) rfl (hts _ m_ff69da61) (fun _ h9 => h9) (xb_d D_M_body 46 rfl) ?_
      refine lv_if_ne (tgt := 139) hx hb (xb_d D_M_body 47 rfl) rfl (fun hc3 => ?_) (fun hc3 => ?_)
      · have hw := hw.1 hc3
        exact am_M_body_L139 l hfl D A σ MC MS h0 Qr x0 x3 h hw p e s m args below meth c hC H locs ls k n hE (lv_sub hl [0, 1] rfl) hR hS (by omega) (by omega)
      · have hw := hw.2 hc3
        refine lv_aload_n hx hb (xb_d D_M_body 48 rfl) rfl (lv_at hl 0 rfl) ?_
        refine xb_getI (C := R_M) (T := F_M) (N := 97) hx hb 8 15 hts fin_M hown hR hk2 (by decide) rfl (by decide) rfl (hts _ m_6c2d27ad) (fun _ h9 => h9) (xb_d D_M_body 49 rfl) ?_
        obtain ⟨v4, ev4⟩ : ∃ x : Int32, x = (xb_i h x0 15) := ⟨_, rfl⟩
        have hw := hw v4 ev4
        refine xt_numi (y := v4) ev4.symm ?_
        refine lv_istore hx hb (xb_d D_M_body 50 rfl) hl (by decide) rfl (fun ls hl => ?_)
        have hl : lv_has ls 11 [(10, .int v4), (0, .ref x0), (3, .int x3), (4, .long x4), (6, .long x6), (8, .long x8)] := hl
        refine lv_lload hx hb (xb_d D_M_body 51 rfl) (lv_at hl 4 rfl) ?_
        refine lv_aload_n hx hb (xb_d D_M_body 52 rfl) rfl (lv_at hl 1 rfl) ?_
        refine xb_call0 (D := D) (A := A) (σ := σ) (h := h) (d := 4) (maxL := 5) (rest := [.long x6]) (av := [.ref x0]) (fun T hT X => by obtain ⟨cb9, ra9, rb9, rc9⟩ := xb_recv (ci := 8) hR rfl hk2 (by decide); exact xt_invV X hx hown (hts _ m_e991293f) (hts _ m_385a74b3) (hts _ m_c9fbcd02) (xt_sigOf (hts _ m_1f53f210)) nm_M_count (by rw [hT]; exact ra9) rb9 rc9 (g := F0 m 96 ls [.ref x0, .long x6]) rfl (argsL := []) (rest := [.long x6]) rfl rfl (by rw [hb]; exact (xb_d D_M_body 53 rfl))) (ok_M_count l hfl D A σ x0 h _ hw) (hml.trans hl.1.symm) (by rw [hb]; exact (xb_d D_M_body 53 rfl)) (Nat.le_of_ble_eq_true rfl) (Nat.le_of_ble_eq_true rfl) (Nat.le_of_ble_eq_true rfl) (show k ≤ MC by omega) (show n ≤ MS by omega) (xt_w1 hB.1 m_1f53f210) (xt_cdOf hB.1 m_1f53f210) (hts _ m_d5ed7bed) hB hR hS hA (fun vv h5 H locs hq hEh5 hR hS => ?_)
        obtain ⟨r6, rfl, hw⟩ := hq
        have hw := hw hEh5
        have hE := hE.tr hEh5
        refine W.eq (g2 := F0 m 99 ls [.long r6, .long x6]) rfl ?_
        refine lv_ladd hx hb (xb_d D_M_body 54 rfl) ?_
        obtain ⟨v7, ev7⟩ : ∃ x : Int64, x = (x6 + r6) := ⟨_, rfl⟩
        have hw := hw v7 ev7
        refine xt_numl (y := v7) ev7.symm ?_
        refine lv_lstore hx hb (xb_d D_M_body 55 rfl) hl (by decide) rfl (fun ls hl => ?_)
        have hl : lv_has ls 11 [(6, .long v7), (10, .int v4), (0, .ref x0), (3, .int x3), (4, .long x4), (8, .long x8)] := hl
        refine lv_aload_n hx hb (xb_d D_M_body 56 rfl) rfl (lv_at hl 2 rfl) ?_
        have hk2 : xb_k h5 x0 = 9 := hEh5.k hk2
        refine xb_getI (C := R_M) (T := F_M) (N := 97) hx hb 8 17 hts fin_M hown hR hk2 (by decide) rfl (by decide) rfl (hts _ m_ff69da61) (fun _ h9 => h9) (xb_d D_M_body 57 rfl) ?_
        refine lv_if_ne (tgt := 126) hx hb (xb_d D_M_body 58 rfl) rfl (fun hc8 => ?_) (fun hc8 => ?_)
        · have hw := hw.1 hc8
          exact am_M_body_L126 l hfl D A σ MC MS h0 Qr (w_M_body_L72 Qr n9) ih x0 x3 x4 v7 x8 h5 hw p e s m args below meth c hC H locs ls k n hE (lv_sub hl [2, 3, 4, 0, 5] rfl) hR hS (by omega) (by omega)
        · have hw := hw.2 hc8
          refine lv_lload hx hb (xb_d D_M_body 59 rfl) (lv_at hl 0 rfl) ?_
          refine lv_ldc2 (v := 1000) hx hb hown (hts _ m_77b6987a) (xb_d D_M_body 60 rfl) ?_
          refine xb_lc_le (tgt := 126) hx hb (xb_d D_M_body 61 rfl) (xb_d D_M_body 62 rfl) rfl (fun hc9 => ?_) (fun hc9 => ?_)
          · have hw := hw.1 hc9
            exact am_M_body_L126 l hfl D A σ MC MS h0 Qr (w_M_body_L72 Qr n9) ih x0 x3 x4 v7 x8 h5 hw p e s m args below meth c hC H locs ls k n hE (lv_sub hl [2, 3, 4, 0, 5] rfl) hR hS (by omega) (by omega)
          · have hw := hw.2 hc9
            refine lv_aload_n hx hb (xb_d D_M_body 63 rfl) rfl (lv_at hl 2 rfl) ?_
            refine lv_bipush (v := 9) hx hb (xb_d D_M_body 64 rfl) (by decide) ?_
            refine lv_iload hx hb (xb_d D_M_body 65 rfl) (lv_at hl 1 rfl) ?_
            refine xb_call0 (D := D) (A := A) (σ := σ) (h := h5) (d := 2) (maxL := 3) (rest := []) (av := [.ref x0, .int 9, .int v4]) (fun T hT X => by obtain ⟨cb9, ra9, rb9, rc9⟩ := xb_recv (ci := 8) hR rfl hk2 (by decide); exact xt_invV X hx hown (hts _ m_939052ad) (hts _ m_29cc8c73) (hts _ m_3b1ac7ab) (xt_sigOf (hts _ m_8f062ecd)) nm_M_fail (by rw [hT]; exact ra9) rb9 rc9 (g := F0 m 123 ls [.int v4, .int 9, .ref x0]) rfl (argsL := [.int 9, .int v4]) (rest := []) rfl rfl (by rw [hb]; exact (xb_d D_M_body 66 rfl))) (ok_M_fail l hfl D A σ x0 9 v4 h5 _ hw) (hml.trans hl.1.symm) (by rw [hb]; exact (xb_d D_M_body 66 rfl)) (Nat.le_of_ble_eq_true rfl) (Nat.le_of_ble_eq_true rfl) (Nat.le_of_ble_eq_true rfl) (show k ≤ MC by omega) (show n ≤ MS by omega) (xt_w1 hB.1 m_8f062ecd) (xt_cdOf hB.1 m_8f062ecd) (hts _ m_d5ed7bed) hB hR hS hA (fun vv h10 H locs hq hEh10 hR hS => ?_)
            obtain ⟨rfl, hw⟩ := hq
            have hw := hw hEh10
            have hE := hE.tr hEh10
            refine W.eq (g2 := F0 m 126 ls []) rfl ?_
            exact am_M_body_L126 l hfl D A σ MC MS h0 Qr (w_M_body_L72 Qr n9) ih x0 x3 x4 v7 x8 h10 hw p e s m args below meth c hC H locs ls k n hE (lv_sub hl [2, 3, 4, 0, 5] rfl) hR hS (by omega) (by omega)

set_option maxHeartbeats 4000000 in
set_option maxRecDepth 100000 in
theorem am_M_body_L36 (l : Launch) (hfl : l.flags = pinnedFlags ++ [noTraceFlag]) (D : va_G) (A : Nat → Prop) (σ MC MS : Nat) (h0 : xb_H) (Qr : xb_H → Prop) (x0 : Nat) (x1 : Int64) (h : xb_H) (hw : w_M_body_L36 Qr x0 x1 h) : xb_am l D A σ 8 MC MS h0 (fun v h _ _ => v = none ∧ Qr h) (fun _ _ _ _ => False) y_M_body.cls y_M_body.name b_M_body 11 ([] : List ExceptionTableEntry) none 36 [(0, .ref x0), (1, .long x1)] [] h 0 0 := by
  unfold w_M_body_L36 at hw
  intro p e s m args below meth c hC H locs ls k n hE hl hR hS hk hn
  obtain ⟨hx, hb, hown, hlocks, htab, hml, hr, hB, hA, hnm⟩ := id hC
  have hts := hB.1.1.at args
  refine lv_aload_n hx hb (xb_d D_M_body 20 rfl) rfl (lv_at hl 0 rfl) ?_
  obtain ⟨hk1, hw⟩ := hw
  refine xb_getI (C := R_M) (T := F_M) (N := 97) hx hb 8 17 hts fin_M hown hR hk1 (by decide) rfl (by decide) rfl (hts _ m_ff69da61) (fun _ h9 => h9) (xb_d D_M_body 21 rfl) ?_
  refine lv_if_eq (tgt := 44) hx hb (xb_d D_M_body 22 rfl) rfl (fun hc2 => ?_) (fun hc2 => ?_)
  · have hw := hw.1 hc2
    refine lv_aload_n hx hb (xb_d D_M_body 24 rfl) rfl (lv_at hl 0 rfl) ?_
    refine xb_getI (C := R_M) (T := F_M) (N := 97) hx hb 8 16 hts fin_M hown hR hk1 (by decide) rfl (by decide) rfl (hts _ m_48124c81) (fun _ h9 => h9) (xb_d D_M_body 25 rfl) ?_
    obtain ⟨v3, ev3⟩ : ∃ x : Int32, x = (xb_i h x0 16) := ⟨_, rfl⟩
    have hw := hw v3 ev3
    refine xt_numi (y := v3) ev3.symm ?_
    refine lv_istore_n hx hb (xb_d D_M_body 26 rfl) rfl hl (by decide) rfl (fun ls hl => ?_)
    have hl : lv_has ls 11 [(3, .int v3), (0, .ref x0), (1, .long x1)] := hl
    refine lv_aload_n hx hb (xb_d D_M_body 27 rfl) rfl (lv_at hl 1 rfl) ?_
    refine lv_aload_n hx hb (xb_d D_M_body 28 rfl) rfl (lv_at hl 1 rfl) ?_
    refine xb_getI (C := R_M) (T := F_M) (N := 97) hx hb 8 15 hts fin_M hown hR hk1 (by decide) rfl (by decide) rfl (hts _ m_6c2d27ad) (fun _ h9 => h9) (xb_d D_M_body 29 rfl) ?_
    refine lv_lload_n hx hb (xb_d D_M_body 30 rfl) rfl (lv_at hl 2 rfl) ?_
    refine lv_l2i hx hb (xb_d D_M_body 31 rfl) rfl ?_
    refine lv_iadd hx hb (xb_d D_M_body 32 rfl) ?_
    refine xb_putI (C := R_M) (T := F_M) (N := 97) (ty := .int) (x := ((xb_i h x0 15) + (Int64.toInt32 x1))) hx hb 8 16 hts fin_M t_M t_M_ok n_M hown hR hS hk1 (by decide) rfl (by decide) rfl (hts _ m_48124c81) (fun _ h9 => h9) rfl (by decide +kernel) rfl rfl (xb_d D_M_body 33 rfl) (fun H locs hR hS => ?_)
    obtain ⟨h4, eh4⟩ : ∃ x : xb_H, x = xb_I h x0 16 ((xb_i h x0 15) + (Int64.toInt32 x1)) := ⟨_, rfl⟩
    rw [← eh4] at hR
    have hw := hw h4 eh4
    have hE : xb_ext h0 h4 := by rw [eh4]; exact hE
    refine lv_aload_n hx hb (xb_d D_M_body 34 rfl) rfl (lv_at hl 1 rfl) ?_
    have hk1 : xb_k h4 x0 = 9 := by rw [eh4]; exact hk1
    refine xb_call0 (D := D) (A := A) (σ := σ) (h := h4) (d := 4) (maxL := 5) (rest := []) (av := [.ref x0]) (fun T hT X => by obtain ⟨cb9, ra9, rb9, rc9⟩ := xb_recv (ci := 8) hR rfl hk1 (by decide); exact xt_invV X hx hown (hts _ m_e991293f) (hts _ m_385a74b3) (hts _ m_c9fbcd02) (xt_sigOf (hts _ m_1f53f210)) nm_M_count (by rw [hT]; exact ra9) rb9 rc9 (g := F0 m 61 ls [.ref x0]) rfl (argsL := []) (rest := []) rfl rfl (by rw [hb]; exact (xb_d D_M_body 35 rfl))) (ok_M_count l hfl D A σ x0 h4 _ hw) (hml.trans hl.1.symm) (by rw [hb]; exact (xb_d D_M_body 35 rfl)) (Nat.le_of_ble_eq_true rfl) (Nat.le_of_ble_eq_true rfl) (Nat.le_of_ble_eq_true rfl) (show k ≤ MC by omega) (show n ≤ MS by omega) (xt_w1 hB.1 m_1f53f210) (xt_cdOf hB.1 m_1f53f210) (hts _ m_d5ed7bed) hB hR hS hA (fun vv h5 H locs hq hEh5 hR hS => ?_)
    obtain ⟨r6, rfl, hw⟩ := hq
    have hw := hw hEh5
    have hE := hE.tr hEh5
    refine W.eq (g2 := F0 m 64 ls [.long r6]) rfl ?_
    refine lv_lstore hx hb (xb_d D_M_body 36 rfl) hl (by decide) rfl (fun ls hl => ?_)
    have hl : lv_has ls 11 [(4, .long r6), (3, .int v3), (0, .ref x0), (1, .long x1)] := hl
    refine lv_lconst (v := 0) hx hb (xb_d D_M_body 37 rfl) (by decide) ?_
    refine lv_lstore hx hb (xb_d D_M_body 38 rfl) hl (by decide) rfl (fun ls hl => ?_)
    have hl : lv_has ls 11 [(6, .long 0), (4, .long r6), (3, .int v3), (0, .ref x0), (1, .long x1)] := hl
    refine lv_lconst (v := 0) hx hb (xb_d D_M_body 39 rfl) (by decide) ?_
    refine lv_lstore hx hb (xb_d D_M_body 40 rfl) hl (by decide) rfl (fun ls hl => ?_)
    have hl : lv_has ls 11 [(8, .long 0), (6, .long 0), (4, .long r6), (3, .int v3), (0, .ref x0), (1, .long x1)] := hl
    obtain ⟨n8, hw⟩ := hw
    exact am_M_body_L72 l hfl D A σ MC MS h0 Qr n8 x0 v3 r6 0 0 h5 hw p e s m args below meth c hC H locs ls k n hE (lv_sub hl [4, 3, 2, 1, 0] rfl) hR hS (by omega) (by omega)
  · have hw := hw.2 hc2
    exact xb_vret 0 0 hx hb hr hlocks (show k + 0 ≤ MC by omega) (show n + 0 ≤ MS by omega) hE hR hS (xb_d D_M_body 23 rfl) hw

set_option maxHeartbeats 4000000 in
set_option maxRecDepth 100000 in
theorem ok_M_body (l : Launch) (hfl : l.flags = pinnedFlags ++ [noTraceFlag]) (D : va_G) (A : Nat → Prop) (σ : Nat) (x0 : Nat) (h : xb_H) (Qr : xb_H → Prop) (hw : w_M_body x0 h Qr) : xb_Met l y_M_body [.code y_M_body b_M_body 11 none] (xb_rm 8 0 0) (xb_Pc D A σ h [.ref x0]) (xb_Qc D A h 0 0 (fun v h _ _ => v = none ∧ Qr h) (fun _ _ _ _ => False)) A := by
  refine xb_ofAm (cc := b_M_body) (by decide) (Nat.le_of_ble_eq_true rfl) ?_
  unfold w_M_body at hw
  show xb_am l D A σ 8 0 0 h (fun v h _ _ => v = none ∧ Qr h) (fun _ _ _ _ => False) y_M_body.cls y_M_body.name b_M_body 11 ([] : List ExceptionTableEntry) none 0 [(0, .ref x0)] [] h 0 0
  obtain ⟨MC, hMC⟩ : ∃ x, x = 0 := ⟨_, rfl⟩
  obtain ⟨MS, hMS⟩ : ∃ x, x = 0 := ⟨_, rfl⟩
  rw [show xb_am l D A σ 8 0 0 = xb_am l D A σ 8 MC MS by rw [hMC, hMS]]
  obtain ⟨h0, hh0⟩ : ∃ x, x = h := ⟨_, rfl⟩
  rw [show xb_am l D A σ 8 MC MS h = xb_am l D A σ 8 MC MS h0 by rw [hh0]]
  intro p e s m args below meth c hC H locs ls k n hE hl hR hS hk hn
  obtain ⟨hx, hb, hown, hlocks, htab, hml, hr, hB, hA, hnm⟩ := id hC
  have hts := hB.1.1.at args
  refine lv_aload_n hx hb (xb_d D_M_body 0 rfl) rfl (lv_at hl 0 rfl) ?_
  obtain ⟨hk1, hw⟩ := hw
  refine xb_call0 (D := D) (A := A) (σ := σ) (h := h) (d := 4) (maxL := 5) (rest := []) (av := [.ref x0]) (fun T hT X => by obtain ⟨cb9, ra9, rb9, rc9⟩ := xb_recv (ci := 8) hR rfl hk1 (by decide); exact xt_invV X hx hown (hts _ m_e991293f) (hts _ m_385a74b3) (hts _ m_c9fbcd02) (xt_sigOf (hts _ m_1f53f210)) nm_M_count (by rw [hT]; exact ra9) rb9 rc9 (g := F0 m 1 ls [.ref x0]) rfl (argsL := []) (rest := []) rfl rfl (by rw [hb]; exact (xb_d D_M_body 1 rfl))) (ok_M_count l hfl D A σ x0 h _ hw) (hml.trans hl.1.symm) (by rw [hb]; exact (xb_d D_M_body 1 rfl)) (Nat.le_of_ble_eq_true rfl) (Nat.le_of_ble_eq_true rfl) (Nat.le_of_ble_eq_true rfl) (show k ≤ MC by omega) (show n ≤ MS by omega) (xt_w1 hB.1 m_1f53f210) (xt_cdOf hB.1 m_1f53f210) (hts _ m_d5ed7bed) hB hR hS hA (fun vv h2 H locs hq hEh2 hR hS => ?_)
  obtain ⟨r3, rfl, hw⟩ := hq
  have hw := hw hEh2
  have hE := hE.tr hEh2
  refine W.eq (g2 := F0 m 4 ls [.long r3]) rfl ?_
  refine lv_lstore_n hx hb (xb_d D_M_body 2 rfl) rfl hl (by decide) rfl (fun ls hl => ?_)
  have hl : lv_has ls 11 [(1, .long r3), (0, .ref x0)] := hl
  refine lv_aload_n hx hb (xb_d D_M_body 3 rfl) rfl (lv_at hl 1 rfl) ?_
  have hk1 : xb_k h2 x0 = 9 := hEh2.k hk1
  refine xb_getI (C := R_M) (T := F_M) (N := 97) hx hb 8 17 hts fin_M hown hR hk1 (by decide) rfl (by decide) rfl (hts _ m_ff69da61) (fun _ h9 => h9) (xb_d D_M_body 4 rfl) ?_
  refine lv_if_ne (tgt := 36) hx hb (xb_d D_M_body 5 rfl) rfl (fun hc4 => ?_) (fun hc4 => ?_)
  · have hw := hw.1 hc4
    exact am_M_body_L36 l hfl D A σ MC MS h0 Qr x0 r3 h2 hw p e s m args below meth c hC H locs ls k n hE (lv_sub hl [1, 0] rfl) hR hS (by omega) (by omega)
  · have hw := hw.2 hc4
    refine lv_lload_n hx hb (xb_d D_M_body 6 rfl) rfl (lv_at hl 0 rfl) ?_
    refine lv_aload_n hx hb (xb_d D_M_body 7 rfl) rfl (lv_at hl 1 rfl) ?_
    refine xb_getI (C := R_M) (T := F_M) (N := 97) hx hb 8 16 hts fin_M hown hR hk1 (by decide) rfl (by decide) rfl (hts _ m_48124c81) (fun _ h9 => h9) (xb_d D_M_body 8 rfl) ?_
    refine lv_aload_n hx hb (xb_d D_M_body 9 rfl) rfl (lv_at hl 1 rfl) ?_
    refine xb_getI (C := R_M) (T := F_M) (N := 97) hx hb 8 15 hts fin_M hown hR hk1 (by decide) rfl (by decide) rfl (hts _ m_6c2d27ad) (fun _ h9 => h9) (xb_d D_M_body 10 rfl) ?_
    refine lv_isub hx hb (xb_d D_M_body 11 rfl) ?_
    refine lv_i2l hx hb (xb_d D_M_body 12 rfl) rfl ?_
    refine xb_lc_le (tgt := 36) hx hb (xb_d D_M_body 13 rfl) (xb_d D_M_body 14 rfl) rfl (fun hc5 => ?_) (fun hc5 => ?_)
    · have hw := hw.1 hc5
      exact am_M_body_L36 l hfl D A σ MC MS h0 Qr x0 r3 h2 hw p e s m args below meth c hC H locs ls k n hE (lv_sub hl [1, 0] rfl) hR hS (by omega) (by omega)
    · have hw := hw.2 hc5
      refine lv_aload_n hx hb (xb_d D_M_body 15 rfl) rfl (lv_at hl 1 rfl) ?_
      refine lv_iconst (v := 2) hx hb (xb_d D_M_body 16 rfl) (by decide) ?_
      refine lv_aload_n hx hb (xb_d D_M_body 17 rfl) rfl (lv_at hl 1 rfl) ?_
      refine xb_getI (C := R_M) (T := F_M) (N := 97) hx hb 8 16 hts fin_M hown hR hk1 (by decide) rfl (by decide) rfl (hts _ m_48124c81) (fun _ h9 => h9) (xb_d D_M_body 18 rfl) ?_
      refine xb_call0 (D := D) (A := A) (σ := σ) (h := h2) (d := 2) (maxL := 3) (rest := []) (av := [.ref x0, .int 2, .int (xb_i h2 x0 16)]) (fun T hT X => by obtain ⟨cb9, ra9, rb9, rc9⟩ := xb_recv (ci := 8) hR rfl hk1 (by decide); exact xt_invV X hx hown (hts _ m_939052ad) (hts _ m_29cc8c73) (hts _ m_3b1ac7ab) (xt_sigOf (hts _ m_8f062ecd)) nm_M_fail (by rw [hT]; exact ra9) rb9 rc9 (g := F0 m 33 ls [.int (xb_i h2 x0 16), .int 2, .ref x0]) rfl (argsL := [.int 2, .int (xb_i h2 x0 16)]) (rest := []) rfl rfl (by rw [hb]; exact (xb_d D_M_body 19 rfl))) (ok_M_fail l hfl D A σ x0 2 (xb_i h2 x0 16) h2 _ hw) (hml.trans hl.1.symm) (by rw [hb]; exact (xb_d D_M_body 19 rfl)) (Nat.le_of_ble_eq_true rfl) (Nat.le_of_ble_eq_true rfl) (Nat.le_of_ble_eq_true rfl) (show k ≤ MC by omega) (show n ≤ MS by omega) (xt_w1 hB.1 m_8f062ecd) (xt_cdOf hB.1 m_8f062ecd) (hts _ m_d5ed7bed) hB hR hS hA (fun vv h6 H locs hq hEh6 hR hS => ?_)
      obtain ⟨rfl, hw⟩ := hq
      have hw := hw hEh6
      have hE := hE.tr hEh6
      refine W.eq (g2 := F0 m 36 ls []) rfl ?_
      exact am_M_body_L36 l hfl D A σ MC MS h0 Qr x0 r3 h6 hw p e s m args below meth c hC H locs ls k n hE (lv_sub hl [1, 0] rfl) hR hS (by omega) (by omega)

