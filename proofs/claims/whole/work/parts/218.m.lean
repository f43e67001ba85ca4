theorem m_ea77f79f : (.methodLink "StackHost$Checker" 199 y_StackModule_resultType : Cond) ∈ xt_tbl := xt_in (xt_t5 (List.mem_of_getElem? (i := 200) (by decide +kernel))) (by decide +kernel)
theorem m_1d164a26 : (.instanceMethod y_StackModule_resultType : Cond) ∈ xt_tbl := xt_in (xt_t5 (List.mem_of_getElem? (i := 201) (by decide +kernel))) (by decide +kernel)
theorem m_57f47ef8 : (.selects "StackHost$StackModule" y_StackModule_resultType y_StackModule_resultType : Cond) ∈ xt_tbl := xt_in (xt_t5 (List.mem_of_getElem? (i := 202) (by decide +kernel))) (by decide +kernel)
theorem m_fa540915 : (.code y_StackModule_resultType b_StackModule_resultType 2 (some .int) : Cond) ∈ xt_tbl := xt_in (xt_t5 (List.mem_of_getElem? (i := 203) (by decide +kernel))) (by decide +kernel)
theorem m_cafa8207 : (.methodLink "StackHost$Checker" 264 y_StackModule_parameterType : Cond) ∈ xt_tbl := xt_in (xt_t6 (List.mem_of_getElem? (i := 3) (by decide +kernel))) (by decide +kernel)
theorem m_8ffa2b15 : (.instanceMethod y_StackModule_parameterType : Cond) ∈ xt_tbl := xt_in (xt_t6 (List.mem_of_getElem? (i := 4) (by decide +kernel))) (by decide +kernel)
theorem m_4526d57b : (.selects "StackHost$StackModule" y_StackModule_parameterType y_StackModule_parameterType : Cond) ∈ xt_tbl := xt_in (xt_t6 (List.mem_of_getElem? (i := 5) (by decide +kernel))) (by decide +kernel)
theorem m_4049389a : (.code y_StackModule_parameterType b_StackModule_parameterType 3 (some .int) : Cond) ∈ xt_tbl := xt_in (xt_t6 (List.mem_of_getElem? (i := 6) (by decide +kernel))) (by decide +kernel)
theorem m_fc980843 : (.methodLink "StackHost$Checker" 161 y_StackModule_parameters : Cond) ∈ xt_tbl := xt_in (xt_t4 (List.mem_of_getElem? (i := 159) (by decide +kernel))) (by decide +kernel)
theorem nm_StackModule_resultType : xt_nm y_StackModule_resultType 1 := ⟨by decide +kernel, by decide +kernel⟩
theorem nm_StackModule_parameterType : xt_nm y_StackModule_parameterType 2 := ⟨by decide +kernel, by decide +kernel⟩
set_option maxRecDepth 100000 in
def T_Checker_checkCall : List (Nat × Instr × Nat) := [(0, .aload_n 0, 1), (1, .getfield 38, 3), (4, .iload_n 1, 1), (5, .invokevirtual 161, 3), (8, .iconst 1, 1), (9, .isub, 1), (10, .istore_n 2, 1), (11, .iload_n 2, 1), (12, .ifCond .lt 23, 3), (15, .aload_n 0, 1), (16, .aload_n 0, 1), (17, .getfield 38, 3), (20, .iload_n 1, 1), (21, .iload_n 2, 1), (22, .invokevirtual 264, 3), (25, .invokevirtual 251, 3), (28, .pop, 1), (29, .iinc 2 (-1), 3), (32, .goto (-21), 3), (35, .aload_n 0, 1), (36, .aload_n 0, 1), (37, .getfield 38, 3), (40, .iload_n 1, 1), (41, .invokevirtual 199, 3), (44, .invokevirtual 236, 3), (47, .return_, 1)]
theorem D_Checker_checkCall : ∀ q ∈ T_Checker_checkCall, decode b_Checker_checkCall q.1 = .ok (q.2.1, q.2.2) := by decide +kernel
def w_Checker_checkCall_L11 (Qr : xb_H → Prop) (Qt : String → xb_H → Prop) : Nat → Nat → Int32 → Int32 → xb_H → Nat → Nat → Prop
  | 0, _, _, _, _, _, _ => False
  | n9 + 1, x0, x1, x2, h, bc, bs =>
    ((x2 < (0 : Int32) → xb_k h x0 = 5 ∧ ∃ b3 : Nat, (xb_r h x0 0) = some b3 ∧ xb_k h b3 = 3 ∧ w_StackModule_resultType b3 x1 h (fun (r6 : Int32) (h5 : xb_H) => xb_ext h h5 → w_Checker_put x0 r6 h5 (fun (h7 : xb_H) => xb_ext h5 h7 → Qr h7))) ∧ (¬ x2 < (0 : Int32) → xb_k h x0 = 5 ∧ ∃ b10 : Nat, (xb_r h x0 0) = some b10 ∧ xb_k h b10 = 3 ∧ w_StackModule_parameterType b10 x1 x2 h (fun (r13 : Int32) (h12 : xb_H) => xb_ext h h12 → ∃ c16 sc16 : Nat, c16 ≤ bc ∧ sc16 ≤ bs ∧ w_Checker_take x0 r13 h12 c16 sc16 (fun (r15 : Int32) (h14 : xb_H) => xb_ext h12 h14 → w_Checker_checkCall_L11 Qr Qt n9 x0 x1 (x2 + (-1)) h14 (bc - c16) (bs - sc16)) Qt)))

def w_Checker_checkCall (x0 : Nat) (x1 : Int32) (h : xb_H) (bc : Nat) (bs : Nat) (Qr : xb_H → Prop) (Qt : String → xb_H → Prop) : Prop :=
    xb_k h x0 = 5 ∧ ∃ b2 : Nat, (xb_r h x0 0) = some b2 ∧ xb_k h b2 = 3 ∧ w_StackModule_parameters b2 x1 h (fun (r5 : Int32) (h4 : xb_H) => xb_ext h h4 → ∀ v6 : Int32, v6 = (r5 - 1) → (∃ n8 : Nat, w_Checker_checkCall_L11 Qr Qt n8 x0 x1 v6 h4 bc bs))

set_option maxHeartbeats 4000000 in
set_option maxRecDepth 100000 in
theorem am_Checker_checkCall_L11 (l : Launch) (hfl : l.flags = pinnedFlags ++ [noTraceFlag]) (D : va_G) (A : Nat → Prop) (σ MC MS : Nat) (h0 : xb_H) (Qr : xb_H → Prop) (Qt : String → xb_H → Prop) (n9 : Nat) : ∀ (x0 : Nat) (x1 : Int32) (x2 : Int32) (h : xb_H) (bc : Nat) (bs : Nat), w_Checker_checkCall_L11 Qr Qt n9 x0 x1 x2 h bc bs → xb_am l D A σ 4 MC MS h0 (fun v h => v = none ∧ Qr h) Qt y_Checker_checkCall.cls y_Checker_checkCall.name b_Checker_checkCall 3 ([] : List ExceptionTableEntry) none 11 [(0, .ref x0), (1, .int x1), (2, .int x2)] [] h bc bs := by
  induction n9 with
  | zero => intro x0 x1 x2 h bc bs hw; exact False.elim hw
  | succ n9 ih =>
    intro x0 x1 x2 h bc bs hw
    unfold w_Checker_checkCall_L11 at hw
    intro p e s m args below meth c hC H locs ls k n hE hl hR hS hk hn
    obtain ⟨hx, hb, hown, hlocks, htab, hml, hr, hB, hA, hnm⟩ := id hC
    have hts := hB.1.1.at args
    refine lv_iload_n hx hb (xb_d D_Checker_checkCall 7 rfl) rfl (lv_at hl 2 rfl) ?_
    refine lv_if_lt (tgt := 35) hx hb (xb_d D_Checker_checkCall 8 rfl) rfl (fun hc1 => ?_) (fun hc1 => ?_)
    · have hw := hw.1 hc1
      refine lv_aload_n hx hb (xb_d D_Checker_checkCall 19 rfl) rfl (lv_at hl 0 rfl) ?_
      refine lv_aload_n hx hb (xb_d D_Checker_checkCall 20 rfl) rfl (lv_at hl 0 rfl) ?_
      obtain ⟨hk2, hw⟩ := hw
      refine xb_getP (C := R_Checker) (T := F_Checker) (N := 17) hx hb 4 0 hts fin_Checker hown hR hk2 (by decide) rfl (by decide) rfl (hts _ m_070795bc) (fun _ h9 => h9) (xb_d D_Checker_checkCall 21 rfl) ?_
      obtain ⟨b3, eb3, hw⟩ := hw
      refine xb_some eb3 ?_
      refine lv_iload_n hx hb (xb_d D_Checker_checkCall 22 rfl) rfl (lv_at hl 1 rfl) ?_
      obtain ⟨hk4, hw⟩ := hw
      refine xb_call (D := D) (A := A) (σ := σ) (h := h) (d := 3) (mc := 0) (ms := 0) (maxL := 2) (rest := [.ref x0]) (av := [.ref b3, .int x1]) (fun T hT X => by obtain ⟨cb, r1, r2, r3⟩ := xb_recv (ci := 2) hR rfl hk4 (by decide); exact xt_invV X hx hown (hts _ m_ea77f79f) (hts _ m_1d164a26) (hts _ m_57f47ef8) (xt_sigOf (hts _ m_fa540915)) nm_StackModule_resultType (by rw [hT]; exact r1) r2 r3 (g := F0 m 41 ls [.int x1, .ref b3, .ref x0]) rfl (argsL := [.int x1]) (rest := [.ref x0]) rfl rfl (by rw [hb]; exact (xb_d D_Checker_checkCall 23 rfl))) (ok_StackModule_resultType l hfl D A σ b3 x1 h _ hw) (hml.trans hl.1.symm) (by rw [hb]; exact (xb_d D_Checker_checkCall 23 rfl)) (Nat.le_of_ble_eq_true rfl) (Nat.le_of_ble_eq_true rfl) (Nat.le_of_ble_eq_true rfl) (show k + 0 ≤ MC by omega) (show n + 0 ≤ MS by omega) (xt_w1 hB.1 m_fa540915) (xt_cdOf hB.1 m_fa540915) (hts _ m_9c375545) hB hR hS hA (fun vv h5 H locs hq hEh5 hR hS => ?_) (fun XX ax h5 H locs hq hEh5 hex hR hS => ?_)
      · obtain ⟨r6, rfl, hw⟩ := hq
        have hw := hw hEh5
        have hE := hE.tr hEh5
        refine W.eq (g2 := F0 m 44 ls [.int r6, .ref x0]) rfl ?_
        have hk2 : xb_k h5 x0 = 5 := hEh5.k hk2
        refine xb_call (D := D) (A := A) (σ := σ) (h := h5) (d := 2) (mc := 0) (ms := 0) (maxL := 2) (rest := []) (av := [.ref x0, .int r6]) (fun T hT X => by obtain ⟨cb, r1, r2, r3⟩ := xb_recv (ci := 4) hR rfl hk2 (by decide); exact xt_invV X hx hown (hts _ m_761ff7fc) (hts _ m_e867be1e) (hts _ m_098fc344) (xt_sigOf (hts _ m_43ff17c7)) nm_Checker_put (by rw [hT]; exact r1) r2 r3 (g := F0 m 44 ls [.int r6, .ref x0]) rfl (argsL := [.int r6]) (rest := []) rfl rfl (by rw [hb]; exact (xb_d D_Checker_checkCall 24 rfl))) (ok_Checker_put l hfl D A σ x0 r6 h5 _ hw) (hml.trans hl.1.symm) (by rw [hb]; exact (xb_d D_Checker_checkCall 24 rfl)) (Nat.le_of_ble_eq_true rfl) (Nat.le_of_ble_eq_true rfl) (Nat.le_of_ble_eq_true rfl) (show k + 0 ≤ MC by omega) (show n + 0 ≤ MS by omega) (xt_w1 hB.1 m_43ff17c7) (xt_cdOf hB.1 m_43ff17c7) (hts _ m_44748ce5) hB hR hS hA (fun vv h7 H locs hq hEh7 hR hS => ?_) (fun XX ax h7 H locs hq hEh7 hex hR hS => ?_)
        · obtain ⟨rfl, hw⟩ := hq
          have hw := hw hEh7
          have hE := hE.tr hEh7
          refine W.eq (g2 := F0 m 47 ls []) rfl ?_
          exact xb_vret hx hb hr hlocks (show k ≤ MC by omega) (show n ≤ MS by omega) hE hR hS (xb_d D_Checker_checkCall 25 rfl) hw
        · exact False.elim hq
      · exact False.elim hq
    · have hw := hw.2 hc1
      refine lv_aload_n hx hb (xb_d D_Checker_checkCall 9 rfl) rfl (lv_at hl 0 rfl) ?_
      refine lv_aload_n hx hb (xb_d D_Checker_checkCall 10 rfl) rfl (lv_at hl 0 rfl) ?_
      obtain ⟨hk9, hw⟩ := hw
      refine xb_getP (C := R_Checker) (T := F_Checker) (N := 17) hx hb 4 0 hts fin_Checker hown hR hk9 (by decide) rfl (by decide) rfl (hts _ m_070795bc) (fun _ h9 => h9) (xb_d D_Checker_checkCall 11 rfl) ?_
      obtain ⟨b10, eb10, hw⟩ := hw
      refine xb_some eb10 ?_
      refine lv_iload_n hx hb (xb_d D_Checker_checkCall 12 rfl) rfl (lv_at hl 1 rfl) ?_
      refine lv_iload_n hx hb (xb_d D_Checker_checkCall 13 rfl) rfl (lv_at hl 2 rfl) ?_
      obtain ⟨hk11, hw⟩ := hw
      refine xb_call (D := D) (A := A) (σ := σ) (h := h) (d := 3) (mc := 0) (ms := 0) (maxL := 3) (rest := [.ref x0]) (av := [.ref b10, .int x1, .int x2]) (fun T hT X => by obtain ⟨cb, r1, r2, r3⟩ := xb_recv (ci := 2) hR rfl hk11 (by decide); exact xt_invV X hx hown (hts _ m_cafa8207) (hts _ m_8ffa2b15) (hts _ m_4526d57b) (xt_sigOf (hts _ m_4049389a)) nm_StackModule_parameterType (by rw [hT]; exact r1) r2 r3 (g := F0 m 22 ls [.int x2, .int x1, .ref b10, .ref x0]) rfl (argsL := [.int x1, .int x2]) (rest := [.ref x0]) rfl rfl (by rw [hb]; exact (xb_d D_Checker_checkCall 14 rfl))) (ok_StackModule_parameterType l hfl D A σ b10 x1 x2 h _ hw) (hml.trans hl.1.symm) (by rw [hb]; exact (xb_d D_Checker_checkCall 14 rfl)) (Nat.le_of_ble_eq_true rfl) (Nat.le_of_ble_eq_true rfl) (Nat.le_of_ble_eq_true rfl) (show k + 0 ≤ MC by omega) (show n + 0 ≤ MS by omega) (xt_w1 hB.1 m_4049389a) (xt_cdOf hB.1 m_4049389a) (hts _ m_9c375545) hB hR hS hA (fun vv h12 H locs hq hEh12 hR hS => ?_) (fun XX ax h12 H locs hq hEh12 hex hR hS => ?_)
      · obtain ⟨r13, rfl, hw⟩ := hq
        have hw := hw hEh12
        have hE := hE.tr hEh12
        refine W.eq (g2 := F0 m 25 ls [.int r13, .ref x0]) rfl ?_
        have hk9 : xb_k h12 x0 = 5 := hEh12.k hk9
        obtain ⟨c16, sc16, hlc16, hlsc16, hw⟩ := hw
        refine xb_call (D := D) (A := A) (σ := σ) (h := h12) (d := 3) (mc := c16) (ms := sc16) (maxL := 3) (rest := []) (av := [.ref x0, .int r13]) (fun T hT X => by obtain ⟨cb, r1, r2, r3⟩ := xb_recv (ci := 4) hR rfl hk9 (by decide); exact xt_invV X hx hown (hts _ m_0b33e20f) (hts _ m_338dda25) (hts _ m_d7dc08f9) (xt_sigOf (hts _ m_b71cce2b)) nm_Checker_take (by rw [hT]; exact r1) r2 r3 (g := F0 m 25 ls [.int r13, .ref x0]) rfl (argsL := [.int r13]) (rest := []) rfl rfl (by rw [hb]; exact (xb_d D_Checker_checkCall 15 rfl))) (ok_Checker_take l hfl D A σ x0 r13 h12 c16 sc16 _ _ hw) (hml.trans hl.1.symm) (by rw [hb]; exact (xb_d D_Checker_checkCall 15 rfl)) (Nat.le_of_ble_eq_true rfl) (Nat.le_of_ble_eq_true rfl) (Nat.le_of_ble_eq_true rfl) (show k + c16 ≤ MC by omega) (show n + sc16 ≤ MS by omega) (xt_w1 hB.1 m_b71cce2b) (xt_cdOf hB.1 m_b71cce2b) (hts _ m_44748ce5) hB hR hS hA (fun vv h14 H locs hq hEh14 hR hS => ?_) (fun XX ax h14 H locs hq hEh14 hex hR hS => ?_)
        · obtain ⟨r15, rfl, hw⟩ := hq
          have hw := hw hEh14
          have hE := hE.tr hEh14
          refine W.eq (g2 := F0 m 28 ls [.int r15]) rfl ?_
          refine lv_pop hx hb (xb_d D_Checker_checkCall 16 rfl) rfl ?_
          refine lv_iinc (v := (x2 + (-1))) (k := 2) hx hb (xb_d D_Checker_checkCall 17 rfl) hl rfl (by first | rfl | decide) (by decide) rfl (fun ls hl => ?_)
          have hl : lv_has ls 3 [(2, .int (x2 + (-1))), (0, .ref x0), (1, .int x1)] := hl
          refine lv_goto (tgt := 11) hx hb (xb_d D_Checker_checkCall 18 rfl) rfl ?_
          exact ih x0 x1 (x2 + (-1)) h14 (bc - c16) (bs - sc16) hw p e s m args below meth c hC H locs ls (k + c16) (n + sc16) hE (lv_sub hl [1, 2, 0] rfl) hR hS (by omega) (by omega)
        · exact xb_pass hlocks (fun x hx9 => by rw [htab] at hx9; first | cases hx9 | (simp [tableOf] at hx9; rcases hx9 with rfl | rfl | rfl <;> decide)) (show (k + c16) ≤ MC by omega) (show (n + sc16) ≤ MS by omega) (hE.tr hEh14) hR hS hex hq
      · exact False.elim hq

set_option maxHeartbeats 4000000 in
set_option maxRecDepth 100000 in
theorem ok_Checker_checkCall (l : Launch) (hfl : l.flags = pinnedFlags ++ [noTraceFlag]) (D : va_G) (A : Nat → Prop) (σ : Nat) (x0 : Nat) (x1 : Int32) (h : xb_H) (bc : Nat) (bs : Nat) (Qr : xb_H → Prop) (Qt : String → xb_H → Prop) (hw : w_Checker_checkCall x0 x1 h bc bs Qr Qt) : xt_Met l y_Checker_checkCall [.code y_Checker_checkCall b_Checker_checkCall 3 none] (xb_rm 4 bc bs) (xb_Pc D A σ h [.ref x0, .int x1]) (xb_Qc D A h (fun v h => v = none ∧ Qr h) Qt) bc bs A := by
  refine xb_ofAm (cc := b_Checker_checkCall) (by decide) (Nat.le_of_ble_eq_true rfl) ?_
  unfold w_Checker_checkCall at hw
  show xb_am l D A σ 4 bc bs h (fun v h => v = none ∧ Qr h) Qt y_Checker_checkCall.cls y_Checker_checkCall.name b_Checker_checkCall 3 ([] : List ExceptionTableEntry) none 0 [(0, .ref x0), (1, .int x1)] [] h bc bs
  obtain ⟨MC, hMC⟩ : ∃ x, x = bc := ⟨_, rfl⟩
  obtain ⟨MS, hMS⟩ : ∃ x, x = bs := ⟨_, rfl⟩
  rw [show xb_am l D A σ 4 bc bs = xb_am l D A σ 4 MC MS by rw [hMC, hMS]]
  obtain ⟨h0, hh0⟩ : ∃ x, x = h := ⟨_, rfl⟩
  rw [show xb_am l D A σ 4 MC MS h = xb_am l D A σ 4 MC MS h0 by rw [hh0]]
  intro p e s m args below meth c hC H locs ls k n hE hl hR hS hk hn
  obtain ⟨hx, hb, hown, hlocks, htab, hml, hr, hB, hA, hnm⟩ := id hC
  have hts := hB.1.1.at args
  refine lv_aload_n hx hb (xb_d D_Checker_checkCall 0 rfl) rfl (lv_at hl 0 rfl) ?_
  obtain ⟨hk1, hw⟩ := hw
  refine xb_getP (C := R_Checker) (T := F_Checker) (N := 17) hx hb 4 0 hts fin_Checker hown hR hk1 (by decide) rfl (by decide) rfl (hts _ m_070795bc) (fun _ h9 => h9) (xb_d D_Checker_checkCall 1 rfl) ?_
  obtain ⟨b2, eb2, hw⟩ := hw
  refine xb_some eb2 ?_
  refine lv_iload_n hx hb (xb_d D_Checker_checkCall 2 rfl) rfl (lv_at hl 1 rfl) ?_
  obtain ⟨hk3, hw⟩ := hw
  refine xb_call (D := D) (A := A) (σ := σ) (h := h) (d := 3) (mc := 0) (ms := 0) (maxL := 2) (rest := []) (av := [.ref b2, .int x1]) (fun T hT X => by obtain ⟨cb, r1, r2, r3⟩ := xb_recv (ci := 2) hR rfl hk3 (by decide); exact xt_invV X hx hown (hts _ m_fc980843) (hts _ m_aa97372f) (hts _ m_8160d9b3) (xt_sigOf (hts _ m_8621e59b)) nm_StackModule_parameters (by rw [hT]; exact r1) r2 r3 (g := F0 m 5 ls [.int x1, .ref b2]) rfl (argsL := [.int x1]) (rest := []) rfl rfl (by rw [hb]; exact (xb_d D_Checker_checkCall 3 rfl))) (ok_StackModule_parameters l hfl D A σ b2 x1 h _ hw) (hml.trans hl.1.symm) (by rw [hb]; exact (xb_d D_Checker_checkCall 3 rfl)) (Nat.le_of_ble_eq_true rfl) (Nat.le_of_ble_eq_true rfl) (Nat.le_of_ble_eq_true rfl) (show k + 0 ≤ MC by omega) (show n + 0 ≤ MS by omega) (xt_w1 hB.1 m_8621e59b) (xt_cdOf hB.1 m_8621e59b) (hts _ m_9c375545) hB hR hS hA (fun vv h4 H locs hq hEh4 hR hS => ?_) (fun XX ax h4 H locs hq hEh4 hex hR hS => ?_)
  · obtain ⟨r5, rfl, hw⟩ := hq
    have hw := hw hEh4
    have hE := hE.tr hEh4
    refine W.eq (g2 := F0 m 8 ls [.int r5]) rfl ?_
    refine lv_iconst (v := 1) hx hb (xb_d D_Checker_checkCall 4 rfl) (by decide) ?_
    refine lv_isub hx hb (xb_d D_Checker_checkCall 5 rfl) ?_
    obtain ⟨v6, ev6⟩ : ∃ x : Int32, x = (r5 - 1) := ⟨_, rfl⟩
    have hw := hw v6 ev6
    refine xt_numi (y := v6) ev6.symm ?_
    refine lv_istore_n hx hb (xb_d D_Checker_checkCall 6 rfl) rfl hl (by decide) rfl (fun ls hl => ?_)
    have hl : lv_has ls 3 [(2, .int v6), (0, .ref x0), (1, .int x1)] := hl
    obtain ⟨n8, hw⟩ := hw
    exact am_Checker_checkCall_L11 l hfl D A σ MC MS h0 Qr Qt n8 x0 x1 v6 h4 bc bs hw p e s m args below meth c hC H locs ls k n hE (lv_sub hl [1, 2, 0] rfl) hR hS (by omega) (by omega)
  · exact False.elim hq

theorem m_0a242445 : (.methodLink "StackHost$Checker" 254 y_Checker_require : Cond) ∈ xt_tbl := xt_in (xt_t5 (List.mem_of_getElem? (i := 231) (by decide +kernel))) (by decide +kernel)
theorem m_a99c45f7 : (.instanceMethod y_Checker_require : Cond) ∈ xt_tbl := xt_in (xt_t5 (List.mem_of_getElem? (i := 233) (by decide +kernel))) (by decide +kernel)
theorem m_978d7491 : (.selects "StackHost$Checker" y_Checker_require y_Checker_require : Cond) ∈ xt_tbl := xt_in (xt_v4 (q := (⟨"StackHost$Checker", "require", "(ZI)V"⟩, 17)) (List.mem_of_getElem? (i := 4) (by decide +kernel))) (by decide +kernel)
theorem m_01f2fc97 : (.code y_Checker_require b_Checker_require 3 none : Cond) ∈ xt_tbl := xt_in (xt_t5 (List.mem_of_getElem? (i := 234) (by decide +kernel))) (by decide +kernel)
theorem m_1d11d801 : (.methodLink "StackHost$Checker" 202 y_Checker_openThing : Cond) ∈ xt_tbl := xt_in (xt_t5 (List.mem_of_getElem? (i := 204) (by decide +kernel))) (by decide +kernel)
theorem m_4317fe73 : (.instanceMethod y_Checker_openThing : Cond) ∈ xt_tbl := xt_in (xt_t5 (List.mem_of_getElem? (i := 206) (by decide +kernel))) (by decide +kernel)
theorem m_b4ed1ff8 : (.selects "StackHost$Checker" y_Checker_openThing y_Checker_openThing : Cond) ∈ xt_tbl := xt_in (xt_v3 (q := (⟨"StackHost$Checker", "openThing", "(IIII)V"⟩, 17)) (List.mem_of_getElem? (i := 14) (by decide +kernel))) (by decide +kernel)
theorem m_b39dcac6 : (.code y_Checker_openThing b_Checker_openThing 5 none : Cond) ∈ xt_tbl := xt_in (xt_t5 (List.mem_of_getElem? (i := 207) (by decide +kernel))) (by decide +kernel)
theorem nm_Checker_require : xt_nm y_Checker_require 2 := ⟨by decide +kernel, by decide +kernel⟩
theorem nm_Checker_openThing : xt_nm y_Checker_openThing 4 := ⟨by decide +kernel, by decide +kernel⟩
set_option maxRecDepth 100000 in
def T_Checker_checkElse : List (Nat × Instr × Nat) := [(0, .aload_n 0, 1), (1, .getfield 28, 3), (4, .aload_n 0, 1), (5, .getfield 193, 3), (8, .iconst 1, 1), (9, .isub, 1), (10, .iaload, 1), (11, .istore_n 1, 1), (12, .aload_n 0, 1), (13, .iload_n 1, 1), (14, .invokevirtual 251, 3), (17, .pop, 1), (18, .aload_n 0, 1), (19, .aload_n 0, 1), (20, .getfield 187, 3), (23, .aload_n 0, 1), (24, .getfield 31, 3), (27, .aload_n 0, 1), (28, .getfield 193, 3), (31, .iconst 1, 1), (32, .isub, 1), (33, .iaload, 1), (34, .if_icmp .ne 7, 3), (37, .iconst 1, 1), (38, .goto 4, 3), (41, .iconst 0, 1), (42, .bipush 21, 2), (44, .invokevirtual 254, 3), (47, .aload_n 0, 1), (48, .dup, 1), (49, .getfield 193, 3), (52, .iconst 1, 1), (53, .isub, 1), (54, .putfield 193, 3), (57, .aload_n 0, 1), (58, .iconst 5, 1), (59, .aload_n 0, 1), (60, .getfield 22, 3), (63, .aload_n 0, 1), (64, .getfield 193, 3), (67, .iaload, 1), (68, .iload_n 1, 1), (69, .iload_n 1, 1), (70, .invokevirtual 202, 3), (73, .return_, 1)]
theorem D_Checker_checkElse : ∀ q ∈ T_Checker_checkElse, decode b_Checker_checkElse q.1 = .ok (q.2.1, q.2.2) := by decide +kernel
def w_Checker_checkElse_L42 (Qr : xb_H → Prop) (Qt : String → xb_H → Prop) (x0 : Nat) (x1 : Int32) (y0 : Int32) (y1 : Nat) (h : xb_H) (bc : Nat) (bs : Nat) : Prop :=
    xb_k h y1 = 5 ∧ ∃ c4 sc4 : Nat, c4 ≤ bc ∧ sc4 ≤ bs ∧ w_Checker_require y1 y0 21 h c4 sc4 (fun (h2 : xb_H) => xb_ext h h2 → xb_k h2 x0 = 5 ∧ ∀ h6 : xb_H, h6 = xb_I h2 x0 16 ((xb_i h2 x0 16) - 1) → ∃ b7 : Nat, (xb_r h6 x0 11) = some b7 ∧ xb_k h6 b7 = 102 ∧ vp_in (xb_i h6 x0 16) (xb_n h6 b7) ∧ w_Checker_openThing x0 5 (xb_i h6 b7 (Int32.toNatClampNeg (xb_i h6 x0 16))) x1 x1 h6 (fun (h10 : xb_H) => xb_ext h6 h10 → Qr h10)) Qt

def w_Checker_checkElse (x0 : Nat) (h : xb_H) (bc : Nat) (bs : Nat) (Qr : xb_H → Prop) (Qt : String → xb_H → Prop) : Prop :=
    xb_k h x0 = 5 ∧ ∃ b2 : Nat, (xb_r h x0 13) = some b2 ∧ xb_k h b2 = 102 ∧ vp_in ((xb_i h x0 16) - 1) (xb_n h b2) ∧ ∀ v5 : Int32, v5 = (xb_i h b2 (Int32.toNatClampNeg ((xb_i h x0 16) - 1))) → ∃ c8 sc8 : Nat, c8 ≤ bc ∧ sc8 ≤ bs ∧ w_Checker_take x0 v5 h c8 sc8 (fun (r7 : Int32) (h6 : xb_H) => xb_ext h h6 → ∃ b9 : Nat, (xb_r h6 x0 14) = some b9 ∧ xb_k h6 b9 = 102 ∧ vp_in ((xb_i h6 x0 16) - 1) (xb_n h6 b9) ∧ ((¬ (xb_i h6 x0 4) = (xb_i h6 b9 (Int32.toNatClampNeg ((xb_i h6 x0 16) - 1))) → w_Checker_checkElse_L42 Qr Qt x0 v5 0 x0 h6 (bc - c8) (bs - sc8)) ∧ ((xb_i h6 x0 4) = (xb_i h6 b9 (Int32.toNatClampNeg ((xb_i h6 x0 16) - 1))) → w_Checker_checkElse_L42 Qr Qt x0 v5 1 x0 h6 (bc - c8) (bs - sc8)))) Qt

set_option maxHeartbeats 4000000 in
set_option maxRecDepth 100000 in
theorem am_Checker_checkElse_L42 (l : Launch) (hfl : l.flags = pinnedFlags ++ [noTraceFlag]) (D : va_G) (A : Nat → Prop) (σ MC MS : Nat) (h0 : xb_H) (Qr : xb_H → Prop) (Qt : String → xb_H → Prop) (x0 : Nat) (x1 : Int32) (y0 : Int32) (y1 : Nat) (h : xb_H) (bc : Nat) (bs : Nat) (hw : w_Checker_checkElse_L42 Qr Qt x0 x1 y0 y1 h bc bs) : xb_am l D A σ 4 MC MS h0 (fun v h => v = none ∧ Qr h) Qt y_Checker_checkElse.cls y_Checker_checkElse.name b_Checker_checkElse 2 ([] : List ExceptionTableEntry) none 42 [(0, .ref x0), (1, .int x1)] [.int y0, .ref y1] h bc bs := by
  unfold w_Checker_checkElse_L42 at hw
  intro p e s m args below meth c hC H locs ls k n hE hl hR hS hk hn
  obtain ⟨hx, hb, hown, hlocks, htab, hml, hr, hB, hA, hnm⟩ := id hC
  have hts := hB.1.1.at args
  refine lv_bipush (v := 21) hx hb (xb_d D_Checker_checkElse 26 rfl) (by decide) ?_
  obtain ⟨hk1, hw⟩ := hw
  obtain ⟨c4, sc4, hlc4, hlsc4, hw⟩ := hw
  refine xb_call (D := D) (A := A) (σ := σ) (h := h) (d := 3) (mc := c4) (ms := sc4) (maxL := 3) (rest := []) (av := [.ref y1, .int y0, .int 21]) (fun T hT X => by obtain ⟨cb, r1, r2, r3⟩ := xb_recv (ci := 4) hR rfl hk1 (by decide); exact xt_invV X hx hown (hts _ m_0a242445) (hts _ m_a99c45f7) (hts _ m_978d7491) (xt_sigOf (hts _ m_01f2fc97)) nm_Checker_require (by rw [hT]; exact r1) r2 r3 (g := F0 m 44 ls [.int 21, .int y0, .ref y1]) rfl (argsL := [.int y0, .int 21]) (rest := []) rfl rfl (by rw [hb]; exact (xb_d D_Checker_checkElse 27 rfl))) (ok_Checker_require l hfl D A σ y1 y0 21 h c4 sc4 _ _ hw) (hml.trans hl.1.symm) (by rw [hb]; exact (xb_d D_Checker_checkElse 27 rfl)) (Nat.le_of_ble_eq_true rfl) (Nat.le_of_ble_eq_true rfl) (Nat.le_of_ble_eq_true rfl) (show k + c4 ≤ MC by omega) (show n + sc4 ≤ MS by omega) (xt_w1 hB.1 m_01f2fc97) (xt_cdOf hB.1 m_01f2fc97) (hts _ m_44748ce5) hB hR hS hA (fun vv h2 H locs hq hEh2 hR hS => ?_) (fun XX ax h2 H locs hq hEh2 hex hR hS => ?_)
  · obtain ⟨rfl, hw⟩ := hq
    have hw := hw hEh2
    have hE := hE.tr hEh2
    refine W.eq (g2 := F0 m 47 ls []) rfl ?_
    refine lv_aload_n hx hb (xb_d D_Checker_checkElse 28 rfl) rfl (lv_at hl 0 rfl) ?_
    refine lv_dup hx hb (xb_d D_Checker_checkElse 29 rfl) rfl ?_
    obtain ⟨hk5, hw⟩ := hw
    refine xb_getI (C := R_Checker) (T := F_Checker) (N := 17) hx hb 4 16 hts fin_Checker hown hR hk5 (by decide) rfl (by decide) rfl (hts _ m_47f80c41) (fun _ h9 => h9) (xb_d D_Checker_checkElse 30 rfl) ?_
    refine lv_iconst (v := 1) hx hb (xb_d D_Checker_checkElse 31 rfl) (by decide) ?_
    refine lv_isub hx hb (xb_d D_Checker_checkElse 32 rfl) ?_
    refine xb_putI (C := R_Checker) (T := F_Checker) (N := 17) (ty := .int) (x := ((xb_i h2 x0 16) - 1)) hx hb 4 16 hts fin_Checker t_Checker t_Checker_ok n_Checker hown hR hS hk5 (by decide) rfl (by decide) rfl (hts _ m_47f80c41) (fun _ h9 => h9) rfl (by decide +kernel) rfl rfl (xb_d D_Checker_checkElse 33 rfl) (fun H locs hR hS => ?_)
    obtain ⟨h6, eh6⟩ : ∃ x : xb_H, x = xb_I h2 x0 16 ((xb_i h2 x0 16) - 1) := ⟨_, rfl⟩
    rw [← eh6] at hR
    have hw := hw h6 eh6
    have hE : xb_ext h0 h6 := by rw [eh6]; exact hE
    refine lv_aload_n hx hb (xb_d D_Checker_checkElse 34 rfl) rfl (lv_at hl 0 rfl) ?_
    refine lv_iconst (v := 5) hx hb (xb_d D_Checker_checkElse 35 rfl) (by decide) ?_
    refine lv_aload_n hx hb (xb_d D_Checker_checkElse 36 rfl) rfl (lv_at hl 0 rfl) ?_
    have hk5 : xb_k h6 x0 = 5 := by rw [eh6]; exact hk5
    refine xb_getP (C := R_Checker) (T := F_Checker) (N := 17) hx hb 4 11 hts fin_Checker hown hR hk5 (by decide) rfl (by decide) rfl (hts _ m_64d01396) (fun _ h9 => h9) (xb_d D_Checker_checkElse 37 rfl) ?_
    obtain ⟨b7, eb7, hw⟩ := hw
    refine xb_some eb7 ?_
    refine lv_aload_n hx hb (xb_d D_Checker_checkElse 38 rfl) rfl (lv_at hl 0 rfl) ?_
    refine xb_getI (C := R_Checker) (T := F_Checker) (N := 17) hx hb 4 16 hts fin_Checker hown hR hk5 (by decide) rfl (by decide) rfl (hts _ m_47f80c41) (fun _ h9 => h9) (xb_d D_Checker_checkElse 39 rfl) ?_
    obtain ⟨hk9, hw⟩ := hw
    obtain ⟨hi8, hw⟩ := hw
    refine xb_iald hx hb hR hk9 hi8 (xb_d D_Checker_checkElse 40 rfl) ?_
    refine lv_iload_n hx hb (xb_d D_Checker_checkElse 41 rfl) rfl (lv_at hl 1 rfl) ?_
    refine lv_iload_n hx hb (xb_d D_Checker_checkElse 42 rfl) rfl (lv_at hl 1 rfl) ?_
    refine xb_call (D := D) (A := A) (σ := σ) (h := h6) (d := 2) (mc := 0) (ms := 0) (maxL := 5) (rest := []) (av := [.ref x0, .int 5, .int (xb_i h6 b7 (Int32.toNatClampNeg (xb_i h6 x0 16))), .int x1, .int x1]) (fun T hT X => by obtain ⟨cb, r1, r2, r3⟩ := xb_recv (ci := 4) hR rfl hk5 (by decide); exact xt_invV X hx hown (hts _ m_1d11d801) (hts _ m_4317fe73) (hts _ m_b4ed1ff8) (xt_sigOf (hts _ m_b39dcac6)) nm_Checker_openThing (by rw [hT]; exact r1) r2 r3 (g := F0 m 70 ls [.int x1, .int x1, .int (xb_i h6 b7 (Int32.toNatClampNeg (xb_i h6 x0 16))), .int 5, .ref x0]) rfl (argsL := [.int 5, .int (xb_i h6 b7 (Int32.toNatClampNeg (xb_i h6 x0 16))), .int x1, .int x1]) (rest := []) rfl rfl (by rw [hb]; exact (xb_d D_Checker_checkElse 43 rfl))) (ok_Checker_openThing l hfl D A σ x0 5 (xb_i h6 b7 (Int32.toNatClampNeg (xb_i h6 x0 16))) x1 x1 h6 _ hw) (hml.trans hl.1.symm) (by rw [hb]; exact (xb_d D_Checker_checkElse 43 rfl)) (Nat.le_of_ble_eq_true rfl) (Nat.le_of_ble_eq_true rfl) (Nat.le_of_ble_eq_true rfl) (show (k + c4) + 0 ≤ MC by omega) (show (n + sc4) + 0 ≤ MS by omega) (xt_w1 hB.1 m_b39dcac6) (xt_cdOf hB.1 m_b39dcac6) (hts _ m_44748ce5) hB hR hS hA (fun vv h10 H locs hq hEh10 hR hS => ?_) (fun XX ax h10 H locs hq hEh10 hex hR hS => ?_)
    · obtain ⟨rfl, hw⟩ := hq
      have hw := hw hEh10
      have hE := hE.tr hEh10
      refine W.eq (g2 := F0 m 73 ls []) rfl ?_
      exact xb_vret hx hb hr hlocks (show (k + c4) ≤ MC by omega) (show (n + sc4) ≤ MS by omega) hE hR hS (xb_d D_Checker_checkElse 44 rfl) hw
    · exact False.elim hq
  · exact xb_pass hlocks (fun x hx9 => by rw [htab] at hx9; first | cases hx9 | (simp [tableOf] at hx9; rcases hx9 with rfl | rfl | rfl <;> decide)) (show (k + c4) ≤ MC by omega) (show (n + sc4) ≤ MS by omega) (hE.tr hEh2) hR hS hex hq

set_option maxHeartbeats 4000000 in
set_option maxRecDepth 100000 in
theorem ok_Checker_checkElse (l : Launch) (hfl : l.flags = pinnedFlags ++ [noTraceFlag]) (D : va_G) (A : Nat → Prop) (σ : Nat) (x0 : Nat) (h : xb_H) (bc : Nat) (bs : Nat) (Qr : xb_H → Prop) (Qt : String → xb_H → Prop) (hw : w_Checker_checkElse x0 h bc bs Qr Qt) : xt_Met l y_Checker_checkElse [.code y_Checker_checkElse b_Checker_checkElse 2 none] (xb_rm 4 bc bs) (xb_Pc D A σ h [.ref x0]) (xb_Qc D A h (fun v h => v = none ∧ Qr h) Qt) bc bs A := by
  refine xb_ofAm (cc := b_Checker_checkElse) (by decide) (Nat.le_of_ble_eq_true rfl) ?_
  unfold w_Checker_checkElse at hw
  show xb_am l D A σ 4 bc bs h (fun v h => v = none ∧ Qr h) Qt y_Checker_checkElse.cls y_Checker_checkElse.name b_Checker_checkElse 2 ([] : List ExceptionTableEntry) none 0 [(0, .ref x0)] [] h bc bs
  obtain ⟨MC, hMC⟩ : ∃ x, x = bc := ⟨_, rfl⟩
  obtain ⟨MS, hMS⟩ : ∃ x, x = bs := ⟨_, rfl⟩
  rw [show xb_am l D A σ 4 bc bs = xb_am l D A σ 4 MC MS by rw [hMC, hMS]]
  obtain ⟨h0, hh0⟩ : ∃ x, x = h := ⟨_, rfl⟩
  rw [show xb_am l D A σ 4 MC MS h = xb_am l D A σ 4 MC MS h0 by rw [hh0]]
  intro p e s m args below meth c hC H locs ls k n hE hl hR hS hk hn
  obtain ⟨hx, hb, hown, hlocks, htab, hml, hr, hB, hA, hnm⟩ := id hC
  have hts := hB.1.1.at args
  refine lv_aload_n hx hb (xb_d D_Checker_checkElse 0 rfl) rfl (lv_at hl 0 rfl) ?_
  obtain ⟨hk1, hw⟩ := hw
  refine xb_getP (C := R_Checker) (T := F_Checker) (N := 17) hx hb 4 13 hts fin_Checker hown hR hk1 (by decide) rfl (by decide) rfl (hts _ m_8413ec5e) (fun _ h9 => h9) (xb_d D_Checker_checkElse 1 rfl) ?_
  obtain ⟨b2, eb2, hw⟩ := hw
  refine xb_some eb2 ?_
  refine lv_aload_n hx hb (xb_d D_Checker_checkElse 2 rfl) rfl (lv_at hl 0 rfl) ?_
  refine xb_getI (C := R_Checker) (T := F_Checker) (N := 17) hx hb 4 16 hts fin_Checker hown hR hk1 (by decide) rfl (by decide) rfl (hts _ m_47f80c41) (fun _ h9 => h9) (xb_d D_Checker_checkElse 3 rfl) ?_
  refine lv_iconst (v := 1) hx hb (xb_d D_Checker_checkElse 4 rfl) (by decide) ?_
  refine lv_isub hx hb (xb_d D_Checker_checkElse 5 rfl) ?_
  obtain ⟨hk4, hw⟩ := hw
  obtain ⟨hi3, hw⟩ := hw
  refine xb_iald hx hb hR hk4 hi3 (xb_d D_Checker_checkElse 6 rfl) ?_
  obtain ⟨v5, ev5⟩ : ∃ x : Int32, x = (xb_i h b2 (Int32.toNatClampNeg ((xb_i h x0 16) - 1))) := ⟨_, rfl⟩
  have hw := hw v5 ev5
  refine xt_numi (y := v5) ev5.symm ?_
  refine lv_istore_n hx hb (xb_d D_Checker_checkElse 7 rfl) rfl hl (by decide) rfl (fun ls hl => ?_)
  have hl : lv_has ls 2 [(1, .int v5), (0, .ref x0)] := hl
  refine lv_aload_n hx hb (xb_d D_Checker_checkElse 8 rfl) rfl (lv_at hl 1 rfl) ?_
  refine lv_iload_n hx hb (xb_d D_Checker_checkElse 9 rfl) rfl (lv_at hl 0 rfl) ?_
  obtain ⟨c8, sc8, hlc8, hlsc8, hw⟩ := hw
  refine xb_call (D := D) (A := A) (σ := σ) (h := h) (d := 3) (mc := c8) (ms := sc8) (maxL := 3) (rest := []) (av := [.ref x0, .int v5]) (fun T hT X => by obtain ⟨cb, r1, r2, r3⟩ := xb_recv (ci := 4) hR rfl hk1 (by decide); exact xt_invV X hx hown (hts _ m_0b33e20f) (hts _ m_338dda25) (hts _ m_d7dc08f9) (xt_sigOf (hts _ m_b71cce2b)) nm_Checker_take (by rw [hT]; exact r1) r2 r3 (g := F0 m 14 ls [.int v5, .ref x0]) rfl (argsL := [.int v5]) (rest := []) rfl rfl (by rw [hb]; exact (xb_d D_Checker_checkElse 10 rfl))) (ok_Checker_take l hfl D A σ x0 v5 h c8 sc8 _ _ hw) (hml.trans hl.1.symm) (by rw [hb]; exact (xb_d D_Checker_checkElse 10 rfl)) (Nat.le_of_ble_eq_true rfl) (Nat.le_of_ble_eq_true rfl) (Nat.le_of_ble_eq_true rfl) (show k + c8 ≤ MC by omega) (show n + sc8 ≤ MS by omega) (xt_w1 hB.1 m_b71cce2b) (xt_cdOf hB.1 m_b71cce2b) (hts _ m_44748ce5) hB hR hS hA (fun vv h6 H locs hq hEh6 hR hS => ?_) (fun XX ax h6 H locs hq hEh6 hex hR hS => ?_)
  · obtain ⟨r7, rfl, hw⟩ := hq
    have hw := hw hEh6
    have hE := hE.tr hEh6
    refine W.eq (g2 := F0 m 17 ls [.int r7]) rfl ?_
    refine lv_pop hx hb (xb_d D_Checker_checkElse 11 rfl) rfl ?_
    refine lv_aload_n hx hb (xb_d D_Checker_checkElse 12 rfl) rfl (lv_at hl 1 rfl) ?_
    refine lv_aload_n hx hb (xb_d D_Checker_checkElse 13 rfl) rfl (lv_at hl 1 rfl) ?_
    have hk1 : xb_k h6 x0 = 5 := hEh6.k hk1
    refine xb_getI (C := R_Checker) (T := F_Checker) (N := 17) hx hb 4 4 hts fin_Checker hown hR hk1 (by decide) rfl (by decide) rfl (hts _ m_b89190d5) (fun _ h9 => h9) (xb_d D_Checker_checkElse 14 rfl) ?_
    refine lv_aload_n hx hb (xb_d D_Checker_checkElse 15 rfl) rfl (lv_at hl 1 rfl) ?_
    refine xb_getP (C := R_Checker) (T := F_Checker) (N := 17) hx hb 4 14 hts fin_Checker hown hR hk1 (by decide) rfl (by decide) rfl (hts _ m_a3869304) (fun _ h9 => h9) (xb_d D_Checker_checkElse 16 rfl) ?_
    obtain ⟨b9, eb9, hw⟩ := hw
    refine xb_some eb9 ?_
    refine lv_aload_n hx hb (xb_d D_Checker_checkElse 17 rfl) rfl (lv_at hl 1 rfl) ?_
    refine xb_getI (C := R_Checker) (T := F_Checker) (N := 17) hx hb 4 16 hts fin_Checker hown hR hk1 (by decide) rfl (by decide) rfl (hts _ m_47f80c41) (fun _ h9 => h9) (xb_d D_Checker_checkElse 18 rfl) ?_
    refine lv_iconst (v := 1) hx hb (xb_d D_Checker_checkElse 19 rfl) (by decide) ?_
    refine lv_isub hx hb (xb_d D_Checker_checkElse 20 rfl) ?_
    obtain ⟨hk11, hw⟩ := hw
    obtain ⟨hi10, hw⟩ := hw
    refine xb_iald hx hb hR hk11 hi10 (xb_d D_Checker_checkElse 21 rfl) ?_
    refine lv_icmp_ne (tgt := 41) hx hb (xb_d D_Checker_checkElse 22 rfl) rfl (fun hc12 => ?_) (fun hc12 => ?_)
    · have hw := hw.1 hc12
      refine lv_iconst (v := 0) hx hb (xb_d D_Checker_checkElse 25 rfl) (by decide) ?_
      exact am_Checker_checkElse_L42 l hfl D A σ MC MS h0 Qr Qt x0 v5 0 x0 h6 (bc - c8) (bs - sc8) hw p e s m args below meth c hC H locs ls (k + c8) (n + sc8) hE (lv_sub hl [1, 0] rfl) hR hS (by omega) (by omega)
    · have hw := hw.2 hc12
      refine lv_iconst (v := 1) hx hb (xb_d D_Checker_checkElse 23 rfl) (by decide) ?_
      refine lv_goto (tgt := 42) hx hb (xb_d D_Checker_checkElse 24 rfl) rfl ?_
      exact am_Checker_checkElse_L42 l hfl D A σ MC MS h0 Qr Qt x0 v5 1 x0 h6 (bc - c8) (bs - sc8) hw p e s m args below meth c hC H locs ls (k + c8) (n + sc8) hE (lv_sub hl [1, 0] rfl) hR hS (by omega) (by omega)
  · exact xb_pass hlocks (fun x hx9 => by rw [htab] at hx9; first | cases hx9 | (simp [tableOf] at hx9; rcases hx9 with rfl | rfl | rfl <;> decide)) (show (k + c8) ≤ MC by omega) (show (n + sc8) ≤ MS by omega) (hE.tr hEh6) hR hS hex hq

set_option maxRecDepth 100000 in
def T_Checker_checkEnd : List (Nat × Instr × Nat) := [(0, .aload_n 0, 1), (1, .getfield 28, 3), (4, .aload_n 0, 1), (5, .getfield 193, 3), (8, .iconst 1, 1), (9, .isub, 1), (10, .iaload, 1), (11, .istore_n 1, 1), (12, .aload_n 0, 1), (13, .iload_n 1, 1), (14, .invokevirtual 251, 3), (17, .pop, 1), (18, .aload_n 0, 1), (19, .aload_n 0, 1), (20, .getfield 187, 3), (23, .aload_n 0, 1), (24, .getfield 31, 3), (27, .aload_n 0, 1), (28, .getfield 193, 3), (31, .iconst 1, 1), (32, .isub, 1), (33, .iaload, 1), (34, .if_icmp .ne 7, 3), (37, .iconst 1, 1), (38, .goto 4, 3), (41, .iconst 0, 1), (42, .bipush 21, 2), (44, .invokevirtual 254, 3), (47, .aload_n 0, 1), (48, .aload_n 0, 1), (49, .getfield 18, 3), (52, .aload_n 0, 1), (53, .getfield 193, 3), (56, .iconst 1, 1), (57, .isub, 1), (58, .iaload, 1), (59, .iconst 4, 1), (60, .if_icmp .ne 9, 3), (63, .iload_n 1, 1), (64, .bipush 64, 2), (66, .if_icmp .ne 7, 3), (69, .iconst 1, 1), (70, .goto 4, 3), (73, .iconst 0, 1), (74, .bipush 21, 2), (76, .invokevirtual 254, 3), (79, .aload_n 0, 1), (80, .dup, 1), (81, .getfield 193, 3), (84, .iconst 1, 1), (85, .isub, 1), (86, .putfield 193, 3), (89, .aload_n 0, 1), (90, .iload_n 1, 1), (91, .invokevirtual 236, 3), (94, .return_, 1)]
theorem D_Checker_checkEnd : ∀ q ∈ T_Checker_checkEnd, decode b_Checker_checkEnd q.1 = .ok (q.2.1, q.2.2) := by decide +kernel
def w_Checker_checkEnd_L74 (Qr : xb_H → Prop) (Qt : String → xb_H → Prop) (x0 : Nat) (x1 : Int32) (y0 : Int32) (y1 : Nat) (h : xb_H) (bc : Nat) (bs : Nat) : Prop :=
    xb_k h y1 = 5 ∧ ∃ c4 sc4 : Nat, c4 ≤ bc ∧ sc4 ≤ bs ∧ w_Checker_require y1 y0 21 h c4 sc4 (fun (h2 : xb_H) => xb_ext h h2 → xb_k h2 x0 = 5 ∧ ∀ h6 : xb_H, h6 = xb_I h2 x0 16 ((xb_i h2 x0 16) - 1) → w_Checker_put x0 x1 h6 (fun (h7 : xb_H) => xb_ext h6 h7 → Qr h7)) Qt

def w_Checker_checkEnd_L69 (Qr : xb_H → Prop) (Qt : String → xb_H → Prop) (x0 : Nat) (x1 : Int32) (y0 : Nat) (h : xb_H) (bc : Nat) (bs : Nat) : Prop :=
    w_Checker_checkEnd_L74 Qr Qt x0 x1 1 y0 h bc bs

def w_Checker_checkEnd_L42 (Qr : xb_H → Prop) (Qt : String → xb_H → Prop) (x0 : Nat) (x1 : Int32) (y0 : Int32) (y1 : Nat) (h : xb_H) (bc : Nat) (bs : Nat) : Prop :=
    xb_k h y1 = 5 ∧ ∃ c4 sc4 : Nat, c4 ≤ bc ∧ sc4 ≤ bs ∧ w_Checker_require y1 y0 21 h c4 sc4 (fun (h2 : xb_H) => xb_ext h h2 → xb_k h2 x0 = 5 ∧ ∃ b6 : Nat, (xb_r h2 x0 10) = some b6 ∧ xb_k h2 b6 = 102 ∧ vp_in ((xb_i h2 x0 16) - 1) (xb_n h2 b6) ∧ ((¬ (xb_i h2 b6 (Int32.toNatClampNeg ((xb_i h2 x0 16) - 1))) = (4 : Int32) → w_Checker_checkEnd_L69 Qr Qt x0 x1 x0 h2 (bc - c4) (bs - sc4)) ∧ ((xb_i h2 b6 (Int32.toNatClampNeg ((xb_i h2 x0 16) - 1))) = (4 : Int32) → ((¬ x1 = (64 : Int32) → w_Checker_checkEnd_L74 Qr Qt x0 x1 0 x0 h2 (bc - c4) (bs - sc4)) ∧ (x1 = (64 : Int32) → w_Checker_checkEnd_L69 Qr Qt x0 x1 x0 h2 (bc - c4) (bs - sc4)))))) Qt

def w_Checker_checkEnd (x0 : Nat) (h : xb_H) (bc : Nat) (bs : Nat) (Qr : xb_H → Prop) (Qt : String → xb_H → Prop) : Prop :=
    xb_k h x0 = 5 ∧ ∃ b2 : Nat, (xb_r h x0 13) = some b2 ∧ xb_k h b2 = 102 ∧ vp_in ((xb_i h x0 16) - 1) (xb_n h b2) ∧ ∀ v5 : Int32, v5 = (xb_i h b2 (Int32.toNatClampNeg ((xb_i h x0 16) - 1))) → ∃ c8 sc8 : Nat, c8 ≤ bc ∧ sc8 ≤ bs ∧ w_Checker_take x0 v5 h c8 sc8 (fun (r7 : Int32) (h6 : xb_H) => xb_ext h h6 → ∃ b9 : Nat, (xb_r h6 x0 14) = some b9 ∧ xb_k h6 b9 = 102 ∧ vp_in ((xb_i h6 x0 16) - 1) (xb_n h6 b9) ∧ ((¬ (xb_i h6 x0 4) = (xb_i h6 b9 (Int32.toNatClampNeg ((xb_i h6 x0 16) - 1))) → w_Checker_checkEnd_L42 Qr Qt x0 v5 0 x0 h6 (bc - c8) (bs - sc8)) ∧ ((xb_i h6 x0 4) = (xb_i h6 b9 (Int32.toNatClampNeg ((xb_i h6 x0 16) - 1))) → w_Checker_checkEnd_L42 Qr Qt x0 v5 1 x0 h6 (bc - c8) (bs - sc8)))) Qt

set_option maxHeartbeats 4000000 in
set_option maxRecDepth 100000 in
theorem am_Checker_checkEnd_L74 (l : Launch) (hfl : l.flags = pinnedFlags ++ [noTraceFlag]) (D : va_G) (A : Nat → Prop) (σ MC MS : Nat) (h0 : xb_H) (Qr : xb_H → Prop) (Qt : String → xb_H → Prop) (x0 : Nat) (x1 : Int32) (y0 : Int32) (y1 : Nat) (h : xb_H) (bc : Nat) (bs : Nat) (hw : w_Checker_checkEnd_L74 Qr Qt x0 x1 y0 y1 h bc bs) : xb_am l D A σ 4 MC MS h0 (fun v h => v = none ∧ Qr h) Qt y_Checker_checkEnd.cls y_Checker_checkEnd.name b_Checker_checkEnd 2 ([] : List ExceptionTableEntry) none 74 [(0, .ref x0), (1, .int x1)] [.int y0, .ref y1] h bc bs := by
  unfold w_Checker_checkEnd_L74 at hw
  intro p e s m args below meth c hC H locs ls k n hE hl hR hS hk hn
  obtain ⟨hx, hb, hown, hlocks, htab, hml, hr, hB, hA, hnm⟩ := id hC
  have hts := hB.1.1.at args
  refine lv_bipush (v := 21) hx hb (xb_d D_Checker_checkEnd 44 rfl) (by decide) ?_
  obtain ⟨hk1, hw⟩ := hw
  obtain ⟨c4, sc4, hlc4, hlsc4, hw⟩ := hw
  refine xb_call (D := D) (A := A) (σ := σ) (h := h) (d := 3) (mc := c4) (ms := sc4) (maxL := 3) (rest := []) (av := [.ref y1, .int y0, .int 21]) (fun T hT X => by obtain ⟨cb, r1, r2, r3⟩ := xb_recv (ci := 4) hR rfl hk1 (by decide); exact xt_invV X hx hown (hts _ m_0a242445) (hts _ m_a99c45f7) (hts _ m_978d7491) (xt_sigOf (hts _ m_01f2fc97)) nm_Checker_require (by rw [hT]; exact r1) r2 r3 (g := F0 m 76 ls [.int 21, .int y0, .ref y1]) rfl (argsL := [.int y0, .int 21]) (rest := []) rfl rfl (by rw [hb]; exact (xb_d D_Checker_checkEnd 45 rfl))) (ok_Checker_require l hfl D A σ y1 y0 21 h c4 sc4 _ _ hw) (hml.trans hl.1.symm) (by rw [hb]; exact (xb_d D_Checker_checkEnd 45 rfl)) (Nat.le_of_ble_eq_true rfl) (Nat.le_of_ble_eq_true rfl) (Nat.le_of_ble_eq_true rfl) (show k + c4 ≤ MC by omega) (show n + sc4 ≤ MS by omega) (xt_w1 hB.1 m_01f2fc97) (xt_cdOf hB.1 m_01f2fc97) (hts _ m_44748ce5) hB hR hS hA (fun vv h2 H locs hq hEh2 hR hS => ?_) (fun XX ax h2 H locs hq hEh2 hex hR hS => ?_)
  · obtain ⟨rfl, hw⟩ := hq
    have hw := hw hEh2
    have hE := hE.tr hEh2
    refine W.eq (g2 := F0 m 79 ls []) rfl ?_
    refine lv_aload_n hx hb (xb_d D_Checker_checkEnd 46 rfl) rfl (lv_at hl 0 rfl) ?_
    refine lv_dup hx hb (xb_d D_Checker_checkEnd 47 rfl) rfl ?_
    obtain ⟨hk5, hw⟩ := hw
    refine xb_getI (C := R_Checker) (T := F_Checker) (N := 17) hx hb 4 16 hts fin_Checker hown hR hk5 (by decide) rfl (by decide) rfl (hts _ m_47f80c41) (fun _ h9 => h9) (xb_d D_Checker_checkEnd 48 rfl) ?_
    refine lv_iconst (v := 1) hx hb (xb_d D_Checker_checkEnd 49 rfl) (by decide) ?_
    refine lv_isub hx hb (xb_d D_Checker_checkEnd 50 rfl) ?_
    refine xb_putI (C := R_Checker) (T := F_Checker) (N := 17) (ty := .int) (x := ((xb_i h2 x0 16) - 1)) hx hb 4 16 hts fin_Checker t_Checker t_Checker_ok n_Checker hown hR hS hk5 (by decide) rfl (by decide) rfl (hts _ m_47f80c41) (fun _ h9 => h9) rfl (by decide +kernel) rfl rfl (xb_d D_Checker_checkEnd 51 rfl) (fun H locs hR hS => ?_)
    obtain ⟨h6, eh6⟩ : ∃ x : xb_H, x = xb_I h2 x0 16 ((xb_i h2 x0 16) - 1) := ⟨_, rfl⟩
    rw [← eh6] at hR
    have hw := hw h6 eh6
    have hE : xb_ext h0 h6 := by rw [eh6]; exact hE
    refine lv_aload_n hx hb (xb_d D_Checker_checkEnd 52 rfl) rfl (lv_at hl 0 rfl) ?_
    refine lv_iload_n hx hb (xb_d D_Checker_checkEnd 53 rfl) rfl (lv_at hl 1 rfl) ?_
    have hk5 : xb_k h6 x0 = 5 := by rw [eh6]; exact hk5
    refine xb_call (D := D) (A := A) (σ := σ) (h := h6) (d := 2) (mc := 0) (ms := 0) (maxL := 2) (rest := []) (av := [.ref x0, .int x1]) (fun T hT X => by obtain ⟨cb, r1, r2, r3⟩ := xb_recv (ci := 4) hR rfl hk5 (by decide); exact xt_invV X hx hown (hts _ m_761ff7fc) (hts _ m_e867be1e) (hts _ m_098fc344) (xt_sigOf (hts _ m_43ff17c7)) nm_Checker_put (by rw [hT]; exact r1) r2 r3 (g := F0 m 91 ls [.int x1, .ref x0]) rfl (argsL := [.int x1]) (rest := []) rfl rfl (by rw [hb]; exact (xb_d D_Checker_checkEnd 54 rfl))) (ok_Checker_put l hfl D A σ x0 x1 h6 _ hw) (hml.trans hl.1.symm) (by rw [hb]; exact (xb_d D_Checker_checkEnd 54 rfl)) (Nat.le_of_ble_eq_true rfl) (Nat.le_of_ble_eq_true rfl) (Nat.le_of_ble_eq_true rfl) (show (k + c4) + 0 ≤ MC by omega) (show (n + sc4) + 0 ≤ MS by omega) (xt_w1 hB.1 m_43ff17c7) (xt_cdOf hB.1 m_43ff17c7) (hts _ m_44748ce5) hB hR hS hA (fun vv h7 H locs hq hEh7 hR hS => ?_) (fun XX ax h7 H locs hq hEh7 hex hR hS => ?_)
    · obtain ⟨rfl, hw⟩ := hq
      have hw := hw hEh7
      have hE := hE.tr hEh7
      refine W.eq (g2 := F0 m 94 ls []) rfl ?_
      exact xb_vret hx hb hr hlocks (show (k + c4) ≤ MC by omega) (show (n + sc4) ≤ MS by omega) hE hR hS (xb_d D_Checker_checkEnd 55 rfl) hw
    · exact False.elim hq
  · exact xb_pass hlocks (fun x hx9 => by rw [htab] at hx9; first | cases hx9 | (simp [tableOf] at hx9; rcases hx9 with rfl | rfl | rfl <;> decide)) (show (k + c4) ≤ MC by omega) (show (n + sc4) ≤ MS by omega) (hE.tr hEh2) hR hS hex hq

set_option maxHeartbeats 4000000 in
set_option maxRecDepth 100000 in
theorem am_Checker_checkEnd_L69 (l : Launch) (hfl : l.flags = pinnedFlags ++ [noTraceFlag]) (D : va_G) (A : Nat → Prop) (σ MC MS : Nat) (h0 : xb_H) (Qr : xb_H → Prop) (Qt : String → xb_H → Prop) (x0 : Nat) (x1 : Int32) (y0 : Nat) (h : xb_H) (bc : Nat) (bs : Nat) (hw : w_Checker_checkEnd_L69 Qr Qt x0 x1 y0 h bc bs) : xb_am l D A σ 4 MC MS h0 (fun v h => v = none ∧ Qr h) Qt y_Checker_checkEnd.cls y_Checker_checkEnd.name b_Checker_checkEnd 2 ([] : List ExceptionTableEntry) none 69 [(0, .ref x0), (1, .int x1)] [.ref y0] h bc bs := by
  unfold w_Checker_checkEnd_L69 at hw
  intro p e s m args below meth c hC H locs ls k n hE hl hR hS hk hn
  obtain ⟨hx, hb, hown, hlocks, htab, hml, hr, hB, hA, hnm⟩ := id hC
  have hts := hB.1.1.at args
  refine lv_iconst (v := 1) hx hb (xb_d D_Checker_checkEnd 41 rfl) (by decide) ?_
  refine lv_goto (tgt := 74) hx hb (xb_d D_Checker_checkEnd 42 rfl) rfl ?_
  exact am_Checker_checkEnd_L74 l hfl D A σ MC MS h0 Qr Qt x0 x1 1 y0 h bc bs hw p e s m args below meth c hC H locs ls k n hE (lv_sub hl [0, 1] rfl) hR hS (by omega) (by omega)

set_option maxHeartbeats 4000000 in
set_option maxRecDepth 100000 in
theorem am_Checker_checkEnd_L42 (l : Launch) (hfl : l.flags = pinnedFlags ++ [noTraceFlag]) (D : va_G) (A : Nat → Prop) (σ MC MS : Nat) (h0 : xb_H) (Qr : xb_H → Prop) (Qt : String → xb_H → Prop) (x0 : Nat) (x1 : Int32) (y0 : Int32) (y1 : Nat) (h : xb_H) (bc : Nat) (bs : Nat) (hw : w_Checker_checkEnd_L42 Qr Qt x0 x1 y0 y1 h bc bs) : xb_am l D A σ 4 MC MS h0 (fun v h => v = none ∧ Qr h) Qt y_Checker_checkEnd.cls y_Checker_checkEnd.name b_Checker_checkEnd 2 ([] : List ExceptionTableEntry) none 42 [(0, .ref x0), (1, .int x1)] [.int y0, .ref y1] h bc bs := by
  unfold w_Checker_checkEnd_L42 at hw
  intro p e s m args below meth c hC H locs ls k n hE hl hR hS hk hn
  obtain ⟨hx, hb, hown, hlocks, htab, hml, hr, hB, hA, hnm⟩ := id hC
  have hts := hB.1.1.at args
  refine lv_bipush (v := 21) hx hb (xb_d D_Checker_checkEnd 26 rfl) (by decide) ?_
  obtain ⟨hk1, hw⟩ := hw
  obtain ⟨c4, sc4, hlc4, hlsc4, hw⟩ := hw
  refine xb_call (D := D) (A := A) (σ := σ) (h := h) (d := 3) (mc := c4) (ms := sc4) (maxL := 3) (rest := []) (av := [.ref y1, .int y0, .int 21]) (fun T hT X => by obtain ⟨cb, r1, r2, r3⟩ := xb_recv (ci := 4) hR rfl hk1 (by decide); exact xt_invV X hx hown (hts _ m_0a242445) (hts _ m_a99c45f7) (hts _ m_978d7491) (xt_sigOf (hts _ m_01f2fc97)) nm_Checker_require (by rw [hT]; exact r1) r2 r3 (g := F0 m 44 ls [.int 21, .int y0, .ref y1]) rfl (argsL := [.int y0, .int 21]) (rest := []) rfl rfl (by rw [hb]; exact (xb_d D_Checker_checkEnd 27 rfl))) (ok_Checker_require l hfl D A σ y1 y0 21 h c4 sc4 _ _ hw) (hml.trans hl.1.symm) (by rw [hb]; exact (xb_d D_Checker_checkEnd 27 rfl)) (Nat.le_of_ble_eq_true rfl) (Nat.le_of_ble_eq_true rfl) (Nat.le_of_ble_eq_true rfl) (show k + c4 ≤ MC by omega) (show n + sc4 ≤ MS by omega) (xt_w1 hB.1 m_01f2fc97) (xt_cdOf hB.1 m_01f2fc97) (hts _ m_44748ce5) hB hR hS hA (fun vv h2 H locs hq hEh2 hR hS => ?_) (fun XX ax h2 H locs hq hEh2 hex hR hS => ?_)
  · obtain ⟨rfl, hw⟩ := hq
    have hw := hw hEh2
    have hE := hE.tr hEh2
    refine W.eq (g2 := F0 m 47 ls []) rfl ?_
    refine lv_aload_n hx hb (xb_d D_Checker_checkEnd 28 rfl) rfl (lv_at hl 0 rfl) ?_
    refine lv_aload_n hx hb (xb_d D_Checker_checkEnd 29 rfl) rfl (lv_at hl 0 rfl) ?_
    obtain ⟨hk5, hw⟩ := hw
    refine xb_getP (C := R_Checker) (T := F_Checker) (N := 17) hx hb 4 10 hts fin_Checker hown hR hk5 (by decide) rfl (by decide) rfl (hts _ m_934b59dc) (fun _ h9 => h9) (xb_d D_Checker_checkEnd 30 rfl) ?_
    obtain ⟨b6, eb6, hw⟩ := hw
    refine xb_some eb6 ?_
    refine lv_aload_n hx hb (xb_d D_Checker_checkEnd 31 rfl) rfl (lv_at hl 0 rfl) ?_
    refine xb_getI (C := R_Checker) (T := F_Checker) (N := 17) hx hb 4 16 hts fin_Checker hown hR hk5 (by decide) rfl (by decide) rfl (hts _ m_47f80c41) (fun _ h9 => h9) (xb_d D_Checker_checkEnd 32 rfl) ?_
    refine lv_iconst (v := 1) hx hb (xb_d D_Checker_checkEnd 33 rfl) (by decide) ?_
    refine lv_isub hx hb (xb_d D_Checker_checkEnd 34 rfl) ?_
    obtain ⟨hk8, hw⟩ := hw
    obtain ⟨hi7, hw⟩ := hw
    refine xb_iald hx hb hR hk8 hi7 (xb_d D_Checker_checkEnd 35 rfl) ?_
    refine lv_iconst (v := 4) hx hb (xb_d D_Checker_checkEnd 36 rfl) (by decide) ?_
    refine lv_icmp_ne (tgt := 69) hx hb (xb_d D_Checker_checkEnd 37 rfl) rfl (fun hc9 => ?_) (fun hc9 => ?_)
    · have hw := hw.1 hc9
      exact am_Checker_checkEnd_L69 l hfl D A σ MC MS h0 Qr Qt x0 x1 x0 h2 (bc - c4) (bs - sc4) hw p e s m args below meth c hC H locs ls (k + c4) (n + sc4) hE (lv_sub hl [0, 1] rfl) hR hS (by omega) (by omega)
    · have hw := hw.2 hc9
      refine lv_iload_n hx hb (xb_d D_Checker_checkEnd 38 rfl) rfl (lv_at hl 1 rfl) ?_
      refine lv_bipush (v := 64) hx hb (xb_d D_Checker_checkEnd 39 rfl) (by decide) ?_
      refine lv_icmp_ne (tgt := 73) hx hb (xb_d D_Checker_checkEnd 40 rfl) rfl (fun hc10 => ?_) (fun hc10 => ?_)
      · have hw := hw.1 hc10
        refine lv_iconst (v := 0) hx hb (xb_d D_Checker_checkEnd 43 rfl) (by decide) ?_
        exact am_Checker_checkEnd_L74 l hfl D A σ MC MS h0 Qr Qt x0 x1 0 x0 h2 (bc - c4) (bs - sc4) hw p e s m args below meth c hC H locs ls (k + c4) (n + sc4) hE (lv_sub hl [0, 1] rfl) hR hS (by omega) (by omega)
      · have hw := hw.2 hc10
        exact am_Checker_checkEnd_L69 l hfl D A σ MC MS h0 Qr Qt x0 x1 x0 h2 (bc - c4) (bs - sc4) hw p e s m args below meth c hC H locs ls (k + c4) (n + sc4) hE (lv_sub hl [0, 1] rfl) hR hS (by omega) (by omega)
  · exact xb_pass hlocks (fun x hx9 => by rw [htab] at hx9; first | cases hx9 | (simp [tableOf] at hx9; rcases hx9 with rfl | rfl | rfl <;> decide)) (show (k + c4) ≤ MC by omega) (show (n + sc4) ≤ MS by omega) (hE.tr hEh2) hR hS hex hq

set_option maxHeartbeats 4000000 in
set_option maxRecDepth 100000 in
theorem ok_Checker_checkEnd (l : Launch) (hfl : l.flags = pinnedFlags ++ [noTraceFlag]) (D : va_G) (A : Nat → Prop) (σ : Nat) (x0 : Nat) (h : xb_H) (bc : Nat) (bs : Nat) (Qr : xb_H → Prop) (Qt : String → xb_H → Prop) (hw : w_Checker_checkEnd x0 h bc bs Qr Qt) : xt_Met l y_Checker_checkEnd [.code y_Checker_checkEnd b_Checker_checkEnd 2 none] (xb_rm 4 bc bs) (xb_Pc D A σ h [.ref x0]) (xb_Qc D A h (fun v h => v = none ∧ Qr h) Qt) bc bs A := by
  refine xb_ofAm (cc := b_Checker_checkEnd) (by decide) (Nat.le_of_ble_eq_true rfl) ?_
  unfold w_Checker_checkEnd at hw
  show xb_am l D A σ 4 bc bs h (fun v h => v = none ∧ Qr h) Qt y_Checker_checkEnd.cls y_Checker_checkEnd.name b_Checker_checkEnd 2 ([] : List ExceptionTableEntry) none 0 [(0, .ref x0)] [] h bc bs
  obtain ⟨MC, hMC⟩ : ∃ x, x = bc := ⟨_, rfl⟩
  obtain ⟨MS, hMS⟩ : ∃ x, x = bs := ⟨_, rfl⟩
  rw [show xb_am l D A σ 4 bc bs = xb_am l D A σ 4 MC MS by rw [hMC, hMS]]
  obtain ⟨h0, hh0⟩ : ∃ x, x = h := ⟨_, rfl⟩
  rw [show xb_am l D A σ 4 MC MS h = xb_am l D A σ 4 MC MS h0 by rw [hh0]]
  intro p e s m args below meth c hC H locs ls k n hE hl hR hS hk hn
  obtain ⟨hx, hb, hown, hlocks, htab, hml, hr, hB, hA, hnm⟩ := id hC
  have hts := hB.1.1.at args
  refine lv_aload_n hx hb (xb_d D_Checker_checkEnd 0 rfl) rfl (lv_at hl 0 rfl) ?_
  obtain ⟨hk1, hw⟩ := hw
  refine xb_getP (C := R_Checker) (T := F_Checker) (N := 17) hx hb 4 13 hts fin_Checker hown hR hk1 (by decide) rfl (by decide) rfl (hts _ m_8413ec5e) (fun _ h9 => h9) (xb_d D_Checker_checkEnd 1 rfl) ?_
  obtain ⟨b2, eb2, hw⟩ := hw
  refine xb_some eb2 ?_
  refine lv_aload_n hx hb (xb_d D_Checker_checkEnd 2 rfl) rfl (lv_at hl 0 rfl) ?_
  refine xb_getI (C := R_Checker) (T := F_Checker) (N := 17) hx hb 4 16 hts fin_Checker hown hR hk1 (by decide) rfl (by decide) rfl (hts _ m_47f80c41) (fun _ h9 => h9) (xb_d D_Checker_checkEnd 3 rfl) ?_
  refine lv_iconst (v := 1) hx hb (xb_d D_Checker_checkEnd 4 rfl) (by decide) ?_
  refine lv_isub hx hb (xb_d D_Checker_checkEnd 5 rfl) ?_
  obtain ⟨hk4, hw⟩ := hw
  obtain ⟨hi3, hw⟩ := hw
  refine xb_iald hx hb hR hk4 hi3 (xb_d D_Checker_checkEnd 6 rfl) ?_
  obtain ⟨v5, ev5⟩ : ∃ x : Int32, x = (xb_i h b2 (Int32.toNatClampNeg ((xb_i h x0 16) - 1))) := ⟨_, rfl⟩
  have hw := hw v5 ev5
  refine xt_numi (y := v5) ev5.symm ?_
  refine lv_istore_n hx hb (xb_d D_Checker_checkEnd 7 rfl) rfl hl (by decide) rfl (fun ls hl => ?_)
  have hl : lv_has ls 2 [(1, .int v5), (0, .ref x0)] := hl
  refine lv_aload_n hx hb (xb_d D_Checker_checkEnd 8 rfl) rfl (lv_at hl 1 rfl) ?_
  refine lv_iload_n hx hb (xb_d D_Checker_checkEnd 9 rfl) rfl (lv_at hl 0 rfl) ?_
  obtain ⟨c8, sc8, hlc8, hlsc8, hw⟩ := hw
  refine xb_call (D := D) (A := A) (σ := σ) (h := h) (d := 3) (mc := c8) (ms := sc8) (maxL := 3) (rest := []) (av := [.ref x0, .int v5]) (fun T hT X => by obtain ⟨cb, r1, r2, r3⟩ := xb_recv (ci := 4) hR rfl hk1 (by decide); exact xt_invV X hx hown (hts _ m_0b33e20f) (hts _ m_338dda25) (hts _ m_d7dc08f9) (xt_sigOf (hts _ m_b71cce2b)) nm_Checker_take (by rw [hT]; exact r1) r2 r3 (g := F0 m 14 ls [.int v5, .ref x0]) rfl (argsL := [.int v5]) (rest := []) rfl rfl (by rw [hb]; exact (xb_d D_Checker_checkEnd 10 rfl))) (ok_Checker_take l hfl D A σ x0 v5 h c8 sc8 _ _ hw) (hml.trans hl.1.symm) (by rw [hb]; exact (xb_d D_Checker_checkEnd 10 rfl)) (Nat.le_of_ble_eq_true rfl) (Nat.le_of_ble_eq_true rfl) (Nat.le_of_ble_eq_true rfl) (show k + c8 ≤ MC by omega) (show n + sc8 ≤ MS by omega) (xt_w1 hB.1 m_b71cce2b) (xt_cdOf hB.1 m_b71cce2b) (hts _ m_44748ce5) hB hR hS hA (fun vv h6 H locs hq hEh6 hR hS => ?_) (fun XX ax h6 H locs hq hEh6 hex hR hS => ?_)
  · obtain ⟨r7, rfl, hw⟩ := hq
    have hw := hw hEh6
    have hE := hE.tr hEh6
    refine W.eq (g2 := F0 m 17 ls [.int r7]) rfl ?_
    refine lv_pop hx hb (xb_d D_Checker_checkEnd 11 rfl) rfl ?_
    refine lv_aload_n hx hb (xb_d D_Checker_checkEnd 12 rfl) rfl (lv_at hl 1 rfl) ?_
    refine lv_aload_n hx hb (xb_d D_Checker_checkEnd 13 rfl) rfl (lv_at hl 1 rfl) ?_
    have hk1 : xb_k h6 x0 = 5 := hEh6.k hk1
    refine xb_getI (C := R_Checker) (T := F_Checker) (N := 17) hx hb 4 4 hts fin_Checker hown hR hk1 (by decide) rfl (by decide) rfl (hts _ m_b89190d5) (fun _ h9 => h9) (xb_d D_Checker_checkEnd 14 rfl) ?_
    refine lv_aload_n hx hb (xb_d D_Checker_checkEnd 15 rfl) rfl (lv_at hl 1 rfl) ?_
    refine xb_getP (C := R_Checker) (T := F_Checker) (N := 17) hx hb 4 14 hts fin_Checker hown hR hk1 (by decide) rfl (by decide) rfl (hts _ m_a3869304) (fun _ h9 => h9) (xb_d D_Checker_checkEnd 16 rfl) ?_
    obtain ⟨b9, eb9, hw⟩ := hw
    refine xb_some eb9 ?_
    refine lv_aload_n hx hb (xb_d D_Checker_checkEnd 17 rfl) rfl (lv_at hl 1 rfl) ?_
    refine xb_getI (C := R_Checker) (T := F_Checker) (N := 17) hx hb 4 16 hts fin_Checker hown hR hk1 (by decide) rfl (by decide) rfl (hts _ m_47f80c41) (fun _ h9 => h9) (xb_d D_Checker_checkEnd 18 rfl) ?_
    refine lv_iconst (v := 1) hx hb (xb_d D_Checker_checkEnd 19 rfl) (by decide) ?_
    refine lv_isub hx hb (xb_d D_Checker_checkEnd 20 rfl) ?_
    obtain ⟨hk11, hw⟩ := hw
    obtain ⟨hi10, hw⟩ := hw
    refine xb_iald hx hb hR hk11 hi10 (xb_d D_Checker_checkEnd 21 rfl) ?_
    refine lv_icmp_ne (tgt := 41) hx hb (xb_d D_Checker_checkEnd 22 rfl) rfl (fun hc12 => ?_) (fun hc12 => ?_)
    · have hw := hw.1 hc12
      refine lv_iconst (v := 0) hx hb (xb_d D_Checker_checkEnd 25 rfl) (by decide) ?_
      exact am_Checker_checkEnd_L42 l hfl D A σ MC MS h0 Qr Qt x0 v5 0 x0 h6 (bc - c8) (bs - sc8) hw p e s m args below meth c hC H locs ls (k + c8) (n + sc8) hE (lv_sub hl [1, 0] rfl) hR hS (by omega) (by omega)
    · have hw := hw.2 hc12
      refine lv_iconst (v := 1) hx hb (xb_d D_Checker_checkEnd 23 rfl) (by decide) ?_
      refine lv_goto (tgt := 42) hx hb (xb_d D_Checker_checkEnd 24 rfl) rfl ?_
      exact am_Checker_checkEnd_L42 l hfl D A σ MC MS h0 Qr Qt x0 v5 1 x0 h6 (bc - c8) (bs - sc8) hw p e s m args below meth c hC H locs ls (k + c8) (n + sc8) hE (lv_sub hl [1, 0] rfl) hR hS (by omega) (by omega)
  · exact xb_pass hlocks (fun x hx9 => by rw [htab] at hx9; first | cases hx9 | (simp [tableOf] at hx9; rcases hx9 with rfl | rfl | rfl <;> decide)) (show (k + c8) ≤ MC by omega) (show (n + sc8) ≤ MS by omega) (hE.tr hEh6) hR hS hex hq

theorem m_bf57feb6 : (.methodLink "StackHost$Checker" 147 y_StackModule_exportNamedBelow : Cond) ∈ xt_tbl := xt_in (xt_t4 (List.mem_of_getElem? (i := 143) (by decide +kernel))) (by decide +kernel)
theorem m_fc9f46d2 : (.instanceMethod y_StackModule_exportNamedBelow : Cond) ∈ xt_tbl := xt_in (xt_t4 (List.mem_of_getElem? (i := 144) (by decide +kernel))) (by decide +kernel)
theorem m_c4e66bf2 : (.selects "StackHost$StackModule" y_StackModule_exportNamedBelow y_StackModule_exportNamedBelow : Cond) ∈ xt_tbl := xt_in (xt_t4 (List.mem_of_getElem? (i := 145) (by decide +kernel))) (by decide +kernel)
theorem m_e88eaefc : (.code y_StackModule_exportNamedBelow b_StackModule_exportNamedBelow 6 (some .int) : Cond) ∈ xt_tbl := xt_in (xt_t4 (List.mem_of_getElem? (i := 146) (by decide +kernel))) (by decide +kernel)
theorem m_da1f7fec : (.methodLink "StackHost$Checker" 143 y_Checker_countOf : Cond) ∈ xt_tbl := xt_in (xt_t4 (List.mem_of_getElem? (i := 139) (by decide +kernel))) (by decide +kernel)
theorem m_ced2ddfa : (.instanceMethod y_Checker_countOf : Cond) ∈ xt_tbl := xt_in (xt_t4 (List.mem_of_getElem? (i := 141) (by decide +kernel))) (by decide +kernel)
theorem m_47ca7480 : (.selects "StackHost$Checker" y_Checker_countOf y_Checker_countOf : Cond) ∈ xt_tbl := xt_in (xt_v3 (q := (⟨"StackHost$Checker", "countOf", "(I)I"⟩, 17)) (List.mem_of_getElem? (i := 7) (by decide +kernel))) (by decide +kernel)
theorem m_971b0474 : (.code y_Checker_countOf b_Checker_countOf 2 (some .int) : Cond) ∈ xt_tbl := xt_in (xt_t4 (List.mem_of_getElem? (i := 142) (by decide +kernel))) (by decide +kernel)
theorem m_a4e74538 : (.fieldLink "StackHost$Checker" 140 "StackHost$StackModule" "exports" "LStackHost$Row;" : Cond) ∈ xt_tbl := xt_in (xt_t3 (List.mem_of_getElem? (i := 88) (by decide +kernel))) (by decide +kernel)
theorem nm_StackModule_exportNamedBelow : xt_nm y_StackModule_exportNamedBelow 4 := ⟨by decide +kernel, by decide +kernel⟩
theorem nm_Checker_countOf : xt_nm y_Checker_countOf 1 := ⟨by decide +kernel, by decide +kernel⟩
set_option maxRecDepth 100000 in
def T_Checker_checkExports : List (Nat × Instr × Nat) := [(0, .aload_n 0, 1), (1, .getfield 38, 3), (4, .getfield 140, 3), (7, .astore_n 1, 1), (8, .iconst 0, 1), (9, .istore_n 2, 1), (10, .iload_n 2, 1), (11, .aload_n 1, 1), (12, .invokevirtual 77, 3), (15, .if_icmp .ge 94, 3), (18, .aload_n 1, 1), (19, .iload_n 2, 1), (20, .iconst 0, 1), (21, .invokevirtual 90, 3), (24, .istore_n 3, 1), (25, .aload_n 1, 1), (26, .iload_n 2, 1), (27, .iconst 2, 1), (28, .invokevirtual 121, 3), (31, .aload_n 0, 1), (32, .aload_n 1, 1), (33, .iload_n 2, 1), (34, .iconst 1, 1), (35, .invokevirtual 90, 3), (38, .invokevirtual 143, 3), (41, .invokestatic 125, 3), (44, .ifCond .ne 13, 3), (47, .aload_n 0, 1), (48, .getfield 38, 3), (51, .bipush 20, 2), (53, .iload_n 3, 1), (54, .invokevirtual 94, 3), (57, .aload_n 1, 1), (58, .iload_n 2, 1), (59, .iconst 3, 1), (60, .invokevirtual 90, 3), (63, .istore 4, 2), (65, .aload_n 1, 1), (66, .iload_n 2, 1), (67, .iconst 4, 1), (68, .invokevirtual 90, 3), (71, .istore 5, 2), (73, .aload_n 0, 1), (74, .getfield 38, 3), (77, .iload_n 2, 1), (78, .aload_n 0, 1), (79, .getfield 47, 3), (82, .iload 4, 2), (84, .iload 5, 2), (86, .invokevirtual 147, 3), (89, .iconst (-1), 1), (90, .if_icmp .eq 13, 3), (93, .aload_n 0, 1), (94, .getfield 38, 3), (97, .bipush 24, 2), (99, .iload_n 3, 1), (100, .invokevirtual 94, 3), (103, .iinc 2 1, 3), (106, .goto (-96), 3), (109, .return_, 1)]
theorem D_Checker_checkExports : ∀ q ∈ T_Checker_checkExports, decode b_Checker_checkExports q.1 = .ok (q.2.1, q.2.2) := by decide +kernel
def w_Checker_checkExports_L103 (K10 : Nat → Nat → Int32 → xb_H → Nat → Nat → Prop) (Qr : xb_H → Prop) (Qt : String → xb_H → Prop) (x0 : Nat) (x1 : Nat) (x2 : Int32) (h : xb_H) (bc : Nat) (bs : Nat) : Prop :=
    K10 x0 x1 (x2 + 1) h bc bs

def w_Checker_checkExports_L57 (K10 : Nat → Nat → Int32 → xb_H → Nat → Nat → Prop) (Qr : xb_H → Prop) (Qt : String → xb_H → Prop) (x0 : Nat) (x1 : Nat) (x2 : Int32) (x3 : Int32) (h : xb_H) (bc : Nat) (bs : Nat) : Prop :=
    xb_k h x1 = 2 ∧ w_Row_at x1 x2 3 h (fun (r3 : Int32) (h2 : xb_H) => xb_ext h h2 → w_Row_at x1 x2 4 h2 (fun (r5 : Int32) (h4 : xb_H) => xb_ext h2 h4 → xb_k h4 x0 = 5 ∧ ∃ b7 : Nat, (xb_r h4 x0 0) = some b7 ∧ ∃ b8 : Nat, (xb_r h4 x0 1) = some b8 ∧ xb_k h4 b7 = 3 ∧ w_StackModule_exportNamedBelow b7 x2 b8 r3 r5 h4 (fun (r11 : Int32) (h10 : xb_H) => xb_ext h4 h10 → ((r11 = ((-1) : Int32) → w_Checker_checkExports_L103 K10 Qr Qt x0 x1 x2 h10 bc bs) ∧ (¬ r11 = ((-1) : Int32) → ∃ b13 : Nat, (xb_r h10 x0 0) = some b13 ∧ xb_k h10 b13 = 3 ∧ ∃ c17 sc17 : Nat, c17 ≤ bc ∧ sc17 ≤ bs ∧ w_StackModule_fail b13 24 x3 h10 c17 sc17 (fun (h15 : xb_H) => xb_ext h10 h15 → w_Checker_checkExports_L103 K10 Qr Qt x0 x1 x2 h15 (bc - c17) (bs - sc17)) Qt)))))

def w_Checker_checkExports_L10 (Qr : xb_H → Prop) (Qt : String → xb_H → Prop) : Nat → Nat → Nat → Int32 → xb_H → Nat → Nat → Prop
  | 0, _, _, _, _, _, _ => False
  | n9 + 1, x0, x1, x2, h, bc, bs =>
    xb_k h x1 = 2 ∧ w_Row_lines x1 h (fun (r3 : Int32) (h2 : xb_H) => xb_ext h h2 → ((r3 ≤ x2 → Qr h2) ∧ (¬ r3 ≤ x2 → w_Row_at x1 x2 0 h2 (fun (r6 : Int32) (h5 : xb_H) => xb_ext h2 h5 → w_Row_longAt x1 x2 2 h5 (fun (r8 : Int64) (h7 : xb_H) => xb_ext h5 h7 → w_Row_at x1 x2 1 h7 (fun (r10 : Int32) (h9 : xb_H) => xb_ext h7 h9 → xb_k h9 x0 = 5 ∧ w_Checker_countOf x0 r10 h9 (fun (r13 : Int32) (h12 : xb_H) => xb_ext h9 h12 → w_Checker_isThere r8 r13 h12 (fun (r15 : Int32) (h14 : xb_H) => xb_ext h12 h14 → ((¬ r15 = (0 : Int32) → w_Checker_checkExports_L57 (w_Checker_checkExports_L10 Qr Qt n9) Qr Qt x0 x1 x2 r6 h14 bc bs) ∧ (r15 = (0 : Int32) → ∃ b17 : Nat, (xb_r h14 x0 0) = some b17 ∧ xb_k h14 b17 = 3 ∧ ∃ c21 sc21 : Nat, c21 ≤ bc ∧ sc21 ≤ bs ∧ w_StackModule_fail b17 20 r6 h14 c21 sc21 (fun (h19 : xb_H) => xb_ext h14 h19 → w_Checker_checkExports_L57 (w_Checker_checkExports_L10 Qr Qt n9) Qr Qt x0 x1 x2 r6 h19 (bc - c21) (bs - sc21)) Qt))))))))))

def w_Checker_checkExports (x0 : Nat) (h : xb_H) (bc : Nat) (bs : Nat) (Qr : xb_H → Prop) (Qt : String → xb_H → Prop) : Prop :=
    xb_k h x0 = 5 ∧ ∃ b2 : Nat, (xb_r h x0 0) = some b2 ∧ xb_k h b2 = 3 ∧ ∃ b4 : Nat, (xb_r h b2 8) = some b4 ∧ (∃ n8 : Nat, w_Checker_checkExports_L10 Qr Qt n8 x0 b4 0 h bc bs)

set_option maxHeartbeats 4000000 in
set_option maxRecDepth 100000 in
theorem am_Checker_checkExports_L103 (l : Launch) (hfl : l.flags = pinnedFlags ++ [noTraceFlag]) (D : va_G) (A : Nat → Prop) (σ MC MS : Nat) (h0 : xb_H) (Qr : xb_H → Prop) (Qt : String → xb_H → Prop) (K10 : Nat → Nat → Int32 → xb_H → Nat → Nat → Prop) (hK10 : ∀ (x0 : Nat) (x1 : Nat) (x2 : Int32) (h : xb_H) (bc : Nat) (bs : Nat), K10 x0 x1 x2 h bc bs → xb_am l D A σ 4 MC MS h0 (fun v h => v = none ∧ Qr h) Qt y_Checker_checkExports.cls y_Checker_checkExports.name b_Checker_checkExports 6 ([] : List ExceptionTableEntry) none 10 [(0, .ref x0), (1, .ref x1), (2, .int x2)] [] h bc bs) (x0 : Nat) (x1 : Nat) (x2 : Int32) (h : xb_H) (bc : Nat) (bs : Nat) (hw : w_Checker_checkExports_L103 K10 Qr Qt x0 x1 x2 h bc bs) : xb_am l D A σ 4 MC MS h0 (fun v h => v = none ∧ Qr h) Qt y_Checker_checkExports.cls y_Checker_checkExports.name b_Checker_checkExports 6 ([] : List ExceptionTableEntry) none 103 [(0, .ref x0), (1, .ref x1), (2, .int x2)] [] h bc bs := by
  unfold w_Checker_checkExports_L103 at hw
  intro p e s m args below meth c hC H locs ls k n hE hl hR hS hk hn
  obtain ⟨hx, hb, hown, hlocks, htab, hml, hr, hB, hA, hnm⟩ := id hC
  have hts := hB.1.1.at args
  refine lv_iinc (v := (x2 + 1)) (k := 2) hx hb (xb_d D_Checker_checkExports 57 rfl) hl rfl (by first | rfl | decide) (by decide) rfl (fun ls hl => ?_)
  have hl : lv_has ls 6 [(2, .int (x2 + 1)), (0, .ref x0), (1, .ref x1)] := hl
  refine lv_goto (tgt := 10) hx hb (xb_d D_Checker_checkExports 58 rfl) rfl ?_
  exact hK10 x0 x1 (x2 + 1) h bc bs hw p e s m args below meth c hC H locs ls k n hE (lv_sub hl [1, 2, 0] rfl) hR hS (by omega) (by omega)

set_option maxHeartbeats 4000000 in
set_option maxRecDepth 100000 in
theorem am_Checker_checkExports_L57 (l : Launch) (hfl : l.flags = pinnedFlags ++ [noTraceFlag]) (D : va_G) (A : Nat → Prop) (σ MC MS : Nat) (h0 : xb_H) (Qr : xb_H → Prop) (Qt : String → xb_H → Prop) (K10 : Nat → Nat → Int32 → xb_H → Nat → Nat → Prop) (hK10 : ∀ (x0 : Nat) (x1 : Nat) (x2 : Int32) (h : xb_H) (bc : Nat) (bs : Nat), K10 x0 x1 x2 h bc bs → xb_am l D A σ 4 MC MS h0 (fun v h => v = none ∧ Qr h) Qt y_Checker_checkExports.cls y_Checker_checkExports.name b_Checker_checkExports 6 ([] : List ExceptionTableEntry) none 10 [(0, .ref x0), (1, .ref x1), (2, .int x2)] [] h bc bs) (x0 : Nat) (x1 : Nat) (x2 : Int32) (x3 : Int32) (h : xb_H) (bc : Nat) (bs : Nat) (hw : w_Checker_checkExports_L57 K10 Qr Qt x0 x1 x2 x3 h bc bs) : xb_am l D A σ 4 MC MS h0 (fun v h => v = none ∧ Qr h) Qt y_Checker_checkExports.cls y_Checker_checkExports.name b_Checker_checkExports 6 ([] : List ExceptionTableEntry) none 57 [(0, .ref x0), (1, .ref x1), (2, .int x2), (3, .int x3)] [] h bc bs := by
  unfold w_Checker_checkExports_L57 at hw
  intro p e s m args below meth c hC H locs ls k n hE hl hR hS hk hn
  obtain ⟨hx, hb, hown, hlocks, htab, hml, hr, hB, hA, hnm⟩ := id hC
  have hts := hB.1.1.at args
  refine lv_aload_n hx hb (xb_d D_Checker_checkExports 32 rfl) rfl (lv_at hl 1 rfl) ?_
  refine lv_iload_n hx hb (xb_d D_Checker_checkExports 33 rfl) rfl (lv_at hl 2 rfl) ?_
  refine lv_iconst (v := 3) hx hb (xb_d D_Checker_checkExports 34 rfl) (by decide) ?_
  obtain ⟨hk1, hw⟩ := hw
  refine xb_call (D := D) (A := A) (σ := σ) (h := h) (d := 2) (mc := 0) (ms := 0) (maxL := 3) (rest := []) (av := [.ref x1, .int x2, .int 3]) (fun T hT X => by obtain ⟨cb, r1, r2, r3⟩ := xb_recv (ci := 1) hR rfl hk1 (by decide); exact xt_invV X hx hown (hts _ m_068feb96) (hts _ m_8e233096) (hts _ m_27eed10c) (xt_sigOf (hts _ m_ff1c70ae)) nm_Row_at (by rw [hT]; exact r1) r2 r3 (g := F0 m 60 ls [.int 3, .int x2, .ref x1]) rfl (argsL := [.int x2, .int 3]) (rest := []) rfl rfl (by rw [hb]; exact (xb_d D_Checker_checkExports 35 rfl))) (ok_Row_at l hfl D A σ x1 x2 3 h _ hw) (hml.trans hl.1.symm) (by rw [hb]; exact (xb_d D_Checker_checkExports 35 rfl)) (Nat.le_of_ble_eq_true rfl) (Nat.le_of_ble_eq_true rfl) (Nat.le_of_ble_eq_true rfl) (show k + 0 ≤ MC by omega) (show n + 0 ≤ MS by omega) (xt_w1 hB.1 m_ff1c70ae) (xt_cdOf hB.1 m_ff1c70ae) (hts _ m_c1bef504) hB hR hS hA (fun vv h2 H locs hq hEh2 hR hS => ?_) (fun XX ax h2 H locs hq hEh2 hex hR hS => ?_)
  · obtain ⟨r3, rfl, hw⟩ := hq
    have hw := hw hEh2
    have hE := hE.tr hEh2
    refine W.eq (g2 := F0 m 63 ls [.int r3]) rfl ?_
    refine lv_istore hx hb (xb_d D_Checker_checkExports 36 rfl) hl (by decide) rfl (fun ls hl => ?_)
    have hl : lv_has ls 6 [(4, .int r3), (0, .ref x0), (1, .ref x1), (2, .int x2), (3, .int x3)] := hl
    refine lv_aload_n hx hb (xb_d D_Checker_checkExports 37 rfl) rfl (lv_at hl 2 rfl) ?_
    refine lv_iload_n hx hb (xb_d D_Checker_checkExports 38 rfl) rfl (lv_at hl 3 rfl) ?_
    refine lv_iconst (v := 4) hx hb (xb_d D_Checker_checkExports 39 rfl) (by decide) ?_
    have hk1 : xb_k h2 x1 = 2 := hEh2.k hk1
    refine xb_call (D := D) (A := A) (σ := σ) (h := h2) (d := 2) (mc := 0) (ms := 0) (maxL := 3) (rest := []) (av := [.ref x1, .int x2, .int 4]) (fun T hT X => by obtain ⟨cb, r1, r2, r3⟩ := xb_recv (ci := 1) hR rfl hk1 (by decide); exact xt_invV X hx hown (hts _ m_068feb96) (hts _ m_8e233096) (hts _ m_27eed10c) (xt_sigOf (hts _ m_ff1c70ae)) nm_Row_at (by rw [hT]; exact r1) r2 r3 (g := F0 m 68 ls [.int 4, .int x2, .ref x1]) rfl (argsL := [.int x2, .int 4]) (rest := []) rfl rfl (by rw [hb]; exact (xb_d D_Checker_checkExports 40 rfl))) (ok_Row_at l hfl D A σ x1 x2 4 h2 _ hw) (hml.trans hl.1.symm) (by rw [hb]; exact (xb_d D_Checker_checkExports 40 rfl)) (Nat.le_of_ble_eq_true rfl) (Nat.le_of_ble_eq_true rfl) (Nat.le_of_ble_eq_true rfl) (show k + 0 ≤ MC by omega) (show n + 0 ≤ MS by omega) (xt_w1 hB.1 m_ff1c70ae) (xt_cdOf hB.1 m_ff1c70ae) (hts _ m_c1bef504) hB hR hS hA (fun vv h4 H locs hq hEh4 hR hS => ?_) (fun XX ax h4 H locs hq hEh4 hex hR hS => ?_)
    · obtain ⟨r5, rfl, hw⟩ := hq
      have hw := hw hEh4
      have hE := hE.tr hEh4
      refine W.eq (g2 := F0 m 71 ls [.int r5]) rfl ?_
      refine lv_istore hx hb (xb_d D_Checker_checkExports 41 rfl) hl (by decide) rfl (fun ls hl => ?_)
      have hl : lv_has ls 6 [(5, .int r5), (4, .int r3), (0, .ref x0), (1, .ref x1), (2, .int x2), (3, .int x3)] := hl
      refine lv_aload_n hx hb (xb_d D_Checker_checkExports 42 rfl) rfl (lv_at hl 2 rfl) ?_
      obtain ⟨hk6, hw⟩ := hw
      refine xb_getP (C := R_Checker) (T := F_Checker) (N := 17) hx hb 4 0 hts fin_Checker hown hR hk6 (by decide) rfl (by decide) rfl (hts _ m_070795bc) (fun _ h9 => h9) (xb_d D_Checker_checkExports 43 rfl) ?_
      obtain ⟨b7, eb7, hw⟩ := hw
      refine xb_some eb7 ?_
      refine lv_iload_n hx hb (xb_d D_Checker_checkExports 44 rfl) rfl (lv_at hl 4 rfl) ?_
      refine lv_aload_n hx hb (xb_d D_Checker_checkExports 45 rfl) rfl (lv_at hl 2 rfl) ?_
      refine xb_getP (C := R_Checker) (T := F_Checker) (N := 17) hx hb 4 1 hts fin_Checker hown hR hk6 (by decide) rfl (by decide) rfl (hts _ m_8db7c2eb) (fun _ h9 => h9) (xb_d D_Checker_checkExports 46 rfl) ?_
      obtain ⟨b8, eb8, hw⟩ := hw
      refine xb_some eb8 ?_
      refine lv_iload hx hb (xb_d D_Checker_checkExports 47 rfl) (lv_at hl 1 rfl) ?_
      refine lv_iload hx hb (xb_d D_Checker_checkExports 48 rfl) (lv_at hl 0 rfl) ?_
      obtain ⟨hk9, hw⟩ := hw
      refine xb_call (D := D) (A := A) (σ := σ) (h := h4) (d := 3) (mc := 0) (ms := 0) (maxL := 6) (rest := []) (av := [.ref b7, .int x2, .ref b8, .int r3, .int r5]) (fun T hT X => by obtain ⟨cb, r1, r2, r3⟩ := xb_recv (ci := 2) hR rfl hk9 (by decide); exact xt_invV X hx hown (hts _ m_bf57feb6) (hts _ m_fc9f46d2) (hts _ m_c4e66bf2) (xt_sigOf (hts _ m_e88eaefc)) nm_StackModule_exportNamedBelow (by rw [hT]; exact r1) r2 r3 (g := F0 m 86 ls [.int r5, .int r3, .ref b8, .int x2, .ref b7]) rfl (argsL := [.int x2, .ref b8, .int r3, .int r5]) (rest := []) rfl rfl (by rw [hb]; exact (xb_d D_Checker_checkExports 49 rfl))) (ok_StackModule_exportNamedBelow l hfl D A σ b7 x2 b8 r3 r5 h4 _ hw) (hml.trans hl.1.symm) (by rw [hb]; exact (xb_d D_Checker_checkExports 49 rfl)) (Nat.le_of_ble_eq_true rfl) (Nat.le_of_ble_eq_true rfl) (Nat.le_of_ble_eq_true rfl) (show k + 0 ≤ MC by omega) (show n + 0 ≤ MS by omega) (xt_w1 hB.1 m_e88eaefc) (xt_cdOf hB.1 m_e88eaefc) (hts _ m_9c375545) hB hR hS hA (fun vv h10 H locs hq hEh10 hR hS => ?_) (fun XX ax h10 H locs hq hEh10 hex hR hS => ?_)
      · obtain ⟨r11, rfl, hw⟩ := hq
        have hw := hw hEh10
        have hE := hE.tr hEh10
        refine W.eq (g2 := F0 m 89 ls [.int r11]) rfl ?_
        refine lv_iconst (v := (-1)) hx hb (xb_d D_Checker_checkExports 50 rfl) (by decide) ?_
        refine lv_icmp_eq (tgt := 103) hx hb (xb_d D_Checker_checkExports 51 rfl) rfl (fun hc12 => ?_) (fun hc12 => ?_)
        · have hw := hw.1 hc12
          exact am_Checker_checkExports_L103 l hfl D A σ MC MS h0 Qr Qt K10 hK10 x0 x1 x2 h10 bc bs hw p e s m args below meth c hC H locs ls k n hE (lv_sub hl [2, 3, 4] rfl) hR hS (by omega) (by omega)
        · have hw := hw.2 hc12
          refine lv_aload_n hx hb (xb_d D_Checker_checkExports 52 rfl) rfl (lv_at hl 2 rfl) ?_
          have hk6 : xb_k h10 x0 = 5 := hEh10.k hk6
          refine xb_getP (C := R_Checker) (T := F_Checker) (N := 17) hx hb 4 0 hts fin_Checker hown hR hk6 (by decide) rfl (by decide) rfl (hts _ m_070795bc) (fun _ h9 => h9) (xb_d D_Checker_checkExports 53 rfl) ?_
          obtain ⟨b13, eb13, hw⟩ := hw
          refine xb_some eb13 ?_
          refine lv_bipush (v := 24) hx hb (xb_d D_Checker_checkExports 54 rfl) (by decide) ?_
          refine lv_iload_n hx hb (xb_d D_Checker_checkExports 55 rfl) rfl (lv_at hl 5 rfl) ?_
          obtain ⟨hk14, hw⟩ := hw
          obtain ⟨c17, sc17, hlc17, hlsc17, hw⟩ := hw
          refine xb_call (D := D) (A := A) (σ := σ) (h := h10) (d := 2) (mc := c17) (ms := sc17) (maxL := 3) (rest := []) (av := [.ref b13, .int 24, .int x3]) (fun T hT X => by obtain ⟨cb, r1, r2, r3⟩ := xb_recv (ci := 2) hR rfl hk14 (by decide); exact xt_invV X hx hown (hts _ m_1d37521a) (hts _ m_865d5b07) (hts _ m_113f8f75) (xt_sigOf (hts _ m_73e65e5f)) nm_StackModule_fail (by rw [hT]; exact r1) r2 r3 (g := F0 m 100 ls [.int x3, .int 24, .ref b13]) rfl (argsL := [.int 24, .int x3]) (rest := []) rfl rfl (by rw [hb]; exact (xb_d D_Checker_checkExports 56 rfl))) (ok_StackModule_fail l hfl D A σ b13 24 x3 h10 c17 sc17 _ _ hw) (hml.trans hl.1.symm) (by rw [hb]; exact (xb_d D_Checker_checkExports 56 rfl)) (Nat.le_of_ble_eq_true rfl) (Nat.le_of_ble_eq_true rfl) (Nat.le_of_ble_eq_true rfl) (show k + c17 ≤ MC by omega) (show n + sc17 ≤ MS by omega) (xt_w1 hB.1 m_73e65e5f) (xt_cdOf hB.1 m_73e65e5f) (hts _ m_9c375545) hB hR hS hA (fun vv h15 H locs hq hEh15 hR hS => ?_) (fun XX ax h15 H locs hq hEh15 hex hR hS => ?_)
          · obtain ⟨rfl, hw⟩ := hq
            have hw := hw hEh15
            have hE := hE.tr hEh15
            refine W.eq (g2 := F0 m 103 ls []) rfl ?_
            exact am_Checker_checkExports_L103 l hfl D A σ MC MS h0 Qr Qt K10 hK10 x0 x1 x2 h15 (bc - c17) (bs - sc17) hw p e s m args below meth c hC H locs ls (k + c17) (n + sc17) hE (lv_sub hl [2, 3, 4] rfl) hR hS (by omega) (by omega)
          · exact xb_pass hlocks (fun x hx9 => by rw [htab] at hx9; first | cases hx9 | (simp [tableOf] at hx9; rcases hx9 with rfl | rfl | rfl <;> decide)) (show (k + c17) ≤ MC by omega) (show (n + sc17) ≤ MS by omega) (hE.tr hEh15) hR hS hex hq
      · exact False.elim hq
    · exact False.elim hq
  · exact False.elim hq

set_option maxHeartbeats 4000000 in
set_option maxRecDepth 100000 in
theorem am_Checker_checkExports_L10 (l : Launch) (hfl : l.flags = pinnedFlags ++ [noTraceFlag]) (D : va_G) (A : Nat → Prop) (σ MC MS : Nat) (h0 : xb_H) (Qr : xb_H → Prop) (Qt : String → xb_H → Prop) (n9 : Nat) : ∀ (x0 : Nat) (x1 : Nat) (x2 : Int32) (h : xb_H) (bc : Nat) (bs : Nat), w_Checker_checkExports_L10 Qr Qt n9 x0 x1 x2 h bc bs → xb_am l D A σ 4 MC MS h0 (fun v h => v = none ∧ Qr h) Qt y_Checker_checkExports.cls y_Checker_checkExports.name b_Checker_checkExports 6 ([] : List ExceptionTableEntry) none 10 [(0, .ref x0), (1, .ref x1), (2, .int x2)] [] h bc bs := by
  induction n9 with
  | zero => intro x0 x1 x2 h bc bs hw; exact False.elim hw
  | succ n9 ih =>
    intro x0 x1 x2 h bc bs hw
    unfold w_Checker_checkExports_L10 at hw
    intro p e s m args below meth c hC H locs ls k n hE hl hR hS hk hn
    obtain ⟨hx, hb, hown, hlocks, htab, hml, hr, hB, hA, hnm⟩ := id hC
    have hts := hB.1.1.at args
    refine lv_iload_n hx hb (xb_d D_Checker_checkExports 6 rfl) rfl (lv_at hl 2 rfl) ?_
    refine lv_aload_n hx hb (xb_d D_Checker_checkExports 7 rfl) rfl (lv_at hl 1 rfl) ?_
    obtain ⟨hk1, hw⟩ := hw
    refine xb_call (D := D) (A := A) (σ := σ) (h := h) (d := 2) (mc := 0) (ms := 0) (maxL := 1) (rest := [.int x2]) (av := [.ref x1]) (fun T hT X => by obtain ⟨cb, r1, r2, r3⟩ := xb_recv (ci := 1) hR rfl hk1 (by decide); exact xt_invV X hx hown (hts _ m_c8b950b4) (hts _ m_ded65609) (hts _ m_a4161156) (xt_sigOf (hts _ m_83ba3721)) nm_Row_lines (by rw [hT]; exact r1) r2 r3 (g := F0 m 12 ls [.ref x1, .int x2]) rfl (argsL := []) (rest := [.int x2]) rfl rfl (by rw [hb]; exact (xb_d D_Checker_checkExports 8 rfl))) (ok_Row_lines l hfl D A σ x1 h _ hw) (hml.trans hl.1.symm) (by rw [hb]; exact (xb_d D_Checker_checkExports 8 rfl)) (Nat.le_of_ble_eq_true rfl) (Nat.le_of_ble_eq_true rfl) (Nat.le_of_ble_eq_true rfl) (show k + 0 ≤ MC by omega) (show n + 0 ≤ MS by omega) (xt_w1 hB.1 m_83ba3721) (xt_cdOf hB.1 m_83ba3721) (hts _ m_c1bef504) hB hR hS hA (fun vv h2 H locs hq hEh2 hR hS => ?_) (fun XX ax h2 H locs hq hEh2 hex hR hS => ?_)
    · obtain ⟨r3, rfl, hw⟩ := hq
      have hw := hw hEh2
      have hE := hE.tr hEh2
      refine W.eq (g2 := F0 m 15 ls [.int r3, .int x2]) rfl ?_
      refine lv_icmp_ge (tgt := 109) hx hb (xb_d D_Checker_checkExports 9 rfl) rfl (fun hc4 => ?_) (fun hc4 => ?_)
      · have hw := hw.1 hc4
        exact xb_vret hx hb hr hlocks (show k ≤ MC by omega) (show n ≤ MS by omega) hE hR hS (xb_d D_Checker_checkExports 59 rfl) hw
      · have hw := hw.2 hc4
        refine lv_aload_n hx hb (xb_d D_Checker_checkExports 10 rfl) rfl (lv_at hl 1 rfl) ?_
        refine lv_iload_n hx hb (xb_d D_Checker_checkExports 11 rfl) rfl (lv_at hl 2 rfl) ?_
        refine lv_iconst (v := 0) hx hb (xb_d D_Checker_checkExports 12 rfl) (by decide) ?_
        have hk1 : xb_k h2 x1 = 2 := hEh2.k hk1
        refine xb_call (D := D) (A := A) (σ := σ) (h := h2) (d := 2) (mc := 0) (ms := 0) (maxL := 3) (rest := []) (av := [.ref x1, .int x2, .int 0]) (fun T hT X => by obtain ⟨cb, r1, r2, r3⟩ := xb_recv (ci := 1) hR rfl hk1 (by decide); exact xt_invV X hx hown (hts _ m_068feb96) (hts _ m_8e233096) (hts _ m_27eed10c) (xt_sigOf (hts _ m_ff1c70ae)) nm_Row_at (by rw [hT]; exact r1) r2 r3 (g := F0 m 21 ls [.int 0, .int x2, .ref x1]) rfl (argsL := [.int x2, .int 0]) (rest := []) rfl rfl (by rw [hb]; exact (xb_d D_Checker_checkExports 13 rfl))) (ok_Row_at l hfl D A σ x1 x2 0 h2 _ hw) (hml.trans hl.1.symm) (by rw [hb]; exact (xb_d D_Checker_checkExports 13 rfl)) (Nat.le_of_ble_eq_true rfl) (Nat.le_of_ble_eq_true rfl) (Nat.le_of_ble_eq_true rfl) (show k + 0 ≤ MC by omega) (show n + 0 ≤ MS by omega) (xt_w1 hB.1 m_ff1c70ae) (xt_cdOf hB.1 m_ff1c70ae) (hts _ m_c1bef504) hB hR hS hA (fun vv h5 H locs hq hEh5 hR hS => ?_) (fun XX ax h5 H locs hq hEh5 hex hR hS => ?_)
        · obtain ⟨r6, rfl, hw⟩ := hq
          have hw := hw hEh5
          have hE := hE.tr hEh5
          refine W.eq (g2 := F0 m 24 ls [.int r6]) rfl ?_
          refine lv_istore_n hx hb (xb_d D_Checker_checkExports 14 rfl) rfl hl (by decide) rfl (fun ls hl => ?_)
          have hl : lv_has ls 6 [(3, .int r6), (0, .ref x0), (1, .ref x1), (2, .int x2)] := hl
          refine lv_aload_n hx hb (xb_d D_Checker_checkExports 15 rfl) rfl (lv_at hl 2 rfl) ?_
          refine lv_iload_n hx hb (xb_d D_Checker_checkExports 16 rfl) rfl (lv_at hl 3 rfl) ?_
          refine lv_iconst (v := 2) hx hb (xb_d D_Checker_checkExports 17 rfl) (by decide) ?_
          have hk1 : xb_k h5 x1 = 2 := hEh5.k hk1
          refine xb_call (D := D) (A := A) (σ := σ) (h := h5) (d := 2) (mc := 0) (ms := 0) (maxL := 3) (rest := []) (av := [.ref x1, .int x2, .int 2]) (fun T hT X => by obtain ⟨cb, r1, r2, r3⟩ := xb_recv (ci := 1) hR rfl hk1 (by decide); exact xt_invV X hx hown (hts _ m_e00feb7e) (hts _ m_8db3b24f) (hts _ m_78dc30a4) (xt_sigOf (hts _ m_a4177401)) nm_Row_longAt (by rw [hT]; exact r1) r2 r3 (g := F0 m 28 ls [.int 2, .int x2, .ref x1]) rfl (argsL := [.int x2, .int 2]) (rest := []) rfl rfl (by rw [hb]; exact (xb_d D_Checker_checkExports 18 rfl))) (ok_Row_longAt l hfl D A σ x1 x2 2 h5 _ hw) (hml.trans hl.1.symm) (by rw [hb]; exact (xb_d D_Checker_checkExports 18 rfl)) (Nat.le_of_ble_eq_true rfl) (Nat.le_of_ble_eq_true rfl) (Nat.le_of_ble_eq_true rfl) (show k + 0 ≤ MC by omega) (show n + 0 ≤ MS by omega) (xt_w1 hB.1 m_a4177401) (xt_cdOf hB.1 m_a4177401) (hts _ m_c1bef504) hB hR hS hA (fun vv h7 H locs hq hEh7 hR hS => ?_) (fun XX ax h7 H locs hq hEh7 hex hR hS => ?_)
          · obtain ⟨r8, rfl, hw⟩ := hq
            have hw := hw hEh7
            have hE := hE.tr hEh7
            refine W.eq (g2 := F0 m 31 ls [.long r8]) rfl ?_
            refine lv_aload_n hx hb (xb_d D_Checker_checkExports 19 rfl) rfl (lv_at hl 1 rfl) ?_
            refine lv_aload_n hx hb (xb_d D_Checker_checkExports 20 rfl) rfl (lv_at hl 2 rfl) ?_
            refine lv_iload_n hx hb (xb_d D_Checker_checkExports 21 rfl) rfl (lv_at hl 3 rfl) ?_
            refine lv_iconst (v := 1) hx hb (xb_d D_Checker_checkExports 22 rfl) (by decide) ?_
            have hk1 : xb_k h7 x1 = 2 := hEh7.k hk1
            refine xb_call (D := D) (A := A) (σ := σ) (h := h7) (d := 2) (mc := 0) (ms := 0) (maxL := 3) (rest := [.ref x0, .long r8]) (av := [.ref x1, .int x2, .int 1]) (fun T hT X => by obtain ⟨cb, r1, r2, r3⟩ := xb_recv (ci := 1) hR rfl hk1 (by decide); exact xt_invV X hx hown (hts _ m_068feb96) (hts _ m_8e233096) (hts _ m_27eed10c) (xt_sigOf (hts _ m_ff1c70ae)) nm_Row_at (by rw [hT]; exact r1) r2 r3 (g := F0 m 35 ls [.int 1, .int x2, .ref x1, .ref x0, .long r8]) rfl (argsL := [.int x2, .int 1]) (rest := [.ref x0, .long r8]) rfl rfl (by rw [hb]; exact (xb_d D_Checker_checkExports 23 rfl))) (ok_Row_at l hfl D A σ x1 x2 1 h7 _ hw) (hml.trans hl.1.symm) (by rw [hb]; exact (xb_d D_Checker_checkExports 23 rfl)) (Nat.le_of_ble_eq_true rfl) (Nat.le_of_ble_eq_true rfl) (Nat.le_of_ble_eq_true rfl) (show k + 0 ≤ MC by omega) (show n + 0 ≤ MS by omega) (xt_w1 hB.1 m_ff1c70ae) (xt_cdOf hB.1 m_ff1c70ae) (hts _ m_c1bef504) hB hR hS hA (fun vv h9 H locs hq hEh9 hR hS => ?_) (fun XX ax h9 H locs hq hEh9 hex hR hS => ?_)
            · obtain ⟨r10, rfl, hw⟩ := hq
              have hw := hw hEh9
              have hE := hE.tr hEh9
              refine W.eq (g2 := F0 m 38 ls [.int r10, .ref x0, .long r8]) rfl ?_
              obtain ⟨hk11, hw⟩ := hw
              refine xb_call (D := D) (A := A) (σ := σ) (h := h9) (d := 3) (mc := 0) (ms := 0) (maxL := 2) (rest := [.long r8]) (av := [.ref x0, .int r10]) (fun T hT X => by obtain ⟨cb, r1, r2, r3⟩ := xb_recv (ci := 4) hR rfl hk11 (by decide); exact xt_invV X hx hown (hts _ m_da1f7fec) (hts _ m_ced2ddfa) (hts _ m_47ca7480) (xt_sigOf (hts _ m_971b0474)) nm_Checker_countOf (by rw [hT]; exact r1) r2 r3 (g := F0 m 38 ls [.int r10, .ref x0, .long r8]) rfl (argsL := [.int r10]) (rest := [.long r8]) rfl rfl (by rw [hb]; exact (xb_d D_Checker_checkExports 24 rfl))) (ok_Checker_countOf l hfl D A σ x0 r10 h9 _ hw) (hml.trans hl.1.symm) (by rw [hb]; exact (xb_d D_Checker_checkExports 24 rfl)) (Nat.le_of_ble_eq_true rfl) (Nat.le_of_ble_eq_true rfl) (Nat.le_of_ble_eq_true rfl) (show k + 0 ≤ MC by omega) (show n + 0 ≤ MS by omega) (xt_w1 hB.1 m_971b0474) (xt_cdOf hB.1 m_971b0474) (hts _ m_44748ce5) hB hR hS hA (fun vv h12 H locs hq hEh12 hR hS => ?_) (fun XX ax h12 H locs hq hEh12 hex hR hS => ?_)
              · obtain ⟨r13, rfl, hw⟩ := hq
                have hw := hw hEh12
                have hE := hE.tr hEh12
                refine W.eq (g2 := F0 m 41 ls [.int r13, .long r8]) rfl ?_
                refine xb_call (D := D) (A := A) (σ := σ) (h := h12) (d := 2) (mc := 0) (ms := 0) (maxL := 3) (rest := []) (av := [.long r8, .int r13]) (fun T hT X => xt_invS X hx hown (hts _ m_fe08b245) (hts _ m_9ad1e0af) (hts _ m_44748ce5) (xt_sgS (hts _ m_2237aee6)).1 (xt_sgS (hts _ m_2237aee6)).2 nm_Checker_isThere (g := F0 m 41 ls [.int r13, .long r8]) rfl (argsL := [.long r8, .int r13]) (rest := []) rfl rfl (by rw [hb]; exact (xb_d D_Checker_checkExports 25 rfl))) (ok_Checker_isThere l hfl D A σ r8 r13 h12 _ hw) (hml.trans hl.1.symm) (by rw [hb]; exact (xb_d D_Checker_checkExports 25 rfl)) (Nat.le_of_ble_eq_true rfl) (Nat.le_of_ble_eq_true rfl) (Nat.le_of_ble_eq_true rfl) (show k + 0 ≤ MC by omega) (show n + 0 ≤ MS by omega) (xt_w1 hB.1 m_2237aee6) (xt_cdOf hB.1 m_2237aee6) (hts _ m_44748ce5) hB hR hS hA (fun vv h14 H locs hq hEh14 hR hS => ?_) (fun XX ax h14 H locs hq hEh14 hex hR hS => ?_)
                · obtain ⟨r15, rfl, hw⟩ := hq
                  have hw := hw hEh14
                  have hE := hE.tr hEh14
                  refine W.eq (g2 := F0 m 44 ls [.int r15]) rfl ?_
                  refine lv_if_ne (tgt := 57) hx hb (xb_d D_Checker_checkExports 26 rfl) rfl (fun hc16 => ?_) (fun hc16 => ?_)
                  · have hw := hw.1 hc16
                    exact am_Checker_checkExports_L57 l hfl D A σ MC MS h0 Qr Qt (w_Checker_checkExports_L10 Qr Qt n9) ih x0 x1 x2 r6 h14 bc bs hw p e s m args below meth c hC H locs ls k n hE (lv_sub hl [1, 2, 3, 0] rfl) hR hS (by omega) (by omega)
                  · have hw := hw.2 hc16
                    refine lv_aload_n hx hb (xb_d D_Checker_checkExports 27 rfl) rfl (lv_at hl 1 rfl) ?_
                    have hk11 : xb_k h12 x0 = 5 := hEh12.k hk11
                    have hk11 : xb_k h14 x0 = 5 := hEh14.k hk11
                    refine xb_getP (C := R_Checker) (T := F_Checker) (N := 17) hx hb 4 0 hts fin_Checker hown hR hk11 (by decide) rfl (by decide) rfl (hts _ m_070795bc) (fun _ h9 => h9) (xb_d D_Checker_checkExports 28 rfl) ?_
                    obtain ⟨b17, eb17, hw⟩ := hw
                    refine xb_some eb17 ?_
                    refine lv_bipush (v := 20) hx hb (xb_d D_Checker_checkExports 29 rfl) (by decide) ?_
                    refine lv_iload_n hx hb (xb_d D_Checker_checkExports 30 rfl) rfl (lv_at hl 0 rfl) ?_
                    obtain ⟨hk18, hw⟩ := hw
                    obtain ⟨c21, sc21, hlc21, hlsc21, hw⟩ := hw
                    refine xb_call (D := D) (A := A) (σ := σ) (h := h14) (d := 2) (mc := c21) (ms := sc21) (maxL := 3) (rest := []) (av := [.ref b17, .int 20, .int r6]) (fun T hT X => by obtain ⟨cb, r1, r2, r3⟩ := xb_recv (ci := 2) hR rfl hk18 (by decide); exact xt_invV X hx hown (hts _ m_1d37521a) (hts _ m_865d5b07) (hts _ m_113f8f75) (xt_sigOf (hts _ m_73e65e5f)) nm_StackModule_fail (by rw [hT]; exact r1) r2 r3 (g := F0 m 54 ls [.int r6, .int 20, .ref b17]) rfl (argsL := [.int 20, .int r6]) (rest := []) rfl rfl (by rw [hb]; exact (xb_d D_Checker_checkExports 31 rfl))) (ok_StackModule_fail l hfl D A σ b17 20 r6 h14 c21 sc21 _ _ hw) (hml.trans hl.1.symm) (by rw [hb]; exact (xb_d D_Checker_checkExports 31 rfl)) (Nat.le_of_ble_eq_true rfl) (Nat.le_of_ble_eq_true rfl) (Nat.le_of_ble_eq_true rfl) (show k + c21 ≤ MC by omega) (show n + sc21 ≤ MS by omega) (xt_w1 hB.1 m_73e65e5f) (xt_cdOf hB.1 m_73e65e5f) (hts _ m_9c375545) hB hR hS hA (fun vv h19 H locs hq hEh19 hR hS => ?_) (fun XX ax h19 H locs hq hEh19 hex hR hS => ?_)
                    · obtain ⟨rfl, hw⟩ := hq
                      have hw := hw hEh19
                      have hE := hE.tr hEh19
                      refine W.eq (g2 := F0 m 57 ls []) rfl ?_
                      exact am_Checker_checkExports_L57 l hfl D A σ MC MS h0 Qr Qt (w_Checker_checkExports_L10 Qr Qt n9) ih x0 x1 x2 r6 h19 (bc - c21) (bs - sc21) hw p e s m args below meth c hC H locs ls (k + c21) (n + sc21) hE (lv_sub hl [1, 2, 3, 0] rfl) hR hS (by omega) (by omega)
                    · exact xb_pass hlocks (fun x hx9 => by rw [htab] at hx9; first | cases hx9 | (simp [tableOf] at hx9; rcases hx9 with rfl | rfl | rfl <;> decide)) (show (k + c21) ≤ MC by omega) (show (n + sc21) ≤ MS by omega) (hE.tr hEh19) hR hS hex hq
                · exact False.elim hq
              · exact False.elim hq
            · exact False.elim hq
          · exact False.elim hq
        · exact False.elim hq
    · exact False.elim hq

set_option maxHeartbeats 4000000 in
set_option maxRecDepth 100000 in
theorem ok_Checker_checkExports (l : Launch) (hfl : l.flags = pinnedFlags ++ [noTraceFlag]) (D : va_G) (A : Nat → Prop) (σ : Nat) (x0 : Nat) (h : xb_H) (bc : Nat) (bs : Nat) (Qr : xb_H → Prop) (Qt : String → xb_H → Prop) (hw : w_Checker_checkExports x0 h bc bs Qr Qt) : xt_Met l y_Checker_checkExports [.code y_Checker_checkExports b_Checker_checkExports 6 none] (xb_rm 4 bc bs) (xb_Pc D A σ h [.ref x0]) (xb_Qc D A h (fun v h => v = none ∧ Qr h) Qt) bc bs A := by
  refine xb_ofAm (cc := b_Checker_checkExports) (by decide) (Nat.le_of_ble_eq_true rfl) ?_
  unfold w_Checker_checkExports at hw
  show xb_am l D A σ 4 bc bs h (fun v h => v = none ∧ Qr h) Qt y_Checker_checkExports.cls y_Checker_checkExports.name b_Checker_checkExports 6 ([] : List ExceptionTableEntry) none 0 [(0, .ref x0)] [] h bc bs
  obtain ⟨MC, hMC⟩ : ∃ x, x = bc := ⟨_, rfl⟩
  obtain ⟨MS, hMS⟩ : ∃ x, x = bs := ⟨_, rfl⟩
  rw [show xb_am l D A σ 4 bc bs = xb_am l D A σ 4 MC MS by rw [hMC, hMS]]
  obtain ⟨h0, hh0⟩ : ∃ x, x = h := ⟨_, rfl⟩
  rw [show xb_am l D A σ 4 MC MS h = xb_am l D A σ 4 MC MS h0 by rw [hh0]]
  intro p e s m args below meth c hC H locs ls k n hE hl hR hS hk hn
  obtain ⟨hx, hb, hown, hlocks, htab, hml, hr, hB, hA, hnm⟩ := id hC
  have hts := hB.1.1.at args
  refine lv_aload_n hx hb (xb_d D_Checker_checkExports 0 rfl) rfl (lv_at hl 0 rfl) ?_
  obtain ⟨hk1, hw⟩ := hw
  refine xb_getP (C := R_Checker) (T := F_Checker) (N := 17) hx hb 4 0 hts fin_Checker hown hR hk1 (by decide) rfl (by decide) rfl (hts _ m_070795bc) (fun _ h9 => h9) (xb_d D_Checker_checkExports 1 rfl) ?_
  obtain ⟨b2, eb2, hw⟩ := hw
  refine xb_some eb2 ?_
  obtain ⟨hk3, hw⟩ := hw
  refine xb_getP (C := R_StackModule) (T := F_StackModule) (N := 19) hx hb 2 8 hts fin_StackModule hown hR hk3 (by decide) rfl (by decide) rfl (hts _ m_a4e74538) (fun _ h9 => h9) (xb_d D_Checker_checkExports 2 rfl) ?_
  obtain ⟨b4, eb4, hw⟩ := hw
  refine xb_some eb4 ?_
  refine lv_astore_n hx hb (xb_d D_Checker_checkExports 3 rfl) rfl hl (by decide) rfl (fun ls hl => ?_)
  have hl : lv_has ls 6 [(1, .ref b4), (0, .ref x0)] := hl
  refine lv_iconst (v := 0) hx hb (xb_d D_Checker_checkExports 4 rfl) (by decide) ?_
  refine lv_istore_n hx hb (xb_d D_Checker_checkExports 5 rfl) rfl hl (by decide) rfl (fun ls hl => ?_)
  have hl : lv_has ls 6 [(2, .int 0), (1, .ref b4), (0, .ref x0)] := hl
  obtain ⟨n8, hw⟩ := hw
  exact am_Checker_checkExports_L10 l hfl D A σ MC MS h0 Qr Qt n8 x0 b4 0 h bc bs hw p e s m args below meth c hC H locs ls k n hE (lv_sub hl [2, 1, 0] rfl) hR hS (by omega) (by omega)

theorem m_aabcadab : (.fieldLink "StackHost$Checker" 98 "StackHost$StackModule" "imports" "LStackHost$Row;" : Cond) ∈ xt_tbl := xt_in (xt_t3 (List.mem_of_getElem? (i := 61) (by decide +kernel))) (by decide +kernel)
theorem m_635e771e : (.methodLink "StackHost$Checker" 101 y_Checker_checkFunction : Cond) ∈ xt_tbl := xt_in (xt_t4 (List.mem_of_getElem? (i := 109) (by decide +kernel))) (by decide +kernel)
theorem m_b0a695c0 : (.instanceMethod y_Checker_checkFunction : Cond) ∈ xt_tbl := xt_in (xt_t4 (List.mem_of_getElem? (i := 111) (by decide +kernel))) (by decide +kernel)
theorem m_1190460b : (.selects "StackHost$Checker" y_Checker_checkFunction y_Checker_checkFunction : Cond) ∈ xt_tbl := xt_in (xt_v3 (q := (⟨"StackHost$Checker", "checkFunction", "(I)V"⟩, 17)) (List.mem_of_getElem? (i := 2) (by decide +kernel))) (by decide +kernel)
theorem m_dd5eb9b4 : (.code y_Checker_checkFunction b_Checker_checkFunction 2 none : Cond) ∈ xt_tbl := xt_in (xt_t4 (List.mem_of_getElem? (i := 112) (by decide +kernel))) (by decide +kernel)
theorem m_8009c90c : (.constantLong "StackHost$Checker" 107 4294967295 : Cond) ∈ xt_tbl := xt_in (xt_t4 (List.mem_of_getElem? (i := 120) (by decide +kernel))) (by decide +kernel)
theorem m_160564f4 : (.methodLink "StackHost$Checker" 109 y_Checker_checkLimits : Cond) ∈ xt_tbl := xt_in (xt_t4 (List.mem_of_getElem? (i := 121) (by decide +kernel))) (by decide +kernel)
theorem m_e4938329 : (.instanceMethod y_Checker_checkLimits : Cond) ∈ xt_tbl := xt_in (xt_t4 (List.mem_of_getElem? (i := 123) (by decide +kernel))) (by decide +kernel)
theorem m_811dfb37 : (.selects "StackHost$Checker" y_Checker_checkLimits y_Checker_checkLimits : Cond) ∈ xt_tbl := xt_in (xt_v3 (q := (⟨"StackHost$Checker", "checkLimits", "(LStackHost$Row;IJ)V"⟩, 17)) (List.mem_of_getElem? (i := 3) (by decide +kernel))) (by decide +kernel)
theorem m_9c84dd5e : (.code y_Checker_checkLimits b_Checker_checkLimits 10 none : Cond) ∈ xt_tbl := xt_in (xt_t4 (List.mem_of_getElem? (i := 124) (by decide +kernel))) (by decide +kernel)
theorem m_6ee0f551 : (.constantLong "StackHost$Checker" 116 65536 : Cond) ∈ xt_tbl := xt_in (xt_t4 (List.mem_of_getElem? (i := 126) (by decide +kernel))) (by decide +kernel)
theorem nm_Checker_checkFunction : xt_nm y_Checker_checkFunction 1 := ⟨by decide +kernel, by decide +kernel⟩
theorem nm_Checker_checkLimits : xt_nm y_Checker_checkLimits 3 := ⟨by decide +kernel, by decide +kernel⟩
set_option maxRecDepth 100000 in
def T_Checker_checkImports : List (Nat × Instr × Nat) := [(0, .iconst 0, 1), (1, .istore_n 1, 1), (2, .iload_n 1, 1), (3, .aload_n 0, 1), (4, .getfield 38, 3), (7, .getfield 98, 3), (10, .invokevirtual 77, 3), (13, .if_icmp .ge 105, 3), (16, .aload_n 0, 1), (17, .getfield 38, 3), (20, .getfield 98, 3), (23, .iload_n 1, 1), (24, .iconst 2, 1), (25, .invokevirtual 90, 3), (28, .istore_n 2, 1), (29, .aload_n 0, 1), (30, .getfield 38, 3), (33, .getfield 98, 3), (36, .iload_n 1, 1), (37, .iconst 1, 1), (38, .invokevirtual 90, 3), (41, .tableswitch 71 0 2 #[27, 35, 53], 27), (68, .aload_n 0, 1), (69, .iload_n 2, 1), (70, .invokevirtual 101, 3), (73, .goto 39, 3), (76, .aload_n 0, 1), (77, .aload_n 0, 1), (78, .getfield 38, 3), (81, .getfield 104, 3), (84, .iload_n 2, 1), (85, .ldc2_w 107, 3), (88, .invokevirtual 109, 3), (91, .goto 21, 3), (94, .aload_n 0, 1), (95, .aload_n 0, 1), (96, .getfield 38, 3), (99, .getfield 113, 3), (102, .iload_n 2, 1), (103, .ldc2_w 116, 3), (106, .invokevirtual 109, 3), (109, .goto 3, 3), (112, .iinc 1 1, 3), (115, .goto (-113), 3), (118, .return_, 1)]
theorem D_Checker_checkImports : ∀ q ∈ T_Checker_checkImports, decode b_Checker_checkImports q.1 = .ok (q.2.1, q.2.2) := by decide +kernel
def w_Checker_checkImports_L112 (K2 : Nat → Int32 → xb_H → Nat → Nat → Prop) (Qr : xb_H → Prop) (Qt : String → xb_H → Prop) (x0 : Nat) (x1 : Int32) (h : xb_H) (bc : Nat) (bs : Nat) : Prop :=
    K2 x0 (x1 + 1) h bc bs

def w_Checker_checkImports_L2 (Qr : xb_H → Prop) (Qt : String → xb_H → Prop) : Nat → Nat → Int32 → xb_H → Nat → Nat → Prop
  | 0, _, _, _, _, _ => False
  | n9 + 1, x0, x1, h, bc, bs =>
    xb_k h x0 = 5 ∧ ∃ b2 : Nat, (xb_r h x0 0) = some b2 ∧ xb_k h b2 = 3 ∧ ∃ b4 : Nat, (xb_r h b2 3) = some b4 ∧ xb_k h b4 = 2 ∧ w_Row_lines b4 h (fun (r7 : Int32) (h6 : xb_H) => xb_ext h h6 → ((r7 ≤ x1 → Qr h6) ∧ (¬ r7 ≤ x1 → ∃ b9 : Nat, (xb_r h6 x0 0) = some b9 ∧ xb_k h6 b9 = 3 ∧ ∃ b11 : Nat, (xb_r h6 b9 3) = some b11 ∧ xb_k h6 b11 = 2 ∧ w_Row_at b11 x1 2 h6 (fun (r14 : Int32) (h13 : xb_H) => xb_ext h6 h13 → ∃ b15 : Nat, (xb_r h13 x0 0) = some b15 ∧ xb_k h13 b15 = 3 ∧ ∃ b17 : Nat, (xb_r h13 b15 3) = some b17 ∧ xb_k h13 b17 = 2 ∧ w_Row_at b17 x1 1 h13 (fun (r20 : Int32) (h19 : xb_H) => xb_ext h13 h19 → ((r20 = 0 → ∃ c24 sc24 : Nat, c24 ≤ bc ∧ sc24 ≤ bs ∧ w_Checker_checkFunction x0 r14 h19 c24 sc24 (fun (h22 : xb_H) => xb_ext h19 h22 → w_Checker_checkImports_L112 (w_Checker_checkImports_L2 Qr Qt n9) Qr Qt x0 x1 h22 (bc - c24) (bs - sc24)) Qt) ∧ (r20 = 1 → ∃ b26 : Nat, (xb_r h19 x0 0) = some b26 ∧ xb_k h19 b26 = 3 ∧ ∃ b28 : Nat, (xb_r h19 b26 5) = some b28 ∧ ∃ c31 sc31 : Nat, c31 ≤ bc ∧ sc31 ≤ bs ∧ w_Checker_checkLimits x0 b28 r14 4294967295 h19 c31 sc31 (fun (h29 : xb_H) => xb_ext h19 h29 → w_Checker_checkImports_L112 (w_Checker_checkImports_L2 Qr Qt n9) Qr Qt x0 x1 h29 (bc - c31) (bs - sc31)) Qt) ∧ (r20 = 2 → ∃ b33 : Nat, (xb_r h19 x0 0) = some b33 ∧ xb_k h19 b33 = 3 ∧ ∃ b35 : Nat, (xb_r h19 b33 6) = some b35 ∧ ∃ c38 sc38 : Nat, c38 ≤ bc ∧ sc38 ≤ bs ∧ w_Checker_checkLimits x0 b35 r14 65536 h19 c38 sc38 (fun (h36 : xb_H) => xb_ext h19 h36 → w_Checker_checkImports_L112 (w_Checker_checkImports_L2 Qr Qt n9) Qr Qt x0 x1 h36 (bc - c38) (bs - sc38)) Qt) ∧ (¬ r20 = 0 → ¬ r20 = 1 → ¬ r20 = 2 → w_Checker_checkImports_L112 (w_Checker_checkImports_L2 Qr Qt n9) Qr Qt x0 x1 h19 bc bs)))))))

def w_Checker_checkImports (x0 : Nat) (h : xb_H) (bc : Nat) (bs : Nat) (Qr : xb_H → Prop) (Qt : String → xb_H → Prop) : Prop :=
    (∃ n8 : Nat, w_Checker_checkImports_L2 Qr Qt n8 x0 0 h bc bs)

set_option maxHeartbeats 4000000 in
set_option maxRecDepth 100000 in
theorem am_Checker_checkImports_L112 (l : Launch) (hfl : l.flags = pinnedFlags ++ [noTraceFlag]) (D : va_G) (A : Nat → Prop) (σ MC MS : Nat) (h0 : xb_H) (Qr : xb_H → Prop) (Qt : String → xb_H → Prop) (K2 : Nat → Int32 → xb_H → Nat → Nat → Prop) (hK2 : ∀ (x0 : Nat) (x1 : Int32) (h : xb_H) (bc : Nat) (bs : Nat), K2 x0 x1 h bc bs → xb_am l D A σ 4 MC MS h0 (fun v h => v = none ∧ Qr h) Qt y_Checker_checkImports.cls y_Checker_checkImports.name b_Checker_checkImports 3 ([] : List ExceptionTableEntry) none 2 [(0, .ref x0), (1, .int x1)] [] h bc bs) (x0 : Nat) (x1 : Int32) (h : xb_H) (bc : Nat) (bs : Nat) (hw : w_Checker_checkImports_L112 K2 Qr Qt x0 x1 h bc bs) : xb_am l D A σ 4 MC MS h0 (fun v h => v = none ∧ Qr h) Qt y_Checker_checkImports.cls y_Checker_checkImports.name b_Checker_checkImports 3 ([] : List ExceptionTableEntry) none 112 [(0, .ref x0), (1, .int x1)] [] h bc bs := by
  unfold w_Checker_checkImports_L112 at hw
  intro p e s m args below meth c hC H locs ls k n hE hl hR hS hk hn
  obtain ⟨hx, hb, hown, hlocks, htab, hml, hr, hB, hA, hnm⟩ := id hC
  have hts := hB.1.1.at args
  refine lv_iinc (v := (x1 + 1)) (k := 1) hx hb (xb_d D_Checker_checkImports 42 rfl) hl rfl (by first | rfl | decide) (by decide) rfl (fun ls hl => ?_)
  have hl : lv_has ls 3 [(1, .int (x1 + 1)), (0, .ref x0)] := hl
  refine lv_goto (tgt := 2) hx hb (xb_d D_Checker_checkImports 43 rfl) rfl ?_
  exact hK2 x0 (x1 + 1) h bc bs hw p e s m args below meth c hC H locs ls k n hE (lv_sub hl [1, 0] rfl) hR hS (by omega) (by omega)

set_option maxHeartbeats 4000000 in
set_option maxRecDepth 100000 in
theorem am_Checker_checkImports_L2 (l : Launch) (hfl : l.flags = pinnedFlags ++ [noTraceFlag]) (D : va_G) (A : Nat → Prop) (σ MC MS : Nat) (h0 : xb_H) (Qr : xb_H → Prop) (Qt : String → xb_H → Prop) (n9 : Nat) : ∀ (x0 : Nat) (x1 : Int32) (h : xb_H) (bc : Nat) (bs : Nat), w_Checker_checkImports_L2 Qr Qt n9 x0 x1 h bc bs → xb_am l D A σ 4 MC MS h0 (fun v h => v = none ∧ Qr h) Qt y_Checker_checkImports.cls y_Checker_checkImports.name b_Checker_checkImports 3 ([] : List ExceptionTableEntry) none 2 [(0, .ref x0), (1, .int x1)] [] h bc bs := by
  induction n9 with
  | zero => intro x0 x1 h bc bs hw; exact False.elim hw
  | succ n9 ih =>
    intro x0 x1 h bc bs hw
    unfold w_Checker_checkImports_L2 at hw
    intro p e s m args below meth c hC H locs ls k n hE hl hR hS hk hn
    obtain ⟨hx, hb, hown, hlocks, htab, hml, hr, hB, hA, hnm⟩ := id hC
    have hts := hB.1.1.at args
    refine lv_iload_n hx hb (xb_d D_Checker_checkImports 2 rfl) rfl (lv_at hl 1 rfl) ?_
    refine lv_aload_n hx hb (xb_d D_Checker_checkImports 3 rfl) rfl (lv_at hl 0 rfl) ?_
    obtain ⟨hk1, hw⟩ := hw
    refine xb_getP (C := R_Checker) (T := F_Checker) (N := 17) hx hb 4 0 hts fin_Checker hown hR hk1 (by decide) rfl (by decide) rfl (hts _ m_070795bc) (fun _ h9 => h9) (xb_d D_Checker_checkImports 4 rfl) ?_
    obtain ⟨b2, eb2, hw⟩ := hw
    refine xb_some eb2 ?_
    obtain ⟨hk3, hw⟩ := hw
    refine xb_getP (C := R_StackModule) (T := F_StackModule) (N := 19) hx hb 2 3 hts fin_StackModule hown hR hk3 (by decide) rfl (by decide) rfl (hts _ m_aabcadab) (fun _ h9 => h9) (xb_d D_Checker_checkImports 5 rfl) ?_
    obtain ⟨b4, eb4, hw⟩ := hw
    refine xb_some eb4 ?_
    obtain ⟨hk5, hw⟩ := hw
    refine xb_call (D := D) (A := A) (σ := σ) (h := h) (d := 2) (mc := 0) (ms := 0) (maxL := 1) (rest := [.int x1]) (av := [.ref b4]) (fun T hT X => by obtain ⟨cb, r1, r2, r3⟩ := xb_recv (ci := 1) hR rfl hk5 (by decide); exact xt_invV X hx hown (hts _ m_c8b950b4) (hts _ m_ded65609) (hts _ m_a4161156) (xt_sigOf (hts _ m_83ba3721)) nm_Row_lines (by rw [hT]; exact r1) r2 r3 (g := F0 m 10 ls [.ref b4, .int x1]) rfl (argsL := []) (rest := [.int x1]) rfl rfl (by rw [hb]; exact (xb_d D_Checker_checkImports 6 rfl))) (ok_Row_lines l hfl D A σ b4 h _ hw) (hml.trans hl.1.symm) (by rw [hb]; exact (xb_d D_Checker_checkImports 6 rfl)) (Nat.le_of_ble_eq_true rfl) (Nat.le_of_ble_eq_true rfl) (Nat.le_of_ble_eq_true rfl) (show k + 0 ≤ MC by omega) (show n + 0 ≤ MS by omega) (xt_w1 hB.1 m_83ba3721) (xt_cdOf hB.1 m_83ba3721) (hts _ m_c1bef504) hB hR hS hA (fun vv h6 H locs hq hEh6 hR hS => ?_) (fun XX ax h6 H locs hq hEh6 hex hR hS => ?_)
    · obtain ⟨r7, rfl, hw⟩ := hq
      have hw := hw hEh6
      have hE := hE.tr hEh6
      refine W.eq (g2 := F0 m 13 ls [.int r7, .int x1]) rfl ?_
      refine lv_icmp_ge (tgt := 118) hx hb (xb_d D_Checker_checkImports 7 rfl) rfl (fun hc8 => ?_) (fun hc8 => ?_)
      · have hw := hw.1 hc8
        exact xb_vret hx hb hr hlocks (show k ≤ MC by omega) (show n ≤ MS by omega) hE hR hS (xb_d D_Checker_checkImports 44 rfl) hw
      · have hw := hw.2 hc8
        refine lv_aload_n hx hb (xb_d D_Checker_checkImports 8 rfl) rfl (lv_at hl 0 rfl) ?_
        have hk1 : xb_k h6 x0 = 5 := hEh6.k hk1
        refine xb_getP (C := R_Checker) (T := F_Checker) (N := 17) hx hb 4 0 hts fin_Checker hown hR hk1 (by decide) rfl (by decide) rfl (hts _ m_070795bc) (fun _ h9 => h9) (xb_d D_Checker_checkImports 9 rfl) ?_
        obtain ⟨b9, eb9, hw⟩ := hw
        refine xb_some eb9 ?_
        obtain ⟨hk10, hw⟩ := hw
        refine xb_getP (C := R_StackModule) (T := F_StackModule) (N := 19) hx hb 2 3 hts fin_StackModule hown hR hk10 (by decide) rfl (by decide) rfl (hts _ m_aabcadab) (fun _ h9 => h9) (xb_d D_Checker_checkImports 10 rfl) ?_
        obtain ⟨b11, eb11, hw⟩ := hw
        refine xb_some eb11 ?_
        refine lv_iload_n hx hb (xb_d D_Checker_checkImports 11 rfl) rfl (lv_at hl 1 rfl) ?_
        refine lv_iconst (v := 2) hx hb (xb_d D_Checker_checkImports 12 rfl) (by decide) ?_
        obtain ⟨hk12, hw⟩ := hw
        refine xb_call (D := D) (A := A) (σ := σ) (h := h6) (d := 2) (mc := 0) (ms := 0) (maxL := 3) (rest := []) (av := [.ref b11, .int x1, .int 2]) (fun T hT X => by obtain ⟨cb, r1, r2, r3⟩ := xb_recv (ci := 1) hR rfl hk12 (by decide); exact xt_invV X hx hown (hts _ m_068feb96) (hts _ m_8e233096) (hts _ m_27eed10c) (xt_sigOf (hts _ m_ff1c70ae)) nm_Row_at (by rw [hT]; exact r1) r2 r3 (g := F0 m 25 ls [.int 2, .int x1, .ref b11]) rfl (argsL := [.int x1, .int 2]) (rest := []) rfl rfl (by rw [hb]; exact (xb_d D_Checker_checkImports 13 rfl))) (ok_Row_at l hfl D A σ b11 x1 2 h6 _ hw) (hml.trans hl.1.symm) (by rw [hb]; exact (xb_d D_Checker_checkImports 13 rfl)) (Nat.le_of_ble_eq_true rfl) (Nat.le_of_ble_eq_true rfl) (Nat.le_of_ble_eq_true rfl) (show k + 0 ≤ MC by omega) (show n + 0 ≤ MS by omega) (xt_w1 hB.1 m_ff1c70ae) (xt_cdOf hB.1 m_ff1c70ae) (hts _ m_c1bef504) hB hR hS hA (fun vv h13 H locs hq hEh13 hR hS => ?_) (fun XX ax h13 H locs hq hEh13 hex hR hS => ?_)
        · obtain ⟨r14, rfl, hw⟩ := hq
          have hw := hw hEh13
          have hE := hE.tr hEh13
          refine W.eq (g2 := F0 m 28 ls [.int r14]) rfl ?_
          refine lv_istore_n hx hb (xb_d D_Checker_checkImports 14 rfl) rfl hl (by decide) rfl (fun ls hl => ?_)
          have hl : lv_has ls 3 [(2, .int r14), (0, .ref x0), (1, .int x1)] := hl
          refine lv_aload_n hx hb (xb_d D_Checker_checkImports 15 rfl) rfl (lv_at hl 1 rfl) ?_
          have hk1 : xb_k h13 x0 = 5 := hEh13.k hk1
          refine xb_getP (C := R_Checker) (T := F_Checker) (N := 17) hx hb 4 0 hts fin_Checker hown hR hk1 (by decide) rfl (by decide) rfl (hts _ m_070795bc) (fun _ h9 => h9) (xb_d D_Checker_checkImports 16 rfl) ?_
          obtain ⟨b15, eb15, hw⟩ := hw
          refine xb_some eb15 ?_
          obtain ⟨hk16, hw⟩ := hw
          refine xb_getP (C := R_StackModule) (T := F_StackModule) (N := 19) hx hb 2 3 hts fin_StackModule hown hR hk16 (by decide) rfl (by decide) rfl (hts _ m_aabcadab) (fun _ h9 => h9) (xb_d D_Checker_checkImports 17 rfl) ?_
          obtain ⟨b17, eb17, hw⟩ := hw
          refine xb_some eb17 ?_
          refine lv_iload_n hx hb (xb_d D_Checker_checkImports 18 rfl) rfl (lv_at hl 2 rfl) ?_
          refine lv_iconst (v := 1) hx hb (xb_d D_Checker_checkImports 19 rfl) (by decide) ?_
          obtain ⟨hk18, hw⟩ := hw
          refine xb_call (D := D) (A := A) (σ := σ) (h := h13) (d := 2) (mc := 0) (ms := 0) (maxL := 3) (rest := []) (av := [.ref b17, .int x1, .int 1]) (fun T hT X => by obtain ⟨cb, r1, r2, r3⟩ := xb_recv (ci := 1) hR rfl hk18 (by decide); exact xt_invV X hx hown (hts _ m_068feb96) (hts _ m_8e233096) (hts _ m_27eed10c) (xt_sigOf (hts _ m_ff1c70ae)) nm_Row_at (by rw [hT]; exact r1) r2 r3 (g := F0 m 38 ls [.int 1, .int x1, .ref b17]) rfl (argsL := [.int x1, .int 1]) (rest := []) rfl rfl (by rw [hb]; exact (xb_d D_Checker_checkImports 20 rfl))) (ok_Row_at l hfl D A σ b17 x1 1 h13 _ hw) (hml.trans hl.1.symm) (by rw [hb]; exact (xb_d D_Checker_checkImports 20 rfl)) (Nat.le_of_ble_eq_true rfl) (Nat.le_of_ble_eq_true rfl) (Nat.le_of_ble_eq_true rfl) (show k + 0 ≤ MC by omega) (show n + 0 ≤ MS by omega) (xt_w1 hB.1 m_ff1c70ae) (xt_cdOf hB.1 m_ff1c70ae) (hts _ m_c1bef504) hB hR hS hA (fun vv h19 H locs hq hEh19 hR hS => ?_) (fun XX ax h19 H locs hq hEh19 hex hR hS => ?_)
          · obtain ⟨r20, rfl, hw⟩ := hq
            have hw := hw hEh19
            have hE := hE.tr hEh19
            refine W.eq (g2 := F0 m 41 ls [.int r20]) rfl ?_
            by_cases hc21 : r20 = 0
            · have hw := hw.1 hc21
              refine xt_numi hc21 ?_
              refine lv_tableIn (off := 27) (tgt := 68) hx hb (xb_d D_Checker_checkImports 21 rfl) (by decide +kernel) (by decide +kernel) (by decide +kernel) (by decide) ?_
              refine lv_aload_n hx hb (xb_d D_Checker_checkImports 22 rfl) rfl (lv_at hl 1 rfl) ?_
              refine lv_iload_n hx hb (xb_d D_Checker_checkImports 23 rfl) rfl (lv_at hl 0 rfl) ?_
              have hk1 : xb_k h19 x0 = 5 := hEh19.k hk1
              obtain ⟨c24, sc24, hlc24, hlsc24, hw⟩ := hw
              refine xb_call (D := D) (A := A) (σ := σ) (h := h19) (d := 3) (mc := c24) (ms := sc24) (maxL := 2) (rest := []) (av := [.ref x0, .int r14]) (fun T hT X => by obtain ⟨cb, r1, r2, r3⟩ := xb_recv (ci := 4) hR rfl hk1 (by decide); exact xt_invV X hx hown (hts _ m_635e771e) (hts _ m_b0a695c0) (hts _ m_1190460b) (xt_sigOf (hts _ m_dd5eb9b4)) nm_Checker_checkFunction (by rw [hT]; exact r1) r2 r3 (g := F0 m 70 ls [.int r14, .ref x0]) rfl (argsL := [.int r14]) (rest := []) rfl rfl (by rw [hb]; exact (xb_d D_Checker_checkImports 24 rfl))) (ok_Checker_checkFunction l hfl D A σ x0 r14 h19 c24 sc24 _ _ hw) (hml.trans hl.1.symm) (by rw [hb]; exact (xb_d D_Checker_checkImports 24 rfl)) (Nat.le_of_ble_eq_true rfl) (Nat.le_of_ble_eq_true rfl) (Nat.le_of_ble_eq_true rfl) (show k + c24 ≤ MC by omega) (show n + sc24 ≤ MS by omega) (xt_w1 hB.1 m_dd5eb9b4) (xt_cdOf hB.1 m_dd5eb9b4) (hts _ m_44748ce5) hB hR hS hA (fun vv h22 H locs hq hEh22 hR hS => ?_) (fun XX ax h22 H locs hq hEh22 hex hR hS => ?_)
              · obtain ⟨rfl, hw⟩ := hq
                have hw := hw hEh22
                have hE := hE.tr hEh22
                refine W.eq (g2 := F0 m 73 ls []) rfl ?_
                refine lv_goto (tgt := 112) hx hb (xb_d D_Checker_checkImports 25 rfl) rfl ?_
                exact am_Checker_checkImports_L112 l hfl D A σ MC MS h0 Qr Qt (w_Checker_checkImports_L2 Qr Qt n9) ih x0 x1 h22 (bc - c24) (bs - sc24) hw p e s m args below meth c hC H locs ls (k + c24) (n + sc24) hE (lv_sub hl [1, 2] rfl) hR hS (by omega) (by omega)
              · exact xb_pass hlocks (fun x hx9 => by rw [htab] at hx9; first | cases hx9 | (simp [tableOf] at hx9; rcases hx9 with rfl | rfl | rfl <;> decide)) (show (k + c24) ≤ MC by omega) (show (n + sc24) ≤ MS by omega) (hE.tr hEh22) hR hS hex hq
            have hw := hw.2
            by_cases hc25 : r20 = 1
            · have hw := hw.1 hc25
              refine xt_numi hc25 ?_
              refine lv_tableIn (off := 35) (tgt := 76) hx hb (xb_d D_Checker_checkImports 21 rfl) (by decide +kernel) (by decide +kernel) (by decide +kernel) (by decide) ?_
              refine lv_aload_n hx hb (xb_d D_Checker_checkImports 26 rfl) rfl (lv_at hl 1 rfl) ?_
              refine lv_aload_n hx hb (xb_d D_Checker_checkImports 27 rfl) rfl (lv_at hl 1 rfl) ?_
              have hk1 : xb_k h19 x0 = 5 := hEh19.k hk1
              refine xb_getP (C := R_Checker) (T := F_Checker) (N := 17) hx hb 4 0 hts fin_Checker hown hR hk1 (by decide) rfl (by decide) rfl (hts _ m_070795bc) (fun _ h9 => h9) (xb_d D_Checker_checkImports 28 rfl) ?_
              obtain ⟨b26, eb26, hw⟩ := hw
              refine xb_some eb26 ?_
              obtain ⟨hk27, hw⟩ := hw
              refine xb_getP (C := R_StackModule) (T := F_StackModule) (N := 19) hx hb 2 5 hts fin_StackModule hown hR hk27 (by decide) rfl (by decide) rfl (hts _ m_81589b2f) (fun _ h9 => h9) (xb_d D_Checker_checkImports 29 rfl) ?_
              obtain ⟨b28, eb28, hw⟩ := hw
              refine xb_some eb28 ?_
              refine lv_iload_n hx hb (xb_d D_Checker_checkImports 30 rfl) rfl (lv_at hl 0 rfl) ?_
              refine lv_ldc2 (v := 4294967295) hx hb hown (hts _ m_8009c90c) (xb_d D_Checker_checkImports 31 rfl) ?_
              obtain ⟨c31, sc31, hlc31, hlsc31, hw⟩ := hw
              refine xb_call (D := D) (A := A) (σ := σ) (h := h19) (d := 3) (mc := c31) (ms := sc31) (maxL := 10) (rest := []) (av := [.ref x0, .ref b28, .int r14, .long 4294967295]) (fun T hT X => by obtain ⟨cb, r1, r2, r3⟩ := xb_recv (ci := 4) hR rfl hk1 (by decide); exact xt_invV X hx hown (hts _ m_160564f4) (hts _ m_e4938329) (hts _ m_811dfb37) (xt_sigOf (hts _ m_9c84dd5e)) nm_Checker_checkLimits (by rw [hT]; exact r1) r2 r3 (g := F0 m 88 ls [.long 4294967295, .int r14, .ref b28, .ref x0]) rfl (argsL := [.ref b28, .int r14, .long 4294967295]) (rest := []) rfl rfl (by rw [hb]; exact (xb_d D_Checker_checkImports 32 rfl))) (ok_Checker_checkLimits l hfl D A σ x0 b28 r14 4294967295 h19 c31 sc31 _ _ hw) (hml.trans hl.1.symm) (by rw [hb]; exact (xb_d D_Checker_checkImports 32 rfl)) (Nat.le_of_ble_eq_true rfl) (Nat.le_of_ble_eq_true rfl) (Nat.le_of_ble_eq_true rfl) (show k + c31 ≤ MC by omega) (show n + sc31 ≤ MS by omega) (xt_w1 hB.1 m_9c84dd5e) (xt_cdOf hB.1 m_9c84dd5e) (hts _ m_44748ce5) hB hR hS hA (fun vv h29 H locs hq hEh29 hR hS => ?_) (fun XX ax h29 H locs hq hEh29 hex hR hS => ?_)
              · obtain ⟨rfl, hw⟩ := hq
                have hw := hw hEh29
                have hE := hE.tr hEh29
                refine W.eq (g2 := F0 m 91 ls []) rfl ?_
                refine lv_goto (tgt := 112) hx hb (xb_d D_Checker_checkImports 33 rfl) rfl ?_
                exact am_Checker_checkImports_L112 l hfl D A σ MC MS h0 Qr Qt (w_Checker_checkImports_L2 Qr Qt n9) ih x0 x1 h29 (bc - c31) (bs - sc31) hw p e s m args below meth c hC H locs ls (k + c31) (n + sc31) hE (lv_sub hl [1, 2] rfl) hR hS (by omega) (by omega)
              · exact xb_pass hlocks (fun x hx9 => by rw [htab] at hx9; first | cases hx9 | (simp [tableOf] at hx9; rcases hx9 with rfl | rfl | rfl <;> decide)) (show (k + c31) ≤ MC by omega) (show (n + sc31) ≤ MS by omega) (hE.tr hEh29) hR hS hex hq
            have hw := hw.2
            by_cases hc32 : r20 = 2
            · have hw := hw.1 hc32
              refine xt_numi hc32 ?_
              refine lv_tableIn (off := 53) (tgt := 94) hx hb (xb_d D_Checker_checkImports 21 rfl) (by decide +kernel) (by decide +kernel) (by decide +kernel) (by decide) ?_
              refine lv_aload_n hx hb (xb_d D_Checker_checkImports 34 rfl) rfl (lv_at hl 1 rfl) ?_
              refine lv_aload_n hx hb (xb_d D_Checker_checkImports 35 rfl) rfl (lv_at hl 1 rfl) ?_
              have hk1 : xb_k h19 x0 = 5 := hEh19.k hk1
              refine xb_getP (C := R_Checker) (T := F_Checker) (N := 17) hx hb 4 0 hts fin_Checker hown hR hk1 (by decide) rfl (by decide) rfl (hts _ m_070795bc) (fun _ h9 => h9) (xb_d D_Checker_checkImports 36 rfl) ?_
              obtain ⟨b33, eb33, hw⟩ := hw
              refine xb_some eb33 ?_
              obtain ⟨hk34, hw⟩ := hw
              refine xb_getP (C := R_StackModule) (T := F_StackModule) (N := 19) hx hb 2 6 hts fin_StackModule hown hR hk34 (by decide) rfl (by decide) rfl (hts _ m_f104cb1a) (fun _ h9 => h9) (xb_d D_Checker_checkImports 37 rfl) ?_
              obtain ⟨b35, eb35, hw⟩ := hw
              refine xb_some eb35 ?_
              refine lv_iload_n hx hb (xb_d D_Checker_checkImports 38 rfl) rfl (lv_at hl 0 rfl) ?_
              refine lv_ldc2 (v := 65536) hx hb hown (hts _ m_6ee0f551) (xb_d D_Checker_checkImports 39 rfl) ?_
              obtain ⟨c38, sc38, hlc38, hlsc38, hw⟩ := hw
              refine xb_call (D := D) (A := A) (σ := σ) (h := h19) (d := 3) (mc := c38) (ms := sc38) (maxL := 10) (rest := []) (av := [.ref x0, .ref b35, .int r14, .long 65536]) (fun T hT X => by obtain ⟨cb, r1, r2, r3⟩ := xb_recv (ci := 4) hR rfl hk1 (by decide); exact xt_invV X hx hown (hts _ m_160564f4) (hts _ m_e4938329) (hts _ m_811dfb37) (xt_sigOf (hts _ m_9c84dd5e)) nm_Checker_checkLimits (by rw [hT]; exact r1) r2 r3 (g := F0 m 106 ls [.long 65536, .int r14, .ref b35, .ref x0]) rfl (argsL := [.ref b35, .int r14, .long 65536]) (rest := []) rfl rfl (by rw [hb]; exact (xb_d D_Checker_checkImports 40 rfl))) (ok_Checker_checkLimits l hfl D A σ x0 b35 r14 65536 h19 c38 sc38 _ _ hw) (hml.trans hl.1.symm) (by rw [hb]; exact (xb_d D_Checker_checkImports 40 rfl)) (Nat.le_of_ble_eq_true rfl) (Nat.le_of_ble_eq_true rfl) (Nat.le_of_ble_eq_true rfl) (show k + c38 ≤ MC by omega) (show n + sc38 ≤ MS by omega) (xt_w1 hB.1 m_9c84dd5e) (xt_cdOf hB.1 m_9c84dd5e) (hts _ m_44748ce5) hB hR hS hA (fun vv h36 H locs hq hEh36 hR hS => ?_) (fun XX ax h36 H locs hq hEh36 hex hR hS => ?_)
              · obtain ⟨rfl, hw⟩ := hq
                have hw := hw hEh36
                have hE := hE.tr hEh36
                refine W.eq (g2 := F0 m 109 ls []) rfl ?_
                refine lv_goto (tgt := 112) hx hb (xb_d D_Checker_checkImports 41 rfl) rfl ?_
                exact am_Checker_checkImports_L112 l hfl D A σ MC MS h0 Qr Qt (w_Checker_checkImports_L2 Qr Qt n9) ih x0 x1 h36 (bc - c38) (bs - sc38) hw p e s m args below meth c hC H locs ls (k + c38) (n + sc38) hE (lv_sub hl [1, 2] rfl) hR hS (by omega) (by omega)
              · exact xb_pass hlocks (fun x hx9 => by rw [htab] at hx9; first | cases hx9 | (simp [tableOf] at hx9; rcases hx9 with rfl | rfl | rfl <;> decide)) (show (k + c38) ≤ MC by omega) (show (n + sc38) ≤ MS by omega) (hE.tr hEh36) hR hS hex hq
            have hw := hw.2
            have hw := hw hc21 hc25 hc32
            refine lv_tableOut (tgt := 112) hx hb (xb_d D_Checker_checkImports 21 rfl) (by have a0 := xb_nl (0) 0 (by decide) hc21; have a1 := xb_nl (1) 1 (by decide) hc25; have a2 := xb_nl (2) 2 (by decide) hc32; omega) (by decide) ?_
            exact am_Checker_checkImports_L112 l hfl D A σ MC MS h0 Qr Qt (w_Checker_checkImports_L2 Qr Qt n9) ih x0 x1 h19 bc bs hw p e s m args below meth c hC H locs ls k n hE (lv_sub hl [1, 2] rfl) hR hS (by omega) (by omega)
          · exact False.elim hq
        · exact False.elim hq
    · exact False.elim hq

set_option maxHeartbeats 4000000 in
set_option maxRecDepth 100000 in
theorem ok_Checker_checkImports (l : Launch) (hfl : l.flags = pinnedFlags ++ [noTraceFlag]) (D : va_G) (A : Nat → Prop) (σ : Nat) (x0 : Nat) (h : xb_H) (bc : Nat) (bs : Nat) (Qr : xb_H → Prop) (Qt : String → xb_H → Prop) (hw : w_Checker_checkImports x0 h bc bs Qr Qt) : xt_Met l y_Checker_checkImports [.code y_Checker_checkImports b_Checker_checkImports 3 none] (xb_rm 4 bc bs) (xb_Pc D A σ h [.ref x0]) (xb_Qc D A h (fun v h => v = none ∧ Qr h) Qt) bc bs A := by
  refine xb_ofAm (cc := b_Checker_checkImports) (by decide) (Nat.le_of_ble_eq_true rfl) ?_
  unfold w_Checker_checkImports at hw
  show xb_am l D A σ 4 bc bs h (fun v h => v = none ∧ Qr h) Qt y_Checker_checkImports.cls y_Checker_checkImports.name b_Checker_checkImports 3 ([] : List ExceptionTableEntry) none 0 [(0, .ref x0)] [] h bc bs
  obtain ⟨MC, hMC⟩ : ∃ x, x = bc := ⟨_, rfl⟩
  obtain ⟨MS, hMS⟩ : ∃ x, x = bs := ⟨_, rfl⟩
  rw [show xb_am l D A σ 4 bc bs = xb_am l D A σ 4 MC MS by rw [hMC, hMS]]
  obtain ⟨h0, hh0⟩ : ∃ x, x = h := ⟨_, rfl⟩
  rw [show xb_am l D A σ 4 MC MS h = xb_am l D A σ 4 MC MS h0 by rw [hh0]]
  intro p e s m args below meth c hC H locs ls k n hE hl hR hS hk hn
  obtain ⟨hx, hb, hown, hlocks, htab, hml, hr, hB, hA, hnm⟩ := id hC
  have hts := hB.1.1.at args
  refine lv_iconst (v := 0) hx hb (xb_d D_Checker_checkImports 0 rfl) (by decide) ?_
  refine lv_istore_n hx hb (xb_d D_Checker_checkImports 1 rfl) rfl hl (by decide) rfl (fun ls hl => ?_)
  have hl : lv_has ls 3 [(1, .int 0), (0, .ref x0)] := hl
  obtain ⟨n8, hw⟩ := hw
  exact am_Checker_checkImports_L2 l hfl D A σ MC MS h0 Qr Qt n8 x0 0 h bc bs hw p e s m args below meth c hC H locs ls k n hE (lv_sub hl [1, 0] rfl) hR hS (by omega) (by omega)

theorem m_3c20c1e8 : (.methodLink "StackHost$Checker" 267 y_Checker_die : Cond) ∈ xt_tbl := xt_in (xt_t6 (List.mem_of_getElem? (i := 11) (by decide +kernel))) (by decide +kernel)
theorem m_95b7140b : (.instanceMethod y_Checker_die : Cond) ∈ xt_tbl := xt_in (xt_t6 (List.mem_of_getElem? (i := 13) (by decide +kernel))) (by decide +kernel)
theorem m_ecec8718 : (.selects "StackHost$Checker" y_Checker_die y_Checker_die : Cond) ∈ xt_tbl := xt_in (xt_v4 (q := (⟨"StackHost$Checker", "die", "()V"⟩, 17)) (List.mem_of_getElem? (i := 7) (by decide +kernel))) (by decide +kernel)
theorem m_2825a1fb : (.code y_Checker_die b_Checker_die 1 none : Cond) ∈ xt_tbl := xt_in (xt_t6 (List.mem_of_getElem? (i := 14) (by decide +kernel))) (by decide +kernel)
theorem nm_Checker_die : xt_nm y_Checker_die 0 := ⟨by decide +kernel, by decide +kernel⟩
set_option maxRecDepth 100000 in
def T_Checker_checkLabels : List (Nat × Instr × Nat) := [(0, .aload_n 0, 1), (1, .getfield 196, 3), (4, .iconst 2, 1), (5, .iadd, 1), (6, .aload_n 0, 1), (7, .getfield 51, 3), (10, .aload_n 0, 1), (11, .getfield 196, 3), (14, .iconst 1, 1), (15, .iadd, 1), (16, .iaload, 1), (17, .iadd, 1), (18, .istore_n 1, 1), (19, .aload_n 0, 1), (20, .getfield 196, 3), (23, .iconst 2, 1), (24, .iadd, 1), (25, .istore_n 2, 1), (26, .iload_n 2, 1), (27, .iload_n 1, 1), (28, .if_icmp .gt 29, 3), (31, .aload_n 0, 1), (32, .aload_n 0, 1), (33, .getfield 51, 3), (36, .iload_n 2, 1), (37, .iaload, 1), (38, .i2l, 1), (39, .aload_n 0, 1), (40, .getfield 193, 3), (43, .invokestatic 125, 3), (46, .bipush 20, 2), (48, .invokevirtual 254, 3), (51, .iinc 2 1, 3), (54, .goto (-28), 3), (57, .aload_n 0, 1), (58, .getfield 25, 3), (61, .aload_n 0, 1), (62, .getfield 193, 3), (65, .iconst 1, 1), (66, .isub, 1), (67, .aload_n 0, 1), (68, .getfield 51, 3), (71, .iload_n 1, 1), (72, .iaload, 1), (73, .isub, 1), (74, .iaload, 1), (75, .istore_n 2, 1), (76, .aload_n 0, 1), (77, .getfield 196, 3), (80, .iconst 2, 1), (81, .iadd, 1), (82, .istore_n 3, 1), (83, .iload_n 3, 1), (84, .iload_n 1, 1), (85, .if_icmp .gt 34, 3), (88, .aload_n 0, 1), (89, .aload_n 0, 1), (90, .getfield 25, 3), (93, .aload_n 0, 1), (94, .iload_n 3, 1), (95, .invokevirtual 279, 3), (98, .iaload, 1), (99, .iload_n 2, 1), (100, .if_icmp .ne 7, 3), (103, .iconst 1, 1), (104, .goto 4, 3), (107, .iconst 0, 1), (108, .bipush 21, 2), (110, .invokevirtual 254, 3), (113, .iinc 3 1, 3), (116, .goto (-33), 3), (119, .aload_n 0, 1), (120, .bipush 127, 2), (122, .invokevirtual 251, 3), (125, .pop, 1), (126, .aload_n 0, 1), (127, .iload_n 2, 1), (128, .invokevirtual 251, 3), (131, .pop, 1), (132, .aload_n 0, 1), (133, .invokevirtual 267, 3), (136, .return_, 1)]
theorem D_Checker_checkLabels : ∀ q ∈ T_Checker_checkLabels, decode b_Checker_checkLabels q.1 = .ok (q.2.1, q.2.2) := by decide +kernel
def w_Checker_checkLabels_L108 (K83 : Nat → Int32 → Int32 → Int32 → xb_H → Nat → Nat → Prop) (Qr : xb_H → Prop) (Qt : String → xb_H → Prop) (x0 : Nat) (x1 : Int32) (x2 : Int32) (x3 : Int32) (y0 : Int32) (y1 : Nat) (h : xb_H) (bc : Nat) (bs : Nat) : Prop :=
    xb_k h y1 = 5 ∧ ∃ c4 sc4 : Nat, c4 ≤ bc ∧ sc4 ≤ bs ∧ w_Checker_require y1 y0 21 h c4 sc4 (fun (h2 : xb_H) => xb_ext h h2 → K83 x0 x1 x2 (x3 + 1) h2 (bc - c4) (bs - sc4)) Qt

def w_Checker_checkLabels_L83 (Qr : xb_H → Prop) (Qt : String → xb_H → Prop) : Nat → Nat → Int32 → Int32 → Int32 → xb_H → Nat → Nat → Prop
  | 0, _, _, _, _, _, _, _ => False
  | n9 + 1, x0, x1, x2, x3, h, bc, bs =>
    ((x1 < x3 → xb_k h x0 = 5 ∧ ∃ c5 sc5 : Nat, c5 ≤ bc ∧ sc5 ≤ bs ∧ w_Checker_take x0 127 h c5 sc5 (fun (r4 : Int32) (h3 : xb_H) => xb_ext h h3 → ∃ c8 sc8 : Nat, c8 ≤ (bc - c5) ∧ sc8 ≤ (bs - sc5) ∧ w_Checker_take x0 x2 h3 c8 sc8 (fun (r7 : Int32) (h6 : xb_H) => xb_ext h3 h6 → w_Checker_die x0 h6 (fun (h9 : xb_H) => xb_ext h6 h9 → Qr h9)) Qt) Qt) ∧ (¬ x1 < x3 → xb_k h x0 = 5 ∧ ∃ b12 : Nat, (xb_r h x0 12) = some b12 ∧ ∃ c15 sc15 : Nat, c15 ≤ bc ∧ sc15 ≤ bs ∧ w_Checker_checkLabel x0 x3 h c15 sc15 (fun (r14 : Int32) (h13 : xb_H) => xb_ext h h13 → xb_k h13 b12 = 102 ∧ vp_in r14 (xb_n h13 b12) ∧ ((¬ (xb_i h13 b12 (Int32.toNatClampNeg r14)) = x2 → w_Checker_checkLabels_L108 (w_Checker_checkLabels_L83 Qr Qt n9) Qr Qt x0 x1 x2 x3 0 x0 h13 (bc - c15) (bs - sc15)) ∧ ((xb_i h13 b12 (Int32.toNatClampNeg r14)) = x2 → w_Checker_checkLabels_L108 (w_Checker_checkLabels_L83 Qr Qt n9) Qr Qt x0 x1 x2 x3 1 x0 h13 (bc - c15) (bs - sc15)))) Qt))

def w_Checker_checkLabels_L26 (Qr : xb_H → Prop) (Qt : String → xb_H → Prop) : Nat → Nat → Int32 → Int32 → xb_H → Nat → Nat → Prop
  | 0, _, _, _, _, _, _ => False
  | n9 + 1, x0, x1, x2, h, bc, bs =>
    ((x1 < x2 → xb_k h x0 = 5 ∧ ∃ b3 : Nat, (xb_r h x0 12) = some b3 ∧ ∃ b4 : Nat, (xb_r h x0 2) = some b4 ∧ xb_k h b4 = 102 ∧ vp_in x1 (xb_n h b4) ∧ xb_k h b3 = 102 ∧ vp_in (((xb_i h x0 16) - 1) - (xb_i h b4 (Int32.toNatClampNeg x1))) (xb_n h b3) ∧ ∀ v9 : Int32, v9 = (xb_i h b3 (Int32.toNatClampNeg (((xb_i h x0 16) - 1) - (xb_i h b4 (Int32.toNatClampNeg x1))))) → ∀ v10 : Int32, v10 = ((xb_i h x0 9) + 2) → (∃ n8 : Nat, w_Checker_checkLabels_L83 Qr Qt n8 x0 x1 v9 v10 h bc bs)) ∧ (¬ x1 < x2 → xb_k h x0 = 5 ∧ ∃ b12 : Nat, (xb_r h x0 2) = some b12 ∧ xb_k h b12 = 102 ∧ vp_in x2 (xb_n h b12) ∧ w_Checker_isThere (Int32.toInt64 (xb_i h b12 (Int32.toNatClampNeg x2))) (xb_i h x0 16) h (fun (r16 : Int32) (h15 : xb_H) => xb_ext h h15 → ∃ c19 sc19 : Nat, c19 ≤ bc ∧ sc19 ≤ bs ∧ w_Checker_require x0 r16 20 h15 c19 sc19 (fun (h17 : xb_H) => xb_ext h15 h17 → w_Checker_checkLabels_L26 Qr Qt n9 x0 x1 (x2 + 1) h17 (bc - c19) (bs - sc19)) Qt)))

def w_Checker_checkLabels (x0 : Nat) (h : xb_H) (bc : Nat) (bs : Nat) (Qr : xb_H → Prop) (Qt : String → xb_H → Prop) : Prop :=
    xb_k h x0 = 5 ∧ ∃ b2 : Nat, (xb_r h x0 2) = some b2 ∧ xb_k h b2 = 102 ∧ vp_in ((xb_i h x0 9) + 1) (xb_n h b2) ∧ ∀ v5 : Int32, v5 = (((xb_i h x0 9) + 2) + (xb_i h b2 (Int32.toNatClampNeg ((xb_i h x0 9) + 1)))) → ∀ v6 : Int32, v6 = ((xb_i h x0 9) + 2) → (∃ n8 : Nat, w_Checker_checkLabels_L26 Qr Qt n8 x0 v5 v6 h bc bs)

set_option maxHeartbeats 4000000 in
set_option maxRecDepth 100000 in
theorem am_Checker_checkLabels_L108 (l : Launch) (hfl : l.flags = pinnedFlags ++ [noTraceFlag]) (D : va_G) (A : Nat → Prop) (σ MC MS : Nat) (h0 : xb_H) (Qr : xb_H → Prop) (Qt : String → xb_H → Prop) (K83 : Nat → Int32 → Int32 → Int32 → xb_H → Nat → Nat → Prop) (hK83 : ∀ (x0 : Nat) (x1 : Int32) (x2 : Int32) (x3 : Int32) (h : xb_H) (bc : Nat) (bs : Nat), K83 x0 x1 x2 x3 h bc bs → xb_am l D A σ 4 MC MS h0 (fun v h => v = none ∧ Qr h) Qt y_Checker_checkLabels.cls y_Checker_checkLabels.name b_Checker_checkLabels 4 ([] : List ExceptionTableEntry) none 83 [(0, .ref x0), (1, .int x1), (2, .int x2), (3, .int x3)] [] h bc bs) (x0 : Nat) (x1 : Int32) (x2 : Int32) (x3 : Int32) (y0 : Int32) (y1 : Nat) (h : xb_H) (bc : Nat) (bs : Nat) (hw : w_Checker_checkLabels_L108 K83 Qr Qt x0 x1 x2 x3 y0 y1 h bc bs) : xb_am l D A σ 4 MC MS h0 (fun v h => v = none ∧ Qr h) Qt y_Checker_checkLabels.cls y_Checker_checkLabels.name b_Checker_checkLabels 4 ([] : List ExceptionTableEntry) none 108 [(0, .ref x0), (1, .int x1), (2, .int x2), (3, .int x3)] [.int y0, .ref y1] h bc bs := by
  unfold w_Checker_checkLabels_L108 at hw
  intro p e s m args below meth c hC H locs ls k n hE hl hR hS hk hn
  obtain ⟨hx, hb, hown, hlocks, htab, hml, hr, hB, hA, hnm⟩ := id hC
  have hts := hB.1.1.at args
  refine lv_bipush (v := 21) hx hb (xb_d D_Checker_checkLabels 67 rfl) (by decide) ?_
  obtain ⟨hk1, hw⟩ := hw
  obtain ⟨c4, sc4, hlc4, hlsc4, hw⟩ := hw
  refine xb_call (D := D) (A := A) (σ := σ) (h := h) (d := 3) (mc := c4) (ms := sc4) (maxL := 3) (rest := []) (av := [.ref y1, .int y0, .int 21]) (fun T hT X => by obtain ⟨cb, r1, r2, r3⟩ := xb_recv (ci := 4) hR rfl hk1 (by decide); exact xt_invV X hx hown (hts _ m_0a242445) (hts _ m_a99c45f7) (hts _ m_978d7491) (xt_sigOf (hts _ m_01f2fc97)) nm_Checker_require (by rw [hT]; exact r1) r2 r3 (g := F0 m 110 ls [.int 21, .int y0, .ref y1]) rfl (argsL := [.int y0, .int 21]) (rest := []) rfl rfl (by rw [hb]; exact (xb_d D_Checker_checkLabels 68 rfl))) (ok_Checker_require l hfl D A σ y1 y0 21 h c4 sc4 _ _ hw) (hml.trans hl.1.symm) (by rw [hb]; exact (xb_d D_Checker_checkLabels 68 rfl)) (Nat.le_of_ble_eq_true rfl) (Nat.le_of_ble_eq_true rfl) (Nat.le_of_ble_eq_true rfl) (show k + c4 ≤ MC by omega) (show n + sc4 ≤ MS by omega) (xt_w1 hB.1 m_01f2fc97) (xt_cdOf hB.1 m_01f2fc97) (hts _ m_44748ce5) hB hR hS hA (fun vv h2 H locs hq hEh2 hR hS => ?_) (fun XX ax h2 H locs hq hEh2 hex hR hS => ?_)
  · obtain ⟨rfl, hw⟩ := hq
    have hw := hw hEh2
    have hE := hE.tr hEh2
    refine W.eq (g2 := F0 m 113 ls []) rfl ?_
    refine lv_iinc (v := (x3 + 1)) (k := 3) hx hb (xb_d D_Checker_checkLabels 69 rfl) hl rfl (by first | rfl | decide) (by decide) rfl (fun ls hl => ?_)
    have hl : lv_has ls 4 [(3, .int (x3 + 1)), (0, .ref x0), (1, .int x1), (2, .int x2)] := hl
    refine lv_goto (tgt := 83) hx hb (xb_d D_Checker_checkLabels 70 rfl) rfl ?_
    exact hK83 x0 x1 x2 (x3 + 1) h2 (bc - c4) (bs - sc4) hw p e s m args below meth c hC H locs ls (k + c4) (n + sc4) hE (lv_sub hl [1, 2, 3, 0] rfl) hR hS (by omega) (by omega)
  · exact xb_pass hlocks (fun x hx9 => by rw [htab] at hx9; first | cases hx9 | (simp [tableOf] at hx9; rcases hx9 with rfl | rfl | rfl <;> decide)) (show (k + c4) ≤ MC by omega) (show (n + sc4) ≤ MS by omega) (hE.tr hEh2) hR hS hex hq

set_option maxHeartbeats 4000000 in
set_option maxRecDepth 100000 in
theorem am_Checker_checkLabels_L83 (l : Launch) (hfl : l.flags = pinnedFlags ++ [noTraceFlag]) (D : va_G) (A : Nat → Prop) (σ MC MS : Nat) (h0 : xb_H) (Qr : xb_H → Prop) (Qt : String → xb_H → Prop) (n9 : Nat) : ∀ (x0 : Nat) (x1 : Int32) (x2 : Int32) (x3 : Int32) (h : xb_H) (bc : Nat) (bs : Nat), w_Checker_checkLabels_L83 Qr Qt n9 x0 x1 x2 x3 h bc bs → xb_am l D A σ 4 MC MS h0 (fun v h => v = none ∧ Qr h) Qt y_Checker_checkLabels.cls y_Checker_checkLabels.name b_Checker_checkLabels 4 ([] : List ExceptionTableEntry) none 83 [(0, .ref x0), (1, .int x1), (2, .int x2), (3, .int x3)] [] h bc bs := by
  induction n9 with
  | zero => intro x0 x1 x2 x3 h bc bs hw; exact False.elim hw
  | succ n9 ih =>
    intro x0 x1 x2 x3 h bc bs hw
    unfold w_Checker_checkLabels_L83 at hw
    intro p e s m args below meth c hC H locs ls k n hE hl hR hS hk hn
    obtain ⟨hx, hb, hown, hlocks, htab, hml, hr, hB, hA, hnm⟩ := id hC
    have hts := hB.1.1.at args
    refine lv_iload_n hx hb (xb_d D_Checker_checkLabels 52 rfl) rfl (lv_at hl 3 rfl) ?_
    refine lv_iload_n hx hb (xb_d D_Checker_checkLabels 53 rfl) rfl (lv_at hl 1 rfl) ?_
    refine lv_icmp_gt (tgt := 119) hx hb (xb_d D_Checker_checkLabels 54 rfl) rfl (fun hc1 => ?_) (fun hc1 => ?_)
    · have hw := hw.1 hc1
      refine lv_aload_n hx hb (xb_d D_Checker_checkLabels 71 rfl) rfl (lv_at hl 0 rfl) ?_
      refine lv_bipush (v := 127) hx hb (xb_d D_Checker_checkLabels 72 rfl) (by decide) ?_
      obtain ⟨hk2, hw⟩ := hw
      obtain ⟨c5, sc5, hlc5, hlsc5, hw⟩ := hw
      refine xb_call (D := D) (A := A) (σ := σ) (h := h) (d := 3) (mc := c5) (ms := sc5) (maxL := 3) (rest := []) (av := [.ref x0, .int 127]) (fun T hT X => by obtain ⟨cb, r1, r2, r3⟩ := xb_recv (ci := 4) hR rfl hk2 (by decide); exact xt_invV X hx hown (hts _ m_0b33e20f) (hts _ m_338dda25) (hts _ m_d7dc08f9) (xt_sigOf (hts _ m_b71cce2b)) nm_Checker_take (by rw [hT]; exact r1) r2 r3 (g := F0 m 122 ls [.int 127, .ref x0]) rfl (argsL := [.int 127]) (rest := []) rfl rfl (by rw [hb]; exact (xb_d D_Checker_checkLabels 73 rfl))) (ok_Checker_take l hfl D A σ x0 127 h c5 sc5 _ _ hw) (hml.trans hl.1.symm) (by rw [hb]; exact (xb_d D_Checker_checkLabels 73 rfl)) (Nat.le_of_ble_eq_true rfl) (Nat.le_of_ble_eq_true rfl) (Nat.le_of_ble_eq_true rfl) (show k + c5 ≤ MC by omega) (show n + sc5 ≤ MS by omega) (xt_w1 hB.1 m_b71cce2b) (xt_cdOf hB.1 m_b71cce2b) (hts _ m_44748ce5) hB hR hS hA (fun vv h3 H locs hq hEh3 hR hS => ?_) (fun XX ax h3 H locs hq hEh3 hex hR hS => ?_)
      · obtain ⟨r4, rfl, hw⟩ := hq
        have hw := hw hEh3
        have hE := hE.tr hEh3
        refine W.eq (g2 := F0 m 125 ls [.int r4]) rfl ?_
        refine lv_pop hx hb (xb_d D_Checker_checkLabels 74 rfl) rfl ?_
        refine lv_aload_n hx hb (xb_d D_Checker_checkLabels 75 rfl) rfl (lv_at hl 0 rfl) ?_
        refine lv_iload_n hx hb (xb_d D_Checker_checkLabels 76 rfl) rfl (lv_at hl 2 rfl) ?_
        have hk2 : xb_k h3 x0 = 5 := hEh3.k hk2
        obtain ⟨c8, sc8, hlc8, hlsc8, hw⟩ := hw
        refine xb_call (D := D) (A := A) (σ := σ) (h := h3) (d := 3) (mc := c8) (ms := sc8) (maxL := 3) (rest := []) (av := [.ref x0, .int x2]) (fun T hT X => by obtain ⟨cb, r1, r2, r3⟩ := xb_recv (ci := 4) hR rfl hk2 (by decide); exact xt_invV X hx hown (hts _ m_0b33e20f) (hts _ m_338dda25) (hts _ m_d7dc08f9) (xt_sigOf (hts _ m_b71cce2b)) nm_Checker_take (by rw [hT]; exact r1) r2 r3 (g := F0 m 128 ls [.int x2, .ref x0]) rfl (argsL := [.int x2]) (rest := []) rfl rfl (by rw [hb]; exact (xb_d D_Checker_checkLabels 77 rfl))) (ok_Checker_take l hfl D A σ x0 x2 h3 c8 sc8 _ _ hw) (hml.trans hl.1.symm) (by rw [hb]; exact (xb_d D_Checker_checkLabels 77 rfl)) (Nat.le_of_ble_eq_true rfl) (Nat.le_of_ble_eq_true rfl) (Nat.le_of_ble_eq_true rfl) (show (k + c5) + c8 ≤ MC by omega) (show (n + sc5) + sc8 ≤ MS by omega) (xt_w1 hB.1 m_b71cce2b) (xt_cdOf hB.1 m_b71cce2b) (hts _ m_44748ce5) hB hR hS hA (fun vv h6 H locs hq hEh6 hR hS => ?_) (fun XX ax h6 H locs hq hEh6 hex hR hS => ?_)
        · obtain ⟨r7, rfl, hw⟩ := hq
          have hw := hw hEh6
          have hE := hE.tr hEh6
          refine W.eq (g2 := F0 m 131 ls [.int r7]) rfl ?_
          refine lv_pop hx hb (xb_d D_Checker_checkLabels 78 rfl) rfl ?_
          refine lv_aload_n hx hb (xb_d D_Checker_checkLabels 79 rfl) rfl (lv_at hl 0 rfl) ?_
          have hk2 : xb_k h6 x0 = 5 := hEh6.k hk2
          refine xb_call (D := D) (A := A) (σ := σ) (h := h6) (d := 2) (mc := 0) (ms := 0) (maxL := 1) (rest := []) (av := [.ref x0]) (fun T hT X => by obtain ⟨cb, r1, r2, r3⟩ := xb_recv (ci := 4) hR rfl hk2 (by decide); exact xt_invV X hx hown (hts _ m_3c20c1e8) (hts _ m_95b7140b) (hts _ m_ecec8718) (xt_sigOf (hts _ m_2825a1fb)) nm_Checker_die (by rw [hT]; exact r1) r2 r3 (g := F0 m 133 ls [.ref x0]) rfl (argsL := []) (rest := []) rfl rfl (by rw [hb]; exact (xb_d D_Checker_checkLabels 80 rfl))) (ok_Checker_die l hfl D A σ x0 h6 _ hw) (hml.trans hl.1.symm) (by rw [hb]; exact (xb_d D_Checker_checkLabels 80 rfl)) (Nat.le_of_ble_eq_true rfl) (Nat.le_of_ble_eq_true rfl) (Nat.le_of_ble_eq_true rfl) (show ((k + c5) + c8) + 0 ≤ MC by omega) (show ((n + sc5) + sc8) + 0 ≤ MS by omega) (xt_w1 hB.1 m_2825a1fb) (xt_cdOf hB.1 m_2825a1fb) (hts _ m_44748ce5) hB hR hS hA (fun vv h9 H locs hq hEh9 hR hS => ?_) (fun XX ax h9 H locs hq hEh9 hex hR hS => ?_)
          · obtain ⟨rfl, hw⟩ := hq
            have hw := hw hEh9
            have hE := hE.tr hEh9
            refine W.eq (g2 := F0 m 136 ls []) rfl ?_
            exact xb_vret hx hb hr hlocks (show ((k + c5) + c8) ≤ MC by omega) (show ((n + sc5) + sc8) ≤ MS by omega) hE hR hS (xb_d D_Checker_checkLabels 81 rfl) hw
          · exact False.elim hq
        · exact xb_pass hlocks (fun x hx9 => by rw [htab] at hx9; first | cases hx9 | (simp [tableOf] at hx9; rcases hx9 with rfl | rfl | rfl <;> decide)) (show ((k + c5) + c8) ≤ MC by omega) (show ((n + sc5) + sc8) ≤ MS by omega) (hE.tr hEh6) hR hS hex hq
      · exact xb_pass hlocks (fun x hx9 => by rw [htab] at hx9; first | cases hx9 | (simp [tableOf] at hx9; rcases hx9 with rfl | rfl | rfl <;> decide)) (show (k + c5) ≤ MC by omega) (show (n + sc5) ≤ MS by omega) (hE.tr hEh3) hR hS hex hq
    · have hw := hw.2 hc1
      refine lv_aload_n hx hb (xb_d D_Checker_checkLabels 55 rfl) rfl (lv_at hl 0 rfl) ?_
      refine lv_aload_n hx hb (xb_d D_Checker_checkLabels 56 rfl) rfl (lv_at hl 0 rfl) ?_
      obtain ⟨hk11, hw⟩ := hw
      refine xb_getP (C := R_Checker) (T := F_Checker) (N := 17) hx hb 4 12 hts fin_Checker hown hR hk11 (by decide) rfl (by decide) rfl (hts _ m_8a464e71) (fun _ h9 => h9) (xb_d D_Checker_checkLabels 57 rfl) ?_
      obtain ⟨b12, eb12, hw⟩ := hw
      refine xb_some eb12 ?_
      refine lv_aload_n hx hb (xb_d D_Checker_checkLabels 58 rfl) rfl (lv_at hl 0 rfl) ?_
      refine lv_iload_n hx hb (xb_d D_Checker_checkLabels 59 rfl) rfl (lv_at hl 3 rfl) ?_
      obtain ⟨c15, sc15, hlc15, hlsc15, hw⟩ := hw
      refine xb_call (D := D) (A := A) (σ := σ) (h := h) (d := 3) (mc := c15) (ms := sc15) (maxL := 3) (rest := [.ref b12, .ref x0]) (av := [.ref x0, .int x3]) (fun T hT X => by obtain ⟨cb, r1, r2, r3⟩ := xb_recv (ci := 4) hR rfl hk11 (by decide); exact xt_invV X hx hown (hts _ m_baf0cde0) (hts _ m_df7367f5) (hts _ m_b8e4b77a) (xt_sigOf (hts _ m_ae5b25e9)) nm_Checker_checkLabel (by rw [hT]; exact r1) r2 r3 (g := F0 m 95 ls [.int x3, .ref x0, .ref b12, .ref x0]) rfl (argsL := [.int x3]) (rest := [.ref b12, .ref x0]) rfl rfl (by rw [hb]; exact (xb_d D_Checker_checkLabels 60 rfl))) (ok_Checker_checkLabel l hfl D A σ x0 x3 h c15 sc15 _ _ hw) (hml.trans hl.1.symm) (by rw [hb]; exact (xb_d D_Checker_checkLabels 60 rfl)) (Nat.le_of_ble_eq_true rfl) (Nat.le_of_ble_eq_true rfl) (Nat.le_of_ble_eq_true rfl) (show k + c15 ≤ MC by omega) (show n + sc15 ≤ MS by omega) (xt_w1 hB.1 m_ae5b25e9) (xt_cdOf hB.1 m_ae5b25e9) (hts _ m_44748ce5) hB hR hS hA (fun vv h13 H locs hq hEh13 hR hS => ?_) (fun XX ax h13 H locs hq hEh13 hex hR hS => ?_)
      · obtain ⟨r14, rfl, hw⟩ := hq
        have hw := hw hEh13
        have hE := hE.tr hEh13
        refine W.eq (g2 := F0 m 98 ls [.int r14, .ref b12, .ref x0]) rfl ?_
        obtain ⟨hk17, hw⟩ := hw
        obtain ⟨hi16, hw⟩ := hw
        refine xb_iald hx hb hR hk17 hi16 (xb_d D_Checker_checkLabels 61 rfl) ?_
        refine lv_iload_n hx hb (xb_d D_Checker_checkLabels 62 rfl) rfl (lv_at hl 2 rfl) ?_
        refine lv_icmp_ne (tgt := 107) hx hb (xb_d D_Checker_checkLabels 63 rfl) rfl (fun hc18 => ?_) (fun hc18 => ?_)
        · have hw := hw.1 hc18
          refine lv_iconst (v := 0) hx hb (xb_d D_Checker_checkLabels 66 rfl) (by decide) ?_
          exact am_Checker_checkLabels_L108 l hfl D A σ MC MS h0 Qr Qt (w_Checker_checkLabels_L83 Qr Qt n9) ih x0 x1 x2 x3 0 x0 h13 (bc - c15) (bs - sc15) hw p e s m args below meth c hC H locs ls (k + c15) (n + sc15) hE (lv_sub hl [0, 1, 2, 3] rfl) hR hS (by omega) (by omega)
        · have hw := hw.2 hc18
          refine lv_iconst (v := 1) hx hb (xb_d D_Checker_checkLabels 64 rfl) (by decide) ?_
          refine lv_goto (tgt := 108) hx hb (xb_d D_Checker_checkLabels 65 rfl) rfl ?_
          exact am_Checker_checkLabels_L108 l hfl D A σ MC MS h0 Qr Qt (w_Checker_checkLabels_L83 Qr Qt n9) ih x0 x1 x2 x3 1 x0 h13 (bc - c15) (bs - sc15) hw p e s m args below meth c hC H locs ls (k + c15) (n + sc15) hE (lv_sub hl [0, 1, 2, 3] rfl) hR hS (by omega) (by omega)
      · exact xb_pass hlocks (fun x hx9 => by rw [htab] at hx9; first | cases hx9 | (simp [tableOf] at hx9; rcases hx9 with rfl | rfl | rfl <;> decide)) (show (k + c15) ≤ MC by omega) (show (n + sc15) ≤ MS by omega) (hE.tr hEh13) hR hS hex hq

set_option maxHeartbeats 4000000 in
set_option maxRecDepth 100000 in
theorem am_Checker_checkLabels_L26 (l : Launch) (hfl : l.flags = pinnedFlags ++ [noTraceFlag]) (D : va_G) (A : Nat → Prop) (σ MC MS : Nat) (h0 : xb_H) (Qr : xb_H → Prop) (Qt : String → xb_H → Prop) (n9 : Nat) : ∀ (x0 : Nat) (x1 : Int32) (x2 : Int32) (h : xb_H) (bc : Nat) (bs : Nat), w_Checker_checkLabels_L26 Qr Qt n9 x0 x1 x2 h bc bs → xb_am l D A σ 4 MC MS h0 (fun v h => v = none ∧ Qr h) Qt y_Checker_checkLabels.cls y_Checker_checkLabels.name b_Checker_checkLabels 4 ([] : List ExceptionTableEntry) none 26 [(0, .ref x0), (1, .int x1), (2, .int x2)] [] h bc bs := by
  induction n9 with
  | zero => intro x0 x1 x2 h bc bs hw; exact False.elim hw
  | succ n9 ih =>
    intro x0 x1 x2 h bc bs hw
    unfold w_Checker_checkLabels_L26 at hw
    intro p e s m args below meth c hC H locs ls k n hE hl hR hS hk hn
    obtain ⟨hx, hb, hown, hlocks, htab, hml, hr, hB, hA, hnm⟩ := id hC
    have hts := hB.1.1.at args
    refine lv_iload_n hx hb (xb_d D_Checker_checkLabels 18 rfl) rfl (lv_at hl 2 rfl) ?_
    refine lv_iload_n hx hb (xb_d D_Checker_checkLabels 19 rfl) rfl (lv_at hl 1 rfl) ?_
    refine lv_icmp_gt (tgt := 57) hx hb (xb_d D_Checker_checkLabels 20 rfl) rfl (fun hc1 => ?_) (fun hc1 => ?_)
    · have hw := hw.1 hc1
      refine lv_aload_n hx hb (xb_d D_Checker_checkLabels 34 rfl) rfl (lv_at hl 0 rfl) ?_
      obtain ⟨hk2, hw⟩ := hw
      refine xb_getP (C := R_Checker) (T := F_Checker) (N := 17) hx hb 4 12 hts fin_Checker hown hR hk2 (by decide) rfl (by decide) rfl (hts _ m_8a464e71) (fun _ h9 => h9) (xb_d D_Checker_checkLabels 35 rfl) ?_
      obtain ⟨b3, eb3, hw⟩ := hw
      refine xb_some eb3 ?_
      refine lv_aload_n hx hb (xb_d D_Checker_checkLabels 36 rfl) rfl (lv_at hl 0 rfl) ?_
      refine xb_getI (C := R_Checker) (T := F_Checker) (N := 17) hx hb 4 16 hts fin_Checker hown hR hk2 (by decide) rfl (by decide) rfl (hts _ m_47f80c41) (fun _ h9 => h9) (xb_d D_Checker_checkLabels 37 rfl) ?_
      refine lv_iconst (v := 1) hx hb (xb_d D_Checker_checkLabels 38 rfl) (by decide) ?_
      refine lv_isub hx hb (xb_d D_Checker_checkLabels 39 rfl) ?_
      refine lv_aload_n hx hb (xb_d D_Checker_checkLabels 40 rfl) rfl (lv_at hl 0 rfl) ?_
      refine xb_getP (C := R_Checker) (T := F_Checker) (N := 17) hx hb 4 2 hts fin_Checker hown hR hk2 (by decide) rfl (by decide) rfl (hts _ m_b5ef1148) (fun _ h9 => h9) (xb_d D_Checker_checkLabels 41 rfl) ?_
      obtain ⟨b4, eb4, hw⟩ := hw
      refine xb_some eb4 ?_
      refine lv_iload_n hx hb (xb_d D_Checker_checkLabels 42 rfl) rfl (lv_at hl 1 rfl) ?_
      obtain ⟨hk6, hw⟩ := hw
      obtain ⟨hi5, hw⟩ := hw
      refine xb_iald hx hb hR hk6 hi5 (xb_d D_Checker_checkLabels 43 rfl) ?_
      refine lv_isub hx hb (xb_d D_Checker_checkLabels 44 rfl) ?_
      obtain ⟨hk8, hw⟩ := hw
      obtain ⟨hi7, hw⟩ := hw
      refine xb_iald hx hb hR hk8 hi7 (xb_d D_Checker_checkLabels 45 rfl) ?_
      obtain ⟨v9, ev9⟩ : ∃ x : Int32, x = (xb_i h b3 (Int32.toNatClampNeg (((xb_i h x0 16) - 1) - (xb_i h b4 (Int32.toNatClampNeg x1))))) := ⟨_, rfl⟩
      have hw := hw v9 ev9
      refine xt_numi (y := v9) ev9.symm ?_
      refine lv_istore_n hx hb (xb_d D_Checker_checkLabels 46 rfl) rfl hl (by decide) rfl (fun ls hl => ?_)
      have hl : lv_has ls 4 [(2, .int v9), (0, .ref x0), (1, .int x1)] := hl
      refine lv_aload_n hx hb (xb_d D_Checker_checkLabels 47 rfl) rfl (lv_at hl 1 rfl) ?_
      refine xb_getI (C := R_Checker) (T := F_Checker) (N := 17) hx hb 4 9 hts fin_Checker hown hR hk2 (by decide) rfl (by decide) rfl (hts _ m_28193d38) (fun _ h9 => h9) (xb_d D_Checker_checkLabels 48 rfl) ?_
      refine lv_iconst (v := 2) hx hb (xb_d D_Checker_checkLabels 49 rfl) (by decide) ?_
      refine lv_iadd hx hb (xb_d D_Checker_checkLabels 50 rfl) ?_
      obtain ⟨v10, ev10⟩ : ∃ x : Int32, x = ((xb_i h x0 9) + 2) := ⟨_, rfl⟩
      have hw := hw v10 ev10
      refine xt_numi (y := v10) ev10.symm ?_
      refine lv_istore_n hx hb (xb_d D_Checker_checkLabels 51 rfl) rfl hl (by decide) rfl (fun ls hl => ?_)
      have hl : lv_has ls 4 [(3, .int v10), (2, .int v9), (0, .ref x0), (1, .int x1)] := hl
      obtain ⟨n8, hw⟩ := hw
      exact am_Checker_checkLabels_L83 l hfl D A σ MC MS h0 Qr Qt n8 x0 x1 v9 v10 h bc bs hw p e s m args below meth c hC H locs ls k n hE (lv_sub hl [2, 3, 1, 0] rfl) hR hS (by omega) (by omega)
    · have hw := hw.2 hc1
      refine lv_aload_n hx hb (xb_d D_Checker_checkLabels 21 rfl) rfl (lv_at hl 0 rfl) ?_
      refine lv_aload_n hx hb (xb_d D_Checker_checkLabels 22 rfl) rfl (lv_at hl 0 rfl) ?_
      obtain ⟨hk11, hw⟩ := hw
      refine xb_getP (C := R_Checker) (T := F_Checker) (N := 17) hx hb 4 2 hts fin_Checker hown hR hk11 (by decide) rfl (by decide) rfl (hts _ m_b5ef1148) (fun _ h9 => h9) (xb_d D_Checker_checkLabels 23 rfl) ?_
      obtain ⟨b12, eb12, hw⟩ := hw
      refine xb_some eb12 ?_
      refine lv_iload_n hx hb (xb_d D_Checker_checkLabels 24 rfl) rfl (lv_at hl 2 rfl) ?_
      obtain ⟨hk14, hw⟩ := hw
      obtain ⟨hi13, hw⟩ := hw
      refine xb_iald hx hb hR hk14 hi13 (xb_d D_Checker_checkLabels 25 rfl) ?_
      refine lv_i2l hx hb (xb_d D_Checker_checkLabels 26 rfl) rfl ?_
      refine lv_aload_n hx hb (xb_d D_Checker_checkLabels 27 rfl) rfl (lv_at hl 0 rfl) ?_
      refine xb_getI (C := R_Checker) (T := F_Checker) (N := 17) hx hb 4 16 hts fin_Checker hown hR hk11 (by decide) rfl (by decide) rfl (hts _ m_47f80c41) (fun _ h9 => h9) (xb_d D_Checker_checkLabels 28 rfl) ?_
      refine xb_call (D := D) (A := A) (σ := σ) (h := h) (d := 2) (mc := 0) (ms := 0) (maxL := 3) (rest := [.ref x0]) (av := [.long (Int32.toInt64 (xb_i h b12 (Int32.toNatClampNeg x2))), .int (xb_i h x0 16)]) (fun T hT X => xt_invS X hx hown (hts _ m_fe08b245) (hts _ m_9ad1e0af) (hts _ m_44748ce5) (xt_sgS (hts _ m_2237aee6)).1 (xt_sgS (hts _ m_2237aee6)).2 nm_Checker_isThere (g := F0 m 43 ls [.int (xb_i h x0 16), .long (Int32.toInt64 (xb_i h b12 (Int32.toNatClampNeg x2))), .ref x0]) rfl (argsL := [.long (Int32.toInt64 (xb_i h b12 (Int32.toNatClampNeg x2))), .int (xb_i h x0 16)]) (rest := [.ref x0]) rfl rfl (by rw [hb]; exact (xb_d D_Checker_checkLabels 29 rfl))) (ok_Checker_isThere l hfl D A σ (Int32.toInt64 (xb_i h b12 (Int32.toNatClampNeg x2))) (xb_i h x0 16) h _ hw) (hml.trans hl.1.symm) (by rw [hb]; exact (xb_d D_Checker_checkLabels 29 rfl)) (Nat.le_of_ble_eq_true rfl) (Nat.le_of_ble_eq_true rfl) (Nat.le_of_ble_eq_true rfl) (show k + 0 ≤ MC by omega) (show n + 0 ≤ MS by omega) (xt_w1 hB.1 m_2237aee6) (xt_cdOf hB.1 m_2237aee6) (hts _ m_44748ce5) hB hR hS hA (fun vv h15 H locs hq hEh15 hR hS => ?_) (fun XX ax h15 H locs hq hEh15 hex hR hS => ?_)
      · obtain ⟨r16, rfl, hw⟩ := hq
        have hw := hw hEh15
        have hE := hE.tr hEh15
        refine W.eq (g2 := F0 m 46 ls [.int r16, .ref x0]) rfl ?_
        refine lv_bipush (v := 20) hx hb (xb_d D_Checker_checkLabels 30 rfl) (by decide) ?_
        have hk11 : xb_k h15 x0 = 5 := hEh15.k hk11
        obtain ⟨c19, sc19, hlc19, hlsc19, hw⟩ := hw
        refine xb_call (D := D) (A := A) (σ := σ) (h := h15) (d := 3) (mc := c19) (ms := sc19) (maxL := 3) (rest := []) (av := [.ref x0, .int r16, .int 20]) (fun T hT X => by obtain ⟨cb, r1, r2, r3⟩ := xb_recv (ci := 4) hR rfl hk11 (by decide); exact xt_invV X hx hown (hts _ m_0a242445) (hts _ m_a99c45f7) (hts _ m_978d7491) (xt_sigOf (hts _ m_01f2fc97)) nm_Checker_require (by rw [hT]; exact r1) r2 r3 (g := F0 m 48 ls [.int 20, .int r16, .ref x0]) rfl (argsL := [.int r16, .int 20]) (rest := []) rfl rfl (by rw [hb]; exact (xb_d D_Checker_checkLabels 31 rfl))) (ok_Checker_require l hfl D A σ x0 r16 20 h15 c19 sc19 _ _ hw) (hml.trans hl.1.symm) (by rw [hb]; exact (xb_d D_Checker_checkLabels 31 rfl)) (Nat.le_of_ble_eq_true rfl) (Nat.le_of_ble_eq_true rfl) (Nat.le_of_ble_eq_true rfl) (show k + c19 ≤ MC by omega) (show n + sc19 ≤ MS by omega) (xt_w1 hB.1 m_01f2fc97) (xt_cdOf hB.1 m_01f2fc97) (hts _ m_44748ce5) hB hR hS hA (fun vv h17 H locs hq hEh17 hR hS => ?_) (fun XX ax h17 H locs hq hEh17 hex hR hS => ?_)
        · obtain ⟨rfl, hw⟩ := hq
          have hw := hw hEh17
          have hE := hE.tr hEh17
          refine W.eq (g2 := F0 m 51 ls []) rfl ?_
          refine lv_iinc (v := (x2 + 1)) (k := 2) hx hb (xb_d D_Checker_checkLabels 32 rfl) hl rfl (by first | rfl | decide) (by decide) rfl (fun ls hl => ?_)
          have hl : lv_has ls 4 [(2, .int (x2 + 1)), (0, .ref x0), (1, .int x1)] := hl
          refine lv_goto (tgt := 26) hx hb (xb_d D_Checker_checkLabels 33 rfl) rfl ?_
          exact ih x0 x1 (x2 + 1) h17 (bc - c19) (bs - sc19) hw p e s m args below meth c hC H locs ls (k + c19) (n + sc19) hE (lv_sub hl [1, 2, 0] rfl) hR hS (by omega) (by omega)
        · exact xb_pass hlocks (fun x hx9 => by rw [htab] at hx9; first | cases hx9 | (simp [tableOf] at hx9; rcases hx9 with rfl | rfl | rfl <;> decide)) (show (k + c19) ≤ MC by omega) (show (n + sc19) ≤ MS by omega) (hE.tr hEh17) hR hS hex hq
      · exact False.elim hq

set_option maxHeartbeats 4000000 in
set_option maxRecDepth 100000 in
theorem ok_Checker_checkLabels (l : Launch) (hfl : l.flags = pinnedFlags ++ [noTraceFlag]) (D : va_G) (A : Nat → Prop) (σ : Nat) (x0 : Nat) (h : xb_H) (bc : Nat) (bs : Nat) (Qr : xb_H → Prop) (Qt : String → xb_H → Prop) (hw : w_Checker_checkLabels x0 h bc bs Qr Qt) : xt_Met l y_Checker_checkLabels [.code y_Checker_checkLabels b_Checker_checkLabels 4 none] (xb_rm 4 bc bs) (xb_Pc D A σ h [.ref x0]) (xb_Qc D A h (fun v h => v = none ∧ Qr h) Qt) bc bs A := by
  refine xb_ofAm (cc := b_Checker_checkLabels) (by decide) (Nat.le_of_ble_eq_true rfl) ?_
  unfold w_Checker_checkLabels at hw
  show xb_am l D A σ 4 bc bs h (fun v h => v = none ∧ Qr h) Qt y_Checker_checkLabels.cls y_Checker_checkLabels.name b_Checker_checkLabels 4 ([] : List ExceptionTableEntry) none 0 [(0, .ref x0)] [] h bc bs
  obtain ⟨MC, hMC⟩ : ∃ x, x = bc := ⟨_, rfl⟩
  obtain ⟨MS, hMS⟩ : ∃ x, x = bs := ⟨_, rfl⟩
  rw [show xb_am l D A σ 4 bc bs = xb_am l D A σ 4 MC MS by rw [hMC, hMS]]
  obtain ⟨h0, hh0⟩ : ∃ x, x = h := ⟨_, rfl⟩
  rw [show xb_am l D A σ 4 MC MS h = xb_am l D A σ 4 MC MS h0 by rw [hh0]]
  intro p e s m args below meth c hC H locs ls k n hE hl hR hS hk hn
  obtain ⟨hx, hb, hown, hlocks, htab, hml, hr, hB, hA, hnm⟩ := id hC
  have hts := hB.1.1.at args
  refine lv_aload_n hx hb (xb_d D_Checker_checkLabels 0 rfl) rfl (lv_at hl 0 rfl) ?_
  obtain ⟨hk1, hw⟩ := hw
  refine xb_getI (C := R_Checker) (T := F_Checker) (N := 17) hx hb 4 9 hts fin_Checker hown hR hk1 (by decide) rfl (by decide) rfl (hts _ m_28193d38) (fun _ h9 => h9) (xb_d D_Checker_checkLabels 1 rfl) ?_
  refine lv_iconst (v := 2) hx hb (xb_d D_Checker_checkLabels 2 rfl) (by decide) ?_
  refine lv_iadd hx hb (xb_d D_Checker_checkLabels 3 rfl) ?_
  refine lv_aload_n hx hb (xb_d D_Checker_checkLabels 4 rfl) rfl (lv_at hl 0 rfl) ?_
  refine xb_getP (C := R_Checker) (T := F_Checker) (N := 17) hx hb 4 2 hts fin_Checker hown hR hk1 (by decide) rfl (by decide) rfl (hts _ m_b5ef1148) (fun _ h9 => h9) (xb_d D_Checker_checkLabels 5 rfl) ?_
  obtain ⟨b2, eb2, hw⟩ := hw
  refine xb_some eb2 ?_
  refine lv_aload_n hx hb (xb_d D_Checker_checkLabels 6 rfl) rfl (lv_at hl 0 rfl) ?_
  refine xb_getI (C := R_Checker) (T := F_Checker) (N := 17) hx hb 4 9 hts fin_Checker hown hR hk1 (by decide) rfl (by decide) rfl (hts _ m_28193d38) (fun _ h9 => h9) (xb_d D_Checker_checkLabels 7 rfl) ?_
  refine lv_iconst (v := 1) hx hb (xb_d D_Checker_checkLabels 8 rfl) (by decide) ?_
  refine lv_iadd hx hb (xb_d D_Checker_checkLabels 9 rfl) ?_
  obtain ⟨hk4, hw⟩ := hw
  obtain ⟨hi3, hw⟩ := hw
  refine xb_iald hx hb hR hk4 hi3 (xb_d D_Checker_checkLabels 10 rfl) ?_
  refine lv_iadd hx hb (xb_d D_Checker_checkLabels 11 rfl) ?_
  obtain ⟨v5, ev5⟩ : ∃ x : Int32, x = (((xb_i h x0 9) + 2) + (xb_i h b2 (Int32.toNatClampNeg ((xb_i h x0 9) + 1)))) := ⟨_, rfl⟩
  have hw := hw v5 ev5
  refine xt_numi (y := v5) ev5.symm ?_
  refine lv_istore_n hx hb (xb_d D_Checker_checkLabels 12 rfl) rfl hl (by decide) rfl (fun ls hl => ?_)
  have hl : lv_has ls 4 [(1, .int v5), (0, .ref x0)] := hl
  refine lv_aload_n hx hb (xb_d D_Checker_checkLabels 13 rfl) rfl (lv_at hl 1 rfl) ?_
  refine xb_getI (C := R_Checker) (T := F_Checker) (N := 17) hx hb 4 9 hts fin_Checker hown hR hk1 (by decide) rfl (by decide) rfl (hts _ m_28193d38) (fun _ h9 => h9) (xb_d D_Checker_checkLabels 14 rfl) ?_
  refine lv_iconst (v := 2) hx hb (xb_d D_Checker_checkLabels 15 rfl) (by decide) ?_
  refine lv_iadd hx hb (xb_d D_Checker_checkLabels 16 rfl) ?_
  obtain ⟨v6, ev6⟩ : ∃ x : Int32, x = ((xb_i h x0 9) + 2) := ⟨_, rfl⟩
  have hw := hw v6 ev6
  refine xt_numi (y := v6) ev6.symm ?_
  refine lv_istore_n hx hb (xb_d D_Checker_checkLabels 17 rfl) rfl hl (by decide) rfl (fun ls hl => ?_)
  have hl : lv_has ls 4 [(2, .int v6), (1, .int v5), (0, .ref x0)] := hl
  obtain ⟨n8, hw⟩ := hw
  exact am_Checker_checkLabels_L26 l hfl D A σ MC MS h0 Qr Qt n8 x0 v5 v6 h bc bs hw p e s m args below meth c hC H locs ls k n hE (lv_sub hl [2, 1, 0] rfl) hR hS (by omega) (by omega)

