theorem m_d6f6646f : (.fieldLinkNest "StackHost$Checker" 261 "StackHost" "MEMORY_TYPES" "[I" "StackHost" : Cond) ∈ xt_tbl := xt_in (xt_t5 (List.mem_of_getElem? (i := 237) (by decide +kernel))) (by decide +kernel)
theorem m_478d3f58 : (.fieldLinkNest "StackHost$Checker" 258 "StackHost" "MEMORY_BYTES" "[I" "StackHost" : Cond) ∈ xt_tbl := xt_in (xt_t5 (List.mem_of_getElem? (i := 235) (by decide +kernel))) (by decide +kernel)
set_option maxRecDepth 100000 in
def T_Checker_checkMemory : List (Nat × Instr × Nat) := [(0, .aload_n 0, 1), (1, .aload_n 0, 1), (2, .getfield 38, 3), (5, .getfield 113, 3), (8, .invokevirtual 77, 3), (11, .ifCond .le 7, 3), (14, .iconst 1, 1), (15, .goto 4, 3), (18, .iconst 0, 1), (19, .bipush 20, 2), (21, .invokevirtual 254, 3), (24, .iload_n 1, 1), (25, .bipush 63, 2), (27, .if_icmp .lt 23, 3), (30, .iload_n 1, 1), (31, .bipush 63, 2), (33, .if_icmp .le 10, 3), (36, .aload_n 0, 1), (37, .bipush 127, 2), (39, .invokevirtual 251, 3), (42, .pop, 1), (43, .aload_n 0, 1), (44, .bipush 127, 2), (46, .invokevirtual 236, 3), (49, .return_, 1), (50, .iload_n 1, 1), (51, .bipush 40, 2), (53, .isub, 1), (54, .istore_n 2, 1), (55, .aload_n 0, 1), (56, .getfield 51, 3), (59, .aload_n 0, 1), (60, .getfield 196, 3), (63, .iconst 1, 1), (64, .iadd, 1), (65, .iaload, 1), (66, .istore_n 3, 1), (67, .aload_n 0, 1), (68, .iload_n 3, 1), (69, .ifCond .lt 23, 3), (72, .iload_n 3, 1), (73, .iconst 3, 1), (74, .if_icmp .gt 18, 3), (77, .iconst 1, 1), (78, .iload_n 3, 1), (79, .ishl, 1), (80, .getstatic 258, 3), (83, .iload_n 2, 1), (84, .iaload, 1), (85, .if_icmp .gt 7, 3), (88, .iconst 1, 1), (89, .goto 4, 3), (92, .iconst 0, 1), (93, .bipush 22, 2), (95, .invokevirtual 254, 3), (98, .iload_n 1, 1), (99, .bipush 54, 2), (101, .if_icmp .lt 23, 3), (104, .aload_n 0, 1), (105, .getstatic 261, 3), (108, .iload_n 2, 1), (109, .iaload, 1), (110, .invokevirtual 251, 3), (113, .pop, 1), (114, .aload_n 0, 1), (115, .bipush 127, 2), (117, .invokevirtual 251, 3), (120, .pop, 1), (121, .goto 19, 3), (124, .aload_n 0, 1), (125, .bipush 127, 2), (127, .invokevirtual 251, 3), (130, .pop, 1), (131, .aload_n 0, 1), (132, .getstatic 261, 3), (135, .iload_n 2, 1), (136, .iaload, 1), (137, .invokevirtual 236, 3), (140, .return_, 1)]
theorem D_Checker_checkMemory : ∀ q ∈ T_Checker_checkMemory, decode b_Checker_checkMemory q.1 = .ok (q.2.1, q.2.2) := by decide +kernel
def w_Checker_checkMemory_L140 (Qr : xb_H → Prop) (Qt : String → xb_H → Prop) (h : xb_H) (bc : Nat) (bs : Nat) : Prop :=
    Qr h

def w_Checker_checkMemory_L93 (Qr : xb_H → Prop) (Qt : String → xb_H → Prop) (x0 : Nat) (x1 : Int32) (x2 : Int32) (y0 : Int32) (y1 : Nat) (h : xb_H) (bc : Nat) (bs : Nat) : Prop :=
    xb_k h y1 = 5 ∧ ∃ c4 sc4 : Nat, c4 ≤ bc ∧ sc4 ≤ bs ∧ w_Checker_require y1 y0 22 h c4 sc4 (fun (h2 : xb_H) => xb_ext h h2 → ((x1 < (54 : Int32) → xb_k h2 x0 = 5 ∧ ∃ c9 sc9 : Nat, c9 ≤ (bc - c4) ∧ sc9 ≤ (bs - sc4) ∧ w_Checker_take x0 127 h2 c9 sc9 (fun (r8 : Int32) (h7 : xb_H) => xb_ext h2 h7 → vp_in x2 23 ∧ w_Checker_put x0 (xb_cMT.getD (Int32.toNatClampNeg x2) 0) h7 (fun (h12 : xb_H) => xb_ext h7 h12 → w_Checker_checkMemory_L140 Qr Qt h12 ((bc - c4) - c9) ((bs - sc4) - sc9))) Qt) ∧ (¬ x1 < (54 : Int32) → vp_in x2 23 ∧ xb_k h2 x0 = 5 ∧ ∃ c19 sc19 : Nat, c19 ≤ (bc - c4) ∧ sc19 ≤ (bs - sc4) ∧ w_Checker_take x0 (xb_cMT.getD (Int32.toNatClampNeg x2) 0) h2 c19 sc19 (fun (r18 : Int32) (h17 : xb_H) => xb_ext h2 h17 → ∃ c22 sc22 : Nat, c22 ≤ ((bc - c4) - c19) ∧ sc22 ≤ ((bs - sc4) - sc19) ∧ w_Checker_take x0 127 h17 c22 sc22 (fun (r21 : Int32) (h20 : xb_H) => xb_ext h17 h20 → w_Checker_checkMemory_L140 Qr Qt h20 (((bc - c4) - c19) - c22) (((bs - sc4) - sc19) - sc22)) Qt) Qt))) Qt

def w_Checker_checkMemory_L92 (Qr : xb_H → Prop) (Qt : String → xb_H → Prop) (x0 : Nat) (x1 : Int32) (x2 : Int32) (y0 : Nat) (h : xb_H) (bc : Nat) (bs : Nat) : Prop :=
    w_Checker_checkMemory_L93 Qr Qt x0 x1 x2 0 y0 h bc bs

def w_Checker_checkMemory_L43 (Qr : xb_H → Prop) (Qt : String → xb_H → Prop) (x0 : Nat) (h : xb_H) (bc : Nat) (bs : Nat) : Prop :=
    xb_k h x0 = 5 ∧ w_Checker_put x0 127 h (fun (h2 : xb_H) => xb_ext h h2 → Qr h2)

def w_Checker_checkMemory_L19 (Qr : xb_H → Prop) (Qt : String → xb_H → Prop) (x0 : Nat) (x1 : Int32) (y0 : Int32) (y1 : Nat) (h : xb_H) (bc : Nat) (bs : Nat) : Prop :=
    xb_k h y1 = 5 ∧ ∃ c4 sc4 : Nat, c4 ≤ bc ∧ sc4 ≤ bs ∧ w_Checker_require y1 y0 20 h c4 sc4 (fun (h2 : xb_H) => xb_ext h h2 → ((x1 < (63 : Int32) → ∀ v6 : Int32, v6 = (x1 - 40) → xb_k h2 x0 = 5 ∧ ∃ b8 : Nat, (xb_r h2 x0 2) = some b8 ∧ xb_k h2 b8 = 102 ∧ vp_in ((xb_i h2 x0 9) + 1) (xb_n h2 b8) ∧ ∀ v11 : Int32, v11 = (xb_i h2 b8 (Int32.toNatClampNeg ((xb_i h2 x0 9) + 1))) → ((v11 < (0 : Int32) → w_Checker_checkMemory_L92 Qr Qt x0 x1 v6 x0 h2 (bc - c4) (bs - sc4)) ∧ (¬ v11 < (0 : Int32) → (((3 : Int32) < v11 → w_Checker_checkMemory_L92 Qr Qt x0 x1 v6 x0 h2 (bc - c4) (bs - sc4)) ∧ (¬ (3 : Int32) < v11 → vp_in v6 23 ∧ (((xb_cMB.getD (Int32.toNatClampNeg v6) 0) < (1 <<< (v11 &&& 31)) → w_Checker_checkMemory_L92 Qr Qt x0 x1 v6 x0 h2 (bc - c4) (bs - sc4)) ∧ (¬ (xb_cMB.getD (Int32.toNatClampNeg v6) 0) < (1 <<< (v11 &&& 31)) → w_Checker_checkMemory_L93 Qr Qt x0 x1 v6 1 x0 h2 (bc - c4) (bs - sc4)))))))) ∧ (¬ x1 < (63 : Int32) → ((x1 ≤ (63 : Int32) → w_Checker_checkMemory_L43 Qr Qt x0 h2 (bc - c4) (bs - sc4)) ∧ (¬ x1 ≤ (63 : Int32) → xb_k h2 x0 = 5 ∧ ∃ c21 sc21 : Nat, c21 ≤ (bc - c4) ∧ sc21 ≤ (bs - sc4) ∧ w_Checker_take x0 127 h2 c21 sc21 (fun (r20 : Int32) (h19 : xb_H) => xb_ext h2 h19 → w_Checker_checkMemory_L43 Qr Qt x0 h19 ((bc - c4) - c21) ((bs - sc4) - sc21)) Qt))))) Qt

def w_Checker_checkMemory (x0 : Nat) (x1 : Int32) (h : xb_H) (bc : Nat) (bs : Nat) (Qr : xb_H → Prop) (Qt : String → xb_H → Prop) : Prop :=
    xb_k h x0 = 5 ∧ ∃ b2 : Nat, (xb_r h x0 0) = some b2 ∧ xb_k h b2 = 3 ∧ ∃ b4 : Nat, (xb_r h b2 6) = some b4 ∧ xb_k h b4 = 2 ∧ w_Row_lines b4 h (fun (r7 : Int32) (h6 : xb_H) => xb_ext h h6 → ((r7 ≤ (0 : Int32) → w_Checker_checkMemory_L19 Qr Qt x0 x1 0 x0 h6 bc bs) ∧ (¬ r7 ≤ (0 : Int32) → w_Checker_checkMemory_L19 Qr Qt x0 x1 1 x0 h6 bc bs)))

set_option maxHeartbeats 4000000 in
set_option maxRecDepth 100000 in
theorem am_Checker_checkMemory_L140 (l : Launch) (hfl : l.flags = pinnedFlags ++ [noTraceFlag]) (D : va_G) (A : Nat → Prop) (σ MC MS : Nat) (h0 : xb_H) (Qr : xb_H → Prop) (Qt : String → xb_H → Prop) (h : xb_H) (bc : Nat) (bs : Nat) (hw : w_Checker_checkMemory_L140 Qr Qt h bc bs) : xb_am l D A σ 4 MC MS h0 (fun v h => v = none ∧ Qr h) Qt y_Checker_checkMemory.cls y_Checker_checkMemory.name b_Checker_checkMemory 4 ([] : List ExceptionTableEntry) none 140 [] [] h bc bs := by
  unfold w_Checker_checkMemory_L140 at hw
  intro p e s m args below meth c hC H locs ls k n hE hl hR hS hk hn
  obtain ⟨hx, hb, hown, hlocks, htab, hml, hr, hB, hA, hnm⟩ := id hC
  have hts := hB.1.1.at args
  exact xb_vret hx hb hr hlocks (show k ≤ MC by omega) (show n ≤ MS by omega) hE hR hS (xb_d D_Checker_checkMemory 78 rfl) hw

set_option maxHeartbeats 4000000 in
set_option maxRecDepth 100000 in
theorem am_Checker_checkMemory_L93 (l : Launch) (hfl : l.flags = pinnedFlags ++ [noTraceFlag]) (D : va_G) (A : Nat → Prop) (σ MC MS : Nat) (h0 : xb_H) (Qr : xb_H → Prop) (Qt : String → xb_H → Prop) (x0 : Nat) (x1 : Int32) (x2 : Int32) (y0 : Int32) (y1 : Nat) (h : xb_H) (bc : Nat) (bs : Nat) (hw : w_Checker_checkMemory_L93 Qr Qt x0 x1 x2 y0 y1 h bc bs) : xb_am l D A σ 4 MC MS h0 (fun v h => v = none ∧ Qr h) Qt y_Checker_checkMemory.cls y_Checker_checkMemory.name b_Checker_checkMemory 4 ([] : List ExceptionTableEntry) none 93 [(0, .ref x0), (1, .int x1), (2, .int x2)] [.int y0, .ref y1] h bc bs := by
  unfold w_Checker_checkMemory_L93 at hw
  intro p e s m args below meth c hC H locs ls k n hE hl hR hS hk hn
  obtain ⟨hx, hb, hown, hlocks, htab, hml, hr, hB, hA, hnm⟩ := id hC
  have hts := hB.1.1.at args
  refine lv_bipush (v := 22) hx hb (xb_d D_Checker_checkMemory 53 rfl) (by decide) ?_
  obtain ⟨hk1, hw⟩ := hw
  obtain ⟨c4, sc4, hlc4, hlsc4, hw⟩ := hw
  refine xb_call (D := D) (A := A) (σ := σ) (h := h) (d := 3) (mc := c4) (ms := sc4) (maxL := 3) (rest := []) (av := [.ref y1, .int y0, .int 22]) (fun T hT X => by obtain ⟨cb, r1, r2, r3⟩ := xb_recv (ci := 4) hR rfl hk1 (by decide); exact xt_invV X hx hown (hts _ m_0a242445) (hts _ m_a99c45f7) (hts _ m_978d7491) (xt_sigOf (hts _ m_01f2fc97)) nm_Checker_require (by rw [hT]; exact r1) r2 r3 (g := F0 m 95 ls [.int 22, .int y0, .ref y1]) rfl (argsL := [.int y0, .int 22]) (rest := []) rfl rfl (by rw [hb]; exact (xb_d D_Checker_checkMemory 54 rfl))) (ok_Checker_require l hfl D A σ y1 y0 22 h c4 sc4 _ _ hw) (hml.trans hl.1.symm) (by rw [hb]; exact (xb_d D_Checker_checkMemory 54 rfl)) (Nat.le_of_ble_eq_true rfl) (Nat.le_of_ble_eq_true rfl) (Nat.le_of_ble_eq_true rfl) (show k + c4 ≤ MC by omega) (show n + sc4 ≤ MS by omega) (xt_w1 hB.1 m_01f2fc97) (xt_cdOf hB.1 m_01f2fc97) (hts _ m_44748ce5) hB hR hS hA (fun vv h2 H locs hq hEh2 hR hS => ?_) (fun XX ax h2 H locs hq hEh2 hex hR hS => ?_)
  · obtain ⟨rfl, hw⟩ := hq
    have hw := hw hEh2
    have hE := hE.tr hEh2
    refine W.eq (g2 := F0 m 98 ls []) rfl ?_
    refine lv_iload_n hx hb (xb_d D_Checker_checkMemory 55 rfl) rfl (lv_at hl 1 rfl) ?_
    refine lv_bipush (v := 54) hx hb (xb_d D_Checker_checkMemory 56 rfl) (by decide) ?_
    refine lv_icmp_lt (tgt := 124) hx hb (xb_d D_Checker_checkMemory 57 rfl) rfl (fun hc5 => ?_) (fun hc5 => ?_)
    · have hw := hw.1 hc5
      refine lv_aload_n hx hb (xb_d D_Checker_checkMemory 69 rfl) rfl (lv_at hl 0 rfl) ?_
      refine lv_bipush (v := 127) hx hb (xb_d D_Checker_checkMemory 70 rfl) (by decide) ?_
      obtain ⟨hk6, hw⟩ := hw
      obtain ⟨c9, sc9, hlc9, hlsc9, hw⟩ := hw
      refine xb_call (D := D) (A := A) (σ := σ) (h := h2) (d := 3) (mc := c9) (ms := sc9) (maxL := 3) (rest := []) (av := [.ref x0, .int 127]) (fun T hT X => by obtain ⟨cb, r1, r2, r3⟩ := xb_recv (ci := 4) hR rfl hk6 (by decide); exact xt_invV X hx hown (hts _ m_0b33e20f) (hts _ m_338dda25) (hts _ m_d7dc08f9) (xt_sigOf (hts _ m_b71cce2b)) nm_Checker_take (by rw [hT]; exact r1) r2 r3 (g := F0 m 127 ls [.int 127, .ref x0]) rfl (argsL := [.int 127]) (rest := []) rfl rfl (by rw [hb]; exact (xb_d D_Checker_checkMemory 71 rfl))) (ok_Checker_take l hfl D A σ x0 127 h2 c9 sc9 _ _ hw) (hml.trans hl.1.symm) (by rw [hb]; exact (xb_d D_Checker_checkMemory 71 rfl)) (Nat.le_of_ble_eq_true rfl) (Nat.le_of_ble_eq_true rfl) (Nat.le_of_ble_eq_true rfl) (show (k + c4) + c9 ≤ MC by omega) (show (n + sc4) + sc9 ≤ MS by omega) (xt_w1 hB.1 m_b71cce2b) (xt_cdOf hB.1 m_b71cce2b) (hts _ m_44748ce5) hB hR hS hA (fun vv h7 H locs hq hEh7 hR hS => ?_) (fun XX ax h7 H locs hq hEh7 hex hR hS => ?_)
      · obtain ⟨r8, rfl, hw⟩ := hq
        have hw := hw hEh7
        have hE := hE.tr hEh7
        refine W.eq (g2 := F0 m 130 ls [.int r8]) rfl ?_
        refine lv_pop hx hb (xb_d D_Checker_checkMemory 72 rfl) rfl ?_
        refine lv_aload_n hx hb (xb_d D_Checker_checkMemory 73 rfl) rfl (lv_at hl 0 rfl) ?_
        obtain ⟨tt10, hZtt10, hTtt10⟩ := hB.2.2.1
        refine va_getsN hx hb hZtt10 hS hown (hts _ m_d6f6646f) (fun _ h9 => h9) (xb_d D_Checker_checkMemory 74 rfl) ?_
        refine lv_iload_n hx hb (xb_d D_Checker_checkMemory 75 rfl) rfl (lv_at hl 2 rfl) ?_
        obtain ⟨hi11, hw⟩ := hw
        refine va_ti (v := .int (xb_cMT.getD (Int32.toNatClampNeg x2) 0)) hx hb hTtt10 hS hi11 rfl (xb_d D_Checker_checkMemory 76 rfl) ?_
        have hk6 : xb_k h7 x0 = 5 := hEh7.k hk6
        refine xb_call (D := D) (A := A) (σ := σ) (h := h7) (d := 2) (mc := 0) (ms := 0) (maxL := 2) (rest := []) (av := [.ref x0, .int (xb_cMT.getD (Int32.toNatClampNeg x2) 0)]) (fun T hT X => by obtain ⟨cb, r1, r2, r3⟩ := xb_recv (ci := 4) hR rfl hk6 (by decide); exact xt_invV X hx hown (hts _ m_761ff7fc) (hts _ m_e867be1e) (hts _ m_098fc344) (xt_sigOf (hts _ m_43ff17c7)) nm_Checker_put (by rw [hT]; exact r1) r2 r3 (g := F0 m 137 ls [.int (xb_cMT.getD (Int32.toNatClampNeg x2) 0), .ref x0]) rfl (argsL := [.int (xb_cMT.getD (Int32.toNatClampNeg x2) 0)]) (rest := []) rfl rfl (by rw [hb]; exact (xb_d D_Checker_checkMemory 77 rfl))) (ok_Checker_put l hfl D A σ x0 (xb_cMT.getD (Int32.toNatClampNeg x2) 0) h7 _ hw) (hml.trans hl.1.symm) (by rw [hb]; exact (xb_d D_Checker_checkMemory 77 rfl)) (Nat.le_of_ble_eq_true rfl) (Nat.le_of_ble_eq_true rfl) (Nat.le_of_ble_eq_true rfl) (show ((k + c4) + c9) + 0 ≤ MC by omega) (show ((n + sc4) + sc9) + 0 ≤ MS by omega) (xt_w1 hB.1 m_43ff17c7) (xt_cdOf hB.1 m_43ff17c7) (hts _ m_44748ce5) hB hR hS hA (fun vv h12 H locs hq hEh12 hR hS => ?_) (fun XX ax h12 H locs hq hEh12 hex hR hS => ?_)
        · obtain ⟨rfl, hw⟩ := hq
          have hw := hw hEh12
          have hE := hE.tr hEh12
          refine W.eq (g2 := F0 m 140 ls []) rfl ?_
          exact am_Checker_checkMemory_L140 l hfl D A σ MC MS h0 Qr Qt h12 ((bc - c4) - c9) ((bs - sc4) - sc9) hw p e s m args below meth c hC H locs ls ((k + c4) + c9) ((n + sc4) + sc9) hE (lv_sub hl [] rfl) hR hS (by omega) (by omega)
        · exact False.elim hq
      · exact xb_pass hlocks (fun x hx9 => by rw [htab] at hx9; first | cases hx9 | (simp [tableOf] at hx9; rcases hx9 with rfl | rfl | rfl <;> decide)) (show ((k + c4) + c9) ≤ MC by omega) (show ((n + sc4) + sc9) ≤ MS by omega) (hE.tr hEh7) hR hS hex hq
    · have hw := hw.2 hc5
      refine lv_aload_n hx hb (xb_d D_Checker_checkMemory 58 rfl) rfl (lv_at hl 0 rfl) ?_
      obtain ⟨tt14, hZtt14, hTtt14⟩ := hB.2.2.1
      refine va_getsN hx hb hZtt14 hS hown (hts _ m_d6f6646f) (fun _ h9 => h9) (xb_d D_Checker_checkMemory 59 rfl) ?_
      refine lv_iload_n hx hb (xb_d D_Checker_checkMemory 60 rfl) rfl (lv_at hl 2 rfl) ?_
      obtain ⟨hi15, hw⟩ := hw
      refine va_ti (v := .int (xb_cMT.getD (Int32.toNatClampNeg x2) 0)) hx hb hTtt14 hS hi15 rfl (xb_d D_Checker_checkMemory 61 rfl) ?_
      obtain ⟨hk16, hw⟩ := hw
      obtain ⟨c19, sc19, hlc19, hlsc19, hw⟩ := hw
      refine xb_call (D := D) (A := A) (σ := σ) (h := h2) (d := 3) (mc := c19) (ms := sc19) (maxL := 3) (rest := []) (av := [.ref x0, .int (xb_cMT.getD (Int32.toNatClampNeg x2) 0)]) (fun T hT X => by obtain ⟨cb, r1, r2, r3⟩ := xb_recv (ci := 4) hR rfl hk16 (by decide); exact xt_invV X hx hown (hts _ m_0b33e20f) (hts _ m_338dda25) (hts _ m_d7dc08f9) (xt_sigOf (hts _ m_b71cce2b)) nm_Checker_take (by rw [hT]; exact r1) r2 r3 (g := F0 m 110 ls [.int (xb_cMT.getD (Int32.toNatClampNeg x2) 0), .ref x0]) rfl (argsL := [.int (xb_cMT.getD (Int32.toNatClampNeg x2) 0)]) (rest := []) rfl rfl (by rw [hb]; exact (xb_d D_Checker_checkMemory 62 rfl))) (ok_Checker_take l hfl D A σ x0 (xb_cMT.getD (Int32.toNatClampNeg x2) 0) h2 c19 sc19 _ _ hw) (hml.trans hl.1.symm) (by rw [hb]; exact (xb_d D_Checker_checkMemory 62 rfl)) (Nat.le_of_ble_eq_true rfl) (Nat.le_of_ble_eq_true rfl) (Nat.le_of_ble_eq_true rfl) (show (k + c4) + c19 ≤ MC by omega) (show (n + sc4) + sc19 ≤ MS by omega) (xt_w1 hB.1 m_b71cce2b) (xt_cdOf hB.1 m_b71cce2b) (hts _ m_44748ce5) hB hR hS hA (fun vv h17 H locs hq hEh17 hR hS => ?_) (fun XX ax h17 H locs hq hEh17 hex hR hS => ?_)
      · obtain ⟨r18, rfl, hw⟩ := hq
        have hw := hw hEh17
        have hE := hE.tr hEh17
        refine W.eq (g2 := F0 m 113 ls [.int r18]) rfl ?_
        refine lv_pop hx hb (xb_d D_Checker_checkMemory 63 rfl) rfl ?_
        refine lv_aload_n hx hb (xb_d D_Checker_checkMemory 64 rfl) rfl (lv_at hl 0 rfl) ?_
        refine lv_bipush (v := 127) hx hb (xb_d D_Checker_checkMemory 65 rfl) (by decide) ?_
        have hk16 : xb_k h17 x0 = 5 := hEh17.k hk16
        obtain ⟨c22, sc22, hlc22, hlsc22, hw⟩ := hw
        refine xb_call (D := D) (A := A) (σ := σ) (h := h17) (d := 3) (mc := c22) (ms := sc22) (maxL := 3) (rest := []) (av := [.ref x0, .int 127]) (fun T hT X => by obtain ⟨cb, r1, r2, r3⟩ := xb_recv (ci := 4) hR rfl hk16 (by decide); exact xt_invV X hx hown (hts _ m_0b33e20f) (hts _ m_338dda25) (hts _ m_d7dc08f9) (xt_sigOf (hts _ m_b71cce2b)) nm_Checker_take (by rw [hT]; exact r1) r2 r3 (g := F0 m 117 ls [.int 127, .ref x0]) rfl (argsL := [.int 127]) (rest := []) rfl rfl (by rw [hb]; exact (xb_d D_Checker_checkMemory 66 rfl))) (ok_Checker_take l hfl D A σ x0 127 h17 c22 sc22 _ _ hw) (hml.trans hl.1.symm) (by rw [hb]; exact (xb_d D_Checker_checkMemory 66 rfl)) (Nat.le_of_ble_eq_true rfl) (Nat.le_of_ble_eq_true rfl) (Nat.le_of_ble_eq_true rfl) (show ((k + c4) + c19) + c22 ≤ MC by omega) (show ((n + sc4) + sc19) + sc22 ≤ MS by omega) (xt_w1 hB.1 m_b71cce2b) (xt_cdOf hB.1 m_b71cce2b) (hts _ m_44748ce5) hB hR hS hA (fun vv h20 H locs hq hEh20 hR hS => ?_) (fun XX ax h20 H locs hq hEh20 hex hR hS => ?_)
        · obtain ⟨r21, rfl, hw⟩ := hq
          have hw := hw hEh20
          have hE := hE.tr hEh20
          refine W.eq (g2 := F0 m 120 ls [.int r21]) rfl ?_
          refine lv_pop hx hb (xb_d D_Checker_checkMemory 67 rfl) rfl ?_
          refine lv_goto (tgt := 140) hx hb (xb_d D_Checker_checkMemory 68 rfl) rfl ?_
          exact am_Checker_checkMemory_L140 l hfl D A σ MC MS h0 Qr Qt h20 (((bc - c4) - c19) - c22) (((bs - sc4) - sc19) - sc22) hw p e s m args below meth c hC H locs ls (((k + c4) + c19) + c22) (((n + sc4) + sc19) + sc22) hE (lv_sub hl [] rfl) hR hS (by omega) (by omega)
        · exact xb_pass hlocks (fun x hx9 => by rw [htab] at hx9; first | cases hx9 | (simp [tableOf] at hx9; rcases hx9 with rfl | rfl | rfl <;> decide)) (show (((k + c4) + c19) + c22) ≤ MC by omega) (show (((n + sc4) + sc19) + sc22) ≤ MS by omega) (hE.tr hEh20) hR hS hex hq
      · exact xb_pass hlocks (fun x hx9 => by rw [htab] at hx9; first | cases hx9 | (simp [tableOf] at hx9; rcases hx9 with rfl | rfl | rfl <;> decide)) (show ((k + c4) + c19) ≤ MC by omega) (show ((n + sc4) + sc19) ≤ MS by omega) (hE.tr hEh17) hR hS hex hq
  · exact xb_pass hlocks (fun x hx9 => by rw [htab] at hx9; first | cases hx9 | (simp [tableOf] at hx9; rcases hx9 with rfl | rfl | rfl <;> decide)) (show (k + c4) ≤ MC by omega) (show (n + sc4) ≤ MS by omega) (hE.tr hEh2) hR hS hex hq

set_option maxHeartbeats 4000000 in
set_option maxRecDepth 100000 in
theorem am_Checker_checkMemory_L92 (l : Launch) (hfl : l.flags = pinnedFlags ++ [noTraceFlag]) (D : va_G) (A : Nat → Prop) (σ MC MS : Nat) (h0 : xb_H) (Qr : xb_H → Prop) (Qt : String → xb_H → Prop) (x0 : Nat) (x1 : Int32) (x2 : Int32) (y0 : Nat) (h : xb_H) (bc : Nat) (bs : Nat) (hw : w_Checker_checkMemory_L92 Qr Qt x0 x1 x2 y0 h bc bs) : xb_am l D A σ 4 MC MS h0 (fun v h => v = none ∧ Qr h) Qt y_Checker_checkMemory.cls y_Checker_checkMemory.name b_Checker_checkMemory 4 ([] : List ExceptionTableEntry) none 92 [(0, .ref x0), (1, .int x1), (2, .int x2)] [.ref y0] h bc bs := by
  unfold w_Checker_checkMemory_L92 at hw
  intro p e s m args below meth c hC H locs ls k n hE hl hR hS hk hn
  obtain ⟨hx, hb, hown, hlocks, htab, hml, hr, hB, hA, hnm⟩ := id hC
  have hts := hB.1.1.at args
  refine lv_iconst (v := 0) hx hb (xb_d D_Checker_checkMemory 52 rfl) (by decide) ?_
  exact am_Checker_checkMemory_L93 l hfl D A σ MC MS h0 Qr Qt x0 x1 x2 0 y0 h bc bs hw p e s m args below meth c hC H locs ls k n hE (lv_sub hl [0, 1, 2] rfl) hR hS (by omega) (by omega)

set_option maxHeartbeats 4000000 in
set_option maxRecDepth 100000 in
theorem am_Checker_checkMemory_L43 (l : Launch) (hfl : l.flags = pinnedFlags ++ [noTraceFlag]) (D : va_G) (A : Nat → Prop) (σ MC MS : Nat) (h0 : xb_H) (Qr : xb_H → Prop) (Qt : String → xb_H → Prop) (x0 : Nat) (h : xb_H) (bc : Nat) (bs : Nat) (hw : w_Checker_checkMemory_L43 Qr Qt x0 h bc bs) : xb_am l D A σ 4 MC MS h0 (fun v h => v = none ∧ Qr h) Qt y_Checker_checkMemory.cls y_Checker_checkMemory.name b_Checker_checkMemory 4 ([] : List ExceptionTableEntry) none 43 [(0, .ref x0)] [] h bc bs := by
  unfold w_Checker_checkMemory_L43 at hw
  intro p e s m args below meth c hC H locs ls k n hE hl hR hS hk hn
  obtain ⟨hx, hb, hown, hlocks, htab, hml, hr, hB, hA, hnm⟩ := id hC
  have hts := hB.1.1.at args
  refine lv_aload_n hx hb (xb_d D_Checker_checkMemory 21 rfl) rfl (lv_at hl 0 rfl) ?_
  refine lv_bipush (v := 127) hx hb (xb_d D_Checker_checkMemory 22 rfl) (by decide) ?_
  obtain ⟨hk1, hw⟩ := hw
  refine xb_call (D := D) (A := A) (σ := σ) (h := h) (d := 2) (mc := 0) (ms := 0) (maxL := 2) (rest := []) (av := [.ref x0, .int 127]) (fun T hT X => by obtain ⟨cb, r1, r2, r3⟩ := xb_recv (ci := 4) hR rfl hk1 (by decide); exact xt_invV X hx hown (hts _ m_761ff7fc) (hts _ m_e867be1e) (hts _ m_098fc344) (xt_sigOf (hts _ m_43ff17c7)) nm_Checker_put (by rw [hT]; exact r1) r2 r3 (g := F0 m 46 ls [.int 127, .ref x0]) rfl (argsL := [.int 127]) (rest := []) rfl rfl (by rw [hb]; exact (xb_d D_Checker_checkMemory 23 rfl))) (ok_Checker_put l hfl D A σ x0 127 h _ hw) (hml.trans hl.1.symm) (by rw [hb]; exact (xb_d D_Checker_checkMemory 23 rfl)) (Nat.le_of_ble_eq_true rfl) (Nat.le_of_ble_eq_true rfl) (Nat.le_of_ble_eq_true rfl) (show k + 0 ≤ MC by omega) (show n + 0 ≤ MS by omega) (xt_w1 hB.1 m_43ff17c7) (xt_cdOf hB.1 m_43ff17c7) (hts _ m_44748ce5) hB hR hS hA (fun vv h2 H locs hq hEh2 hR hS => ?_) (fun XX ax h2 H locs hq hEh2 hex hR hS => ?_)
  · obtain ⟨rfl, hw⟩ := hq
    have hw := hw hEh2
    have hE := hE.tr hEh2
    refine W.eq (g2 := F0 m 49 ls []) rfl ?_
    exact xb_vret hx hb hr hlocks (show k ≤ MC by omega) (show n ≤ MS by omega) hE hR hS (xb_d D_Checker_checkMemory 24 rfl) hw
  · exact False.elim hq

set_option maxHeartbeats 4000000 in
set_option maxRecDepth 100000 in
theorem am_Checker_checkMemory_L19 (l : Launch) (hfl : l.flags = pinnedFlags ++ [noTraceFlag]) (D : va_G) (A : Nat → Prop) (σ MC MS : Nat) (h0 : xb_H) (Qr : xb_H → Prop) (Qt : String → xb_H → Prop) (x0 : Nat) (x1 : Int32) (y0 : Int32) (y1 : Nat) (h : xb_H) (bc : Nat) (bs : Nat) (hw : w_Checker_checkMemory_L19 Qr Qt x0 x1 y0 y1 h bc bs) : xb_am l D A σ 4 MC MS h0 (fun v h => v = none ∧ Qr h) Qt y_Checker_checkMemory.cls y_Checker_checkMemory.name b_Checker_checkMemory 4 ([] : List ExceptionTableEntry) none 19 [(0, .ref x0), (1, .int x1)] [.int y0, .ref y1] h bc bs := by
  unfold w_Checker_checkMemory_L19 at hw
  intro p e s m args below meth c hC H locs ls k n hE hl hR hS hk hn
  obtain ⟨hx, hb, hown, hlocks, htab, hml, hr, hB, hA, hnm⟩ := id hC
  have hts := hB.1.1.at args
  refine lv_bipush (v := 20) hx hb (xb_d D_Checker_checkMemory 9 rfl) (by decide) ?_
  obtain ⟨hk1, hw⟩ := hw
  obtain ⟨c4, sc4, hlc4, hlsc4, hw⟩ := hw
  refine xb_call (D := D) (A := A) (σ := σ) (h := h) (d := 3) (mc := c4) (ms := sc4) (maxL := 3) (rest := []) (av := [.ref y1, .int y0, .int 20]) (fun T hT X => by obtain ⟨cb, r1, r2, r3⟩ := xb_recv (ci := 4) hR rfl hk1 (by decide); exact xt_invV X hx hown (hts _ m_0a242445) (hts _ m_a99c45f7) (hts _ m_978d7491) (xt_sigOf (hts _ m_01f2fc97)) nm_Checker_require (by rw [hT]; exact r1) r2 r3 (g := F0 m 21 ls [.int 20, .int y0, .ref y1]) rfl (argsL := [.int y0, .int 20]) (rest := []) rfl rfl (by rw [hb]; exact (xb_d D_Checker_checkMemory 10 rfl))) (ok_Checker_require l hfl D A σ y1 y0 20 h c4 sc4 _ _ hw) (hml.trans hl.1.symm) (by rw [hb]; exact (xb_d D_Checker_checkMemory 10 rfl)) (Nat.le_of_ble_eq_true rfl) (Nat.le_of_ble_eq_true rfl) (Nat.le_of_ble_eq_true rfl) (show k + c4 ≤ MC by omega) (show n + sc4 ≤ MS by omega) (xt_w1 hB.1 m_01f2fc97) (xt_cdOf hB.1 m_01f2fc97) (hts _ m_44748ce5) hB hR hS hA (fun vv h2 H locs hq hEh2 hR hS => ?_) (fun XX ax h2 H locs hq hEh2 hex hR hS => ?_)
  · obtain ⟨rfl, hw⟩ := hq
    have hw := hw hEh2
    have hE := hE.tr hEh2
    refine W.eq (g2 := F0 m 24 ls []) rfl ?_
    refine lv_iload_n hx hb (xb_d D_Checker_checkMemory 11 rfl) rfl (lv_at hl 1 rfl) ?_
    refine lv_bipush (v := 63) hx hb (xb_d D_Checker_checkMemory 12 rfl) (by decide) ?_
    refine lv_icmp_lt (tgt := 50) hx hb (xb_d D_Checker_checkMemory 13 rfl) rfl (fun hc5 => ?_) (fun hc5 => ?_)
    · have hw := hw.1 hc5
      refine lv_iload_n hx hb (xb_d D_Checker_checkMemory 25 rfl) rfl (lv_at hl 1 rfl) ?_
      refine lv_bipush (v := 40) hx hb (xb_d D_Checker_checkMemory 26 rfl) (by decide) ?_
      refine lv_isub hx hb (xb_d D_Checker_checkMemory 27 rfl) ?_
      obtain ⟨v6, ev6⟩ : ∃ x : Int32, x = (x1 - 40) := ⟨_, rfl⟩
      have hw := hw v6 ev6
      refine xt_numi (y := v6) ev6.symm ?_
      refine lv_istore_n hx hb (xb_d D_Checker_checkMemory 28 rfl) rfl hl (by decide) rfl (fun ls hl => ?_)
      have hl : lv_has ls 4 [(2, .int v6), (0, .ref x0), (1, .int x1)] := hl
      refine lv_aload_n hx hb (xb_d D_Checker_checkMemory 29 rfl) rfl (lv_at hl 1 rfl) ?_
      obtain ⟨hk7, hw⟩ := hw
      refine xb_getP (C := R_Checker) (T := F_Checker) (N := 17) hx hb 4 2 hts fin_Checker hown hR hk7 (by decide) rfl (by decide) rfl (hts _ m_b5ef1148) (fun _ h9 => h9) (xb_d D_Checker_checkMemory 30 rfl) ?_
      obtain ⟨b8, eb8, hw⟩ := hw
      refine xb_some eb8 ?_
      refine lv_aload_n hx hb (xb_d D_Checker_checkMemory 31 rfl) rfl (lv_at hl 1 rfl) ?_
      refine xb_getI (C := R_Checker) (T := F_Checker) (N := 17) hx hb 4 9 hts fin_Checker hown hR hk7 (by decide) rfl (by decide) rfl (hts _ m_28193d38) (fun _ h9 => h9) (xb_d D_Checker_checkMemory 32 rfl) ?_
      refine lv_iconst (v := 1) hx hb (xb_d D_Checker_checkMemory 33 rfl) (by decide) ?_
      refine lv_iadd hx hb (xb_d D_Checker_checkMemory 34 rfl) ?_
      obtain ⟨hk10, hw⟩ := hw
      obtain ⟨hi9, hw⟩ := hw
      refine xb_iald hx hb hR hk10 hi9 (xb_d D_Checker_checkMemory 35 rfl) ?_
      obtain ⟨v11, ev11⟩ : ∃ x : Int32, x = (xb_i h2 b8 (Int32.toNatClampNeg ((xb_i h2 x0 9) + 1))) := ⟨_, rfl⟩
      have hw := hw v11 ev11
      refine xt_numi (y := v11) ev11.symm ?_
      refine lv_istore_n hx hb (xb_d D_Checker_checkMemory 36 rfl) rfl hl (by decide) rfl (fun ls hl => ?_)
      have hl : lv_has ls 4 [(3, .int v11), (2, .int v6), (0, .ref x0), (1, .int x1)] := hl
      refine lv_aload_n hx hb (xb_d D_Checker_checkMemory 37 rfl) rfl (lv_at hl 2 rfl) ?_
      refine lv_iload_n hx hb (xb_d D_Checker_checkMemory 38 rfl) rfl (lv_at hl 0 rfl) ?_
      refine lv_if_lt (tgt := 92) hx hb (xb_d D_Checker_checkMemory 39 rfl) rfl (fun hc12 => ?_) (fun hc12 => ?_)
      · have hw := hw.1 hc12
        exact am_Checker_checkMemory_L92 l hfl D A σ MC MS h0 Qr Qt x0 x1 v6 x0 h2 (bc - c4) (bs - sc4) hw p e s m args below meth c hC H locs ls (k + c4) (n + sc4) hE (lv_sub hl [2, 3, 1] rfl) hR hS (by omega) (by omega)
      · have hw := hw.2 hc12
        refine lv_iload_n hx hb (xb_d D_Checker_checkMemory 40 rfl) rfl (lv_at hl 0 rfl) ?_
        refine lv_iconst (v := 3) hx hb (xb_d D_Checker_checkMemory 41 rfl) (by decide) ?_
        refine lv_icmp_gt (tgt := 92) hx hb (xb_d D_Checker_checkMemory 42 rfl) rfl (fun hc13 => ?_) (fun hc13 => ?_)
        · have hw := hw.1 hc13
          exact am_Checker_checkMemory_L92 l hfl D A σ MC MS h0 Qr Qt x0 x1 v6 x0 h2 (bc - c4) (bs - sc4) hw p e s m args below meth c hC H locs ls (k + c4) (n + sc4) hE (lv_sub hl [2, 3, 1] rfl) hR hS (by omega) (by omega)
        · have hw := hw.2 hc13
          refine lv_iconst (v := 1) hx hb (xb_d D_Checker_checkMemory 43 rfl) (by decide) ?_
          refine lv_iload_n hx hb (xb_d D_Checker_checkMemory 44 rfl) rfl (lv_at hl 0 rfl) ?_
          refine lv_ishl hx hb (xb_d D_Checker_checkMemory 45 rfl) ?_
          obtain ⟨tt14, hZtt14, hTtt14⟩ := hB.2.2.2.1
          refine va_getsN hx hb hZtt14 hS hown (hts _ m_478d3f58) (fun _ h9 => h9) (xb_d D_Checker_checkMemory 46 rfl) ?_
          refine lv_iload_n hx hb (xb_d D_Checker_checkMemory 47 rfl) rfl (lv_at hl 1 rfl) ?_
          obtain ⟨hi15, hw⟩ := hw
          refine va_ti (v := .int (xb_cMB.getD (Int32.toNatClampNeg v6) 0)) hx hb hTtt14 hS hi15 rfl (xb_d D_Checker_checkMemory 48 rfl) ?_
          refine lv_icmp_gt (tgt := 92) hx hb (xb_d D_Checker_checkMemory 49 rfl) rfl (fun hc16 => ?_) (fun hc16 => ?_)
          · have hw := hw.1 hc16
            exact am_Checker_checkMemory_L92 l hfl D A σ MC MS h0 Qr Qt x0 x1 v6 x0 h2 (bc - c4) (bs - sc4) hw p e s m args below meth c hC H locs ls (k + c4) (n + sc4) hE (lv_sub hl [2, 3, 1] rfl) hR hS (by omega) (by omega)
          · have hw := hw.2 hc16
            refine lv_iconst (v := 1) hx hb (xb_d D_Checker_checkMemory 50 rfl) (by decide) ?_
            refine lv_goto (tgt := 93) hx hb (xb_d D_Checker_checkMemory 51 rfl) rfl ?_
            exact am_Checker_checkMemory_L93 l hfl D A σ MC MS h0 Qr Qt x0 x1 v6 1 x0 h2 (bc - c4) (bs - sc4) hw p e s m args below meth c hC H locs ls (k + c4) (n + sc4) hE (lv_sub hl [2, 3, 1] rfl) hR hS (by omega) (by omega)
    · have hw := hw.2 hc5
      refine lv_iload_n hx hb (xb_d D_Checker_checkMemory 14 rfl) rfl (lv_at hl 1 rfl) ?_
      refine lv_bipush (v := 63) hx hb (xb_d D_Checker_checkMemory 15 rfl) (by decide) ?_
      refine lv_icmp_le (tgt := 43) hx hb (xb_d D_Checker_checkMemory 16 rfl) rfl (fun hc17 => ?_) (fun hc17 => ?_)
      · have hw := hw.1 hc17
        exact am_Checker_checkMemory_L43 l hfl D A σ MC MS h0 Qr Qt x0 h2 (bc - c4) (bs - sc4) hw p e s m args below meth c hC H locs ls (k + c4) (n + sc4) hE (lv_sub hl [0] rfl) hR hS (by omega) (by omega)
      · have hw := hw.2 hc17
        refine lv_aload_n hx hb (xb_d D_Checker_checkMemory 17 rfl) rfl (lv_at hl 0 rfl) ?_
        refine lv_bipush (v := 127) hx hb (xb_d D_Checker_checkMemory 18 rfl) (by decide) ?_
        obtain ⟨hk18, hw⟩ := hw
        obtain ⟨c21, sc21, hlc21, hlsc21, hw⟩ := hw
        refine xb_call (D := D) (A := A) (σ := σ) (h := h2) (d := 3) (mc := c21) (ms := sc21) (maxL := 3) (rest := []) (av := [.ref x0, .int 127]) (fun T hT X => by obtain ⟨cb, r1, r2, r3⟩ := xb_recv (ci := 4) hR rfl hk18 (by decide); exact xt_invV X hx hown (hts _ m_0b33e20f) (hts _ m_338dda25) (hts _ m_d7dc08f9) (xt_sigOf (hts _ m_b71cce2b)) nm_Checker_take (by rw [hT]; exact r1) r2 r3 (g := F0 m 39 ls [.int 127, .ref x0]) rfl (argsL := [.int 127]) (rest := []) rfl rfl (by rw [hb]; exact (xb_d D_Checker_checkMemory 19 rfl))) (ok_Checker_take l hfl D A σ x0 127 h2 c21 sc21 _ _ hw) (hml.trans hl.1.symm) (by rw [hb]; exact (xb_d D_Checker_checkMemory 19 rfl)) (Nat.le_of_ble_eq_true rfl) (Nat.le_of_ble_eq_true rfl) (Nat.le_of_ble_eq_true rfl) (show (k + c4) + c21 ≤ MC by omega) (show (n + sc4) + sc21 ≤ MS by omega) (xt_w1 hB.1 m_b71cce2b) (xt_cdOf hB.1 m_b71cce2b) (hts _ m_44748ce5) hB hR hS hA (fun vv h19 H locs hq hEh19 hR hS => ?_) (fun XX ax h19 H locs hq hEh19 hex hR hS => ?_)
        · obtain ⟨r20, rfl, hw⟩ := hq
          have hw := hw hEh19
          have hE := hE.tr hEh19
          refine W.eq (g2 := F0 m 42 ls [.int r20]) rfl ?_
          refine lv_pop hx hb (xb_d D_Checker_checkMemory 20 rfl) rfl ?_
          exact am_Checker_checkMemory_L43 l hfl D A σ MC MS h0 Qr Qt x0 h19 ((bc - c4) - c21) ((bs - sc4) - sc21) hw p e s m args below meth c hC H locs ls ((k + c4) + c21) ((n + sc4) + sc21) hE (lv_sub hl [0] rfl) hR hS (by omega) (by omega)
        · exact xb_pass hlocks (fun x hx9 => by rw [htab] at hx9; first | cases hx9 | (simp [tableOf] at hx9; rcases hx9 with rfl | rfl | rfl <;> decide)) (show ((k + c4) + c21) ≤ MC by omega) (show ((n + sc4) + sc21) ≤ MS by omega) (hE.tr hEh19) hR hS hex hq
  · exact xb_pass hlocks (fun x hx9 => by rw [htab] at hx9; first | cases hx9 | (simp [tableOf] at hx9; rcases hx9 with rfl | rfl | rfl <;> decide)) (show (k + c4) ≤ MC by omega) (show (n + sc4) ≤ MS by omega) (hE.tr hEh2) hR hS hex hq

set_option maxHeartbeats 4000000 in
set_option maxRecDepth 100000 in
theorem ok_Checker_checkMemory (l : Launch) (hfl : l.flags = pinnedFlags ++ [noTraceFlag]) (D : va_G) (A : Nat → Prop) (σ : Nat) (x0 : Nat) (x1 : Int32) (h : xb_H) (bc : Nat) (bs : Nat) (Qr : xb_H → Prop) (Qt : String → xb_H → Prop) (hw : w_Checker_checkMemory x0 x1 h bc bs Qr Qt) : xt_Met l y_Checker_checkMemory [.code y_Checker_checkMemory b_Checker_checkMemory 4 none] (xb_rm 4 bc bs) (xb_Pc D A σ h [.ref x0, .int x1]) (xb_Qc D A h (fun v h => v = none ∧ Qr h) Qt) bc bs A := by
  refine xb_ofAm (cc := b_Checker_checkMemory) (by decide) (Nat.le_of_ble_eq_true rfl) ?_
  unfold w_Checker_checkMemory at hw
  show xb_am l D A σ 4 bc bs h (fun v h => v = none ∧ Qr h) Qt y_Checker_checkMemory.cls y_Checker_checkMemory.name b_Checker_checkMemory 4 ([] : List ExceptionTableEntry) none 0 [(0, .ref x0), (1, .int x1)] [] h bc bs
  obtain ⟨MC, hMC⟩ : ∃ x, x = bc := ⟨_, rfl⟩
  obtain ⟨MS, hMS⟩ : ∃ x, x = bs := ⟨_, rfl⟩
  rw [show xb_am l D A σ 4 bc bs = xb_am l D A σ 4 MC MS by rw [hMC, hMS]]
  obtain ⟨h0, hh0⟩ : ∃ x, x = h := ⟨_, rfl⟩
  rw [show xb_am l D A σ 4 MC MS h = xb_am l D A σ 4 MC MS h0 by rw [hh0]]
  intro p e s m args below meth c hC H locs ls k n hE hl hR hS hk hn
  obtain ⟨hx, hb, hown, hlocks, htab, hml, hr, hB, hA, hnm⟩ := id hC
  have hts := hB.1.1.at args
  refine lv_aload_n hx hb (xb_d D_Checker_checkMemory 0 rfl) rfl (lv_at hl 0 rfl) ?_
  refine lv_aload_n hx hb (xb_d D_Checker_checkMemory 1 rfl) rfl (lv_at hl 0 rfl) ?_
  obtain ⟨hk1, hw⟩ := hw
  refine xb_getP (C := R_Checker) (T := F_Checker) (N := 17) hx hb 4 0 hts fin_Checker hown hR hk1 (by decide) rfl (by decide) rfl (hts _ m_070795bc) (fun _ h9 => h9) (xb_d D_Checker_checkMemory 2 rfl) ?_
  obtain ⟨b2, eb2, hw⟩ := hw
  refine xb_some eb2 ?_
  obtain ⟨hk3, hw⟩ := hw
  refine xb_getP (C := R_StackModule) (T := F_StackModule) (N := 19) hx hb 2 6 hts fin_StackModule hown hR hk3 (by decide) rfl (by decide) rfl (hts _ m_f104cb1a) (fun _ h9 => h9) (xb_d D_Checker_checkMemory 3 rfl) ?_
  obtain ⟨b4, eb4, hw⟩ := hw
  refine xb_some eb4 ?_
  obtain ⟨hk5, hw⟩ := hw
  refine xb_call (D := D) (A := A) (σ := σ) (h := h) (d := 2) (mc := 0) (ms := 0) (maxL := 1) (rest := [.ref x0]) (av := [.ref b4]) (fun T hT X => by obtain ⟨cb, r1, r2, r3⟩ := xb_recv (ci := 1) hR rfl hk5 (by decide); exact xt_invV X hx hown (hts _ m_c8b950b4) (hts _ m_ded65609) (hts _ m_a4161156) (xt_sigOf (hts _ m_83ba3721)) nm_Row_lines (by rw [hT]; exact r1) r2 r3 (g := F0 m 8 ls [.ref b4, .ref x0]) rfl (argsL := []) (rest := [.ref x0]) rfl rfl (by rw [hb]; exact (xb_d D_Checker_checkMemory 4 rfl))) (ok_Row_lines l hfl D A σ b4 h _ hw) (hml.trans hl.1.symm) (by rw [hb]; exact (xb_d D_Checker_checkMemory 4 rfl)) (Nat.le_of_ble_eq_true rfl) (Nat.le_of_ble_eq_true rfl) (Nat.le_of_ble_eq_true rfl) (show k + 0 ≤ MC by omega) (show n + 0 ≤ MS by omega) (xt_w1 hB.1 m_83ba3721) (xt_cdOf hB.1 m_83ba3721) (hts _ m_c1bef504) hB hR hS hA (fun vv h6 H locs hq hEh6 hR hS => ?_) (fun XX ax h6 H locs hq hEh6 hex hR hS => ?_)
  · obtain ⟨r7, rfl, hw⟩ := hq
    have hw := hw hEh6
    have hE := hE.tr hEh6
    refine W.eq (g2 := F0 m 11 ls [.int r7, .ref x0]) rfl ?_
    refine lv_if_le (tgt := 18) hx hb (xb_d D_Checker_checkMemory 5 rfl) rfl (fun hc8 => ?_) (fun hc8 => ?_)
    · have hw := hw.1 hc8
      refine lv_iconst (v := 0) hx hb (xb_d D_Checker_checkMemory 8 rfl) (by decide) ?_
      exact am_Checker_checkMemory_L19 l hfl D A σ MC MS h0 Qr Qt x0 x1 0 x0 h6 bc bs hw p e s m args below meth c hC H locs ls k n hE (lv_sub hl [0, 1] rfl) hR hS (by omega) (by omega)
    · have hw := hw.2 hc8
      refine lv_iconst (v := 1) hx hb (xb_d D_Checker_checkMemory 6 rfl) (by decide) ?_
      refine lv_goto (tgt := 19) hx hb (xb_d D_Checker_checkMemory 7 rfl) rfl ?_
      exact am_Checker_checkMemory_L19 l hfl D A σ MC MS h0 Qr Qt x0 x1 1 x0 h6 bc bs hw p e s m args below meth c hC H locs ls k n hE (lv_sub hl [0, 1] rfl) hR hS (by omega) (by omega)
  · exact False.elim hq

theorem m_f84c9de3 : (.fieldLink "StackHost$Checker" 181 "StackHost$Checker" "type" "I" : Cond) ∈ xt_tbl := xt_in (xt_t1 (List.mem_of_getElem? (i := 85) (by decide +kernel))) (by decide +kernel)
theorem m_708ae6ef : (.fieldLink "StackHost$Checker" 216 "StackHost$Checker" "localCount" "I" : Cond) ∈ xt_tbl := xt_in (xt_t1 (List.mem_of_getElem? (i := 84) (by decide +kernel))) (by decide +kernel)
set_option maxRecDepth 100000 in
def T_Checker_checkNamed : List (Nat × Instr × Nat) := [(0, .aload_n 0, 1), (1, .getfield 51, 3), (4, .aload_n 0, 1), (5, .getfield 196, 3), (8, .iconst 1, 1), (9, .iadd, 1), (10, .iaload, 1), (11, .istore_n 2, 1), (12, .iload_n 1, 1), (13, .bipush 35, 2), (15, .if_icmp .ge 88, 3), (18, .aload_n 0, 1), (19, .getfield 38, 3), (22, .aload_n 0, 1), (23, .getfield 181, 3), (26, .invokevirtual 161, 3), (29, .istore_n 3, 1), (30, .aload_n 0, 1), (31, .iload_n 2, 1), (32, .i2l, 1), (33, .iload_n 3, 1), (34, .aload_n 0, 1), (35, .getfield 216, 3), (38, .iadd, 1), (39, .invokestatic 125, 3), (42, .bipush 20, 2), (44, .invokevirtual 254, 3), (47, .iload_n 2, 1), (48, .iload_n 3, 1), (49, .if_icmp .ge 18, 3), (52, .aload_n 0, 1), (53, .getfield 38, 3), (56, .aload_n 0, 1), (57, .getfield 181, 3), (60, .iload_n 2, 1), (61, .invokevirtual 264, 3), (64, .goto 11, 3), (67, .aload_n 0, 1), (68, .getfield 15, 3), (71, .iload_n 2, 1), (72, .iload_n 3, 1), (73, .isub, 1), (74, .baload, 1), (75, .istore 4, 2), (77, .iload_n 1, 1), (78, .bipush 32, 2), (80, .if_icmp .le 10, 3), (83, .aload_n 0, 1), (84, .iload 4, 2), (86, .invokevirtual 251, 3), (89, .pop, 1), (90, .iload_n 1, 1), (91, .bipush 33, 2), (93, .if_icmp .eq 9, 3), (96, .aload_n 0, 1), (97, .iload 4, 2), (99, .invokevirtual 236, 3), (102, .return_, 1), (103, .aload_n 0, 1), (104, .iload_n 2, 1), (105, .i2l, 1), (106, .aload_n 0, 1), (107, .getfield 38, 3), (110, .getfield 134, 3), (113, .invokevirtual 77, 3), (116, .invokestatic 125, 3), (119, .bipush 20, 2), (121, .invokevirtual 254, 3), (124, .aload_n 0, 1), (125, .getfield 38, 3), (128, .getfield 134, 3), (131, .iload_n 2, 1), (132, .iconst 1, 1), (133, .invokevirtual 90, 3), (136, .istore_n 3, 1), (137, .iload_n 1, 1), (138, .bipush 35, 2), (140, .if_icmp .ne 11, 3), (143, .aload_n 0, 1), (144, .iload_n 3, 1), (145, .invokevirtual 236, 3), (148, .goto 36, 3), (151, .aload_n 0, 1), (152, .aload_n 0, 1), (153, .getfield 38, 3), (156, .getfield 134, 3), (159, .iload_n 2, 1), (160, .iconst 2, 1), (161, .invokevirtual 90, 3), (164, .iconst 1, 1), (165, .if_icmp .ne 7, 3), (168, .iconst 1, 1), (169, .goto 4, 3), (172, .iconst 0, 1), (173, .bipush 23, 2), (175, .invokevirtual 254, 3), (178, .aload_n 0, 1), (179, .iload_n 3, 1), (180, .invokevirtual 251, 3), (183, .pop, 1), (184, .return_, 1)]
theorem D_Checker_checkNamed : ∀ q ∈ T_Checker_checkNamed, decode b_Checker_checkNamed q.1 = .ok (q.2.1, q.2.2) := by decide +kernel
def w_Checker_checkNamed_L184 (Qr : xb_H → Prop) (Qt : String → xb_H → Prop) (h : xb_H) (bc : Nat) (bs : Nat) : Prop :=
    Qr h

def w_Checker_checkNamed_L173 (Qr : xb_H → Prop) (Qt : String → xb_H → Prop) (x0 : Nat) (x3 : Int32) (y0 : Int32) (y1 : Nat) (h : xb_H) (bc : Nat) (bs : Nat) : Prop :=
    xb_k h y1 = 5 ∧ ∃ c4 sc4 : Nat, c4 ≤ bc ∧ sc4 ≤ bs ∧ w_Checker_require y1 y0 23 h c4 sc4 (fun (h2 : xb_H) => xb_ext h h2 → xb_k h2 x0 = 5 ∧ ∃ c8 sc8 : Nat, c8 ≤ (bc - c4) ∧ sc8 ≤ (bs - sc4) ∧ w_Checker_take x0 x3 h2 c8 sc8 (fun (r7 : Int32) (h6 : xb_H) => xb_ext h2 h6 → w_Checker_checkNamed_L184 Qr Qt h6 ((bc - c4) - c8) ((bs - sc4) - sc8)) Qt) Qt

def w_Checker_checkNamed_L102 (Qr : xb_H → Prop) (Qt : String → xb_H → Prop) (h : xb_H) (bc : Nat) (bs : Nat) : Prop :=
    Qr h

def w_Checker_checkNamed_L90 (Qr : xb_H → Prop) (Qt : String → xb_H → Prop) (x0 : Nat) (x1 : Int32) (x4 : Int32) (h : xb_H) (bc : Nat) (bs : Nat) : Prop :=
    ((x1 = (33 : Int32) → w_Checker_checkNamed_L102 Qr Qt h bc bs) ∧ (¬ x1 = (33 : Int32) → xb_k h x0 = 5 ∧ w_Checker_put x0 x4 h (fun (h3 : xb_H) => xb_ext h h3 → w_Checker_checkNamed_L102 Qr Qt h3 bc bs)))

def w_Checker_checkNamed_L75 (Qr : xb_H → Prop) (Qt : String → xb_H → Prop) (x0 : Nat) (x1 : Int32) (y0 : Int32) (h : xb_H) (bc : Nat) (bs : Nat) : Prop :=
    ((x1 ≤ (32 : Int32) → w_Checker_checkNamed_L90 Qr Qt x0 x1 y0 h bc bs) ∧ (¬ x1 ≤ (32 : Int32) → xb_k h x0 = 5 ∧ ∃ c5 sc5 : Nat, c5 ≤ bc ∧ sc5 ≤ bs ∧ w_Checker_take x0 y0 h c5 sc5 (fun (r4 : Int32) (h3 : xb_H) => xb_ext h h3 → w_Checker_checkNamed_L90 Qr Qt x0 x1 y0 h3 (bc - c5) (bs - sc5)) Qt))

def w_Checker_checkNamed (x0 : Nat) (x1 : Int32) (h : xb_H) (bc : Nat) (bs : Nat) (Qr : xb_H → Prop) (Qt : String → xb_H → Prop) : Prop :=
    xb_k h x0 = 5 ∧ ∃ b2 : Nat, (xb_r h x0 2) = some b2 ∧ xb_k h b2 = 102 ∧ vp_in ((xb_i h x0 9) + 1) (xb_n h b2) ∧ ∀ v5 : Int32, v5 = (xb_i h b2 (Int32.toNatClampNeg ((xb_i h x0 9) + 1))) → (((35 : Int32) ≤ x1 → ∃ b7 : Nat, (xb_r h x0 0) = some b7 ∧ xb_k h b7 = 3 ∧ ∃ b9 : Nat, (xb_r h b7 7) = some b9 ∧ xb_k h b9 = 2 ∧ w_Row_lines b9 h (fun (r12 : Int32) (h11 : xb_H) => xb_ext h h11 → w_Checker_isThere (Int32.toInt64 v5) r12 h11 (fun (r14 : Int32) (h13 : xb_H) => xb_ext h11 h13 → ∃ c17 sc17 : Nat, c17 ≤ bc ∧ sc17 ≤ bs ∧ w_Checker_require x0 r14 20 h13 c17 sc17 (fun (h15 : xb_H) => xb_ext h13 h15 → ∃ b18 : Nat, (xb_r h15 x0 0) = some b18 ∧ xb_k h15 b18 = 3 ∧ ∃ b20 : Nat, (xb_r h15 b18 7) = some b20 ∧ xb_k h15 b20 = 2 ∧ w_Row_at b20 v5 1 h15 (fun (r23 : Int32) (h22 : xb_H) => xb_ext h15 h22 → ((¬ x1 = (35 : Int32) → ∃ b25 : Nat, (xb_r h22 x0 0) = some b25 ∧ xb_k h22 b25 = 3 ∧ ∃ b27 : Nat, (xb_r h22 b25 7) = some b27 ∧ xb_k h22 b27 = 2 ∧ w_Row_at b27 v5 2 h22 (fun (r30 : Int32) (h29 : xb_H) => xb_ext h22 h29 → ((¬ r30 = (1 : Int32) → w_Checker_checkNamed_L173 Qr Qt x0 r23 0 x0 h29 (bc - c17) (bs - sc17)) ∧ (r30 = (1 : Int32) → w_Checker_checkNamed_L173 Qr Qt x0 r23 1 x0 h29 (bc - c17) (bs - sc17))))) ∧ (x1 = (35 : Int32) → w_Checker_put x0 r23 h22 (fun (h32 : xb_H) => xb_ext h22 h32 → w_Checker_checkNamed_L184 Qr Qt h32 (bc - c17) (bs - sc17)))))) Qt))) ∧ (¬ (35 : Int32) ≤ x1 → ∃ b34 : Nat, (xb_r h x0 0) = some b34 ∧ xb_k h b34 = 3 ∧ w_StackModule_parameters b34 (xb_i h x0 8) h (fun (r37 : Int32) (h36 : xb_H) => xb_ext h h36 → w_Checker_isThere (Int32.toInt64 v5) (r37 + (xb_i h36 x0 7)) h36 (fun (r39 : Int32) (h38 : xb_H) => xb_ext h36 h38 → ∃ c42 sc42 : Nat, c42 ≤ bc ∧ sc42 ≤ bs ∧ w_Checker_require x0 r39 20 h38 c42 sc42 (fun (h40 : xb_H) => xb_ext h38 h40 → ((r37 ≤ v5 → ∃ b44 : Nat, (xb_r h40 x0 6) = some b44 ∧ xb_k h40 b44 = 100 ∧ vp_in (v5 - r37) (xb_n h40 b44) ∧ w_Checker_checkNamed_L75 Qr Qt x0 x1 (xb_i h40 b44 (Int32.toNatClampNeg (v5 - r37))) h40 (bc - c42) (bs - sc42)) ∧ (¬ r37 ≤ v5 → ∃ b47 : Nat, (xb_r h40 x0 0) = some b47 ∧ xb_k h40 b47 = 3 ∧ w_StackModule_parameterType b47 (xb_i h40 x0 8) v5 h40 (fun (r50 : Int32) (h49 : xb_H) => xb_ext h40 h49 → w_Checker_checkNamed_L75 Qr Qt x0 x1 r50 h49 (bc - c42) (bs - sc42))))) Qt))))

set_option maxHeartbeats 4000000 in
set_option maxRecDepth 100000 in
theorem am_Checker_checkNamed_L184 (l : Launch) (hfl : l.flags = pinnedFlags ++ [noTraceFlag]) (D : va_G) (A : Nat → Prop) (σ MC MS : Nat) (h0 : xb_H) (Qr : xb_H → Prop) (Qt : String → xb_H → Prop) (h : xb_H) (bc : Nat) (bs : Nat) (hw : w_Checker_checkNamed_L184 Qr Qt h bc bs) : xb_am l D A σ 4 MC MS h0 (fun v h => v = none ∧ Qr h) Qt y_Checker_checkNamed.cls y_Checker_checkNamed.name b_Checker_checkNamed 5 ([] : List ExceptionTableEntry) none 184 [] [] h bc bs := by
  unfold w_Checker_checkNamed_L184 at hw
  intro p e s m args below meth c hC H locs ls k n hE hl hR hS hk hn
  obtain ⟨hx, hb, hown, hlocks, htab, hml, hr, hB, hA, hnm⟩ := id hC
  have hts := hB.1.1.at args
  exact xb_vret hx hb hr hlocks (show k ≤ MC by omega) (show n ≤ MS by omega) hE hR hS (xb_d D_Checker_checkNamed 100 rfl) hw

set_option maxHeartbeats 4000000 in
set_option maxRecDepth 100000 in
theorem am_Checker_checkNamed_L173 (l : Launch) (hfl : l.flags = pinnedFlags ++ [noTraceFlag]) (D : va_G) (A : Nat → Prop) (σ MC MS : Nat) (h0 : xb_H) (Qr : xb_H → Prop) (Qt : String → xb_H → Prop) (x0 : Nat) (x3 : Int32) (y0 : Int32) (y1 : Nat) (h : xb_H) (bc : Nat) (bs : Nat) (hw : w_Checker_checkNamed_L173 Qr Qt x0 x3 y0 y1 h bc bs) : xb_am l D A σ 4 MC MS h0 (fun v h => v = none ∧ Qr h) Qt y_Checker_checkNamed.cls y_Checker_checkNamed.name b_Checker_checkNamed 5 ([] : List ExceptionTableEntry) none 173 [(0, .ref x0), (3, .int x3)] [.int y0, .ref y1] h bc bs := by
  unfold w_Checker_checkNamed_L173 at hw
  intro p e s m args below meth c hC H locs ls k n hE hl hR hS hk hn
  obtain ⟨hx, hb, hown, hlocks, htab, hml, hr, hB, hA, hnm⟩ := id hC
  have hts := hB.1.1.at args
  refine lv_bipush (v := 23) hx hb (xb_d D_Checker_checkNamed 94 rfl) (by decide) ?_
  obtain ⟨hk1, hw⟩ := hw
  obtain ⟨c4, sc4, hlc4, hlsc4, hw⟩ := hw
  refine xb_call (D := D) (A := A) (σ := σ) (h := h) (d := 3) (mc := c4) (ms := sc4) (maxL := 3) (rest := []) (av := [.ref y1, .int y0, .int 23]) (fun T hT X => by obtain ⟨cb, r1, r2, r3⟩ := xb_recv (ci := 4) hR rfl hk1 (by decide); exact xt_invV X hx hown (hts _ m_0a242445) (hts _ m_a99c45f7) (hts _ m_978d7491) (xt_sigOf (hts _ m_01f2fc97)) nm_Checker_require (by rw [hT]; exact r1) r2 r3 (g := F0 m 175 ls [.int 23, .int y0, .ref y1]) rfl (argsL := [.int y0, .int 23]) (rest := []) rfl rfl (by rw [hb]; exact (xb_d D_Checker_checkNamed 95 rfl))) (ok_Checker_require l hfl D A σ y1 y0 23 h c4 sc4 _ _ hw) (hml.trans hl.1.symm) (by rw [hb]; exact (xb_d D_Checker_checkNamed 95 rfl)) (Nat.le_of_ble_eq_true rfl) (Nat.le_of_ble_eq_true rfl) (Nat.le_of_ble_eq_true rfl) (show k + c4 ≤ MC by omega) (show n + sc4 ≤ MS by omega) (xt_w1 hB.1 m_01f2fc97) (xt_cdOf hB.1 m_01f2fc97) (hts _ m_44748ce5) hB hR hS hA (fun vv h2 H locs hq hEh2 hR hS => ?_) (fun XX ax h2 H locs hq hEh2 hex hR hS => ?_)
  · obtain ⟨rfl, hw⟩ := hq
    have hw := hw hEh2
    have hE := hE.tr hEh2
    refine W.eq (g2 := F0 m 178 ls []) rfl ?_
    refine lv_aload_n hx hb (xb_d D_Checker_checkNamed 96 rfl) rfl (lv_at hl 0 rfl) ?_
    refine lv_iload_n hx hb (xb_d D_Checker_checkNamed 97 rfl) rfl (lv_at hl 1 rfl) ?_
    obtain ⟨hk5, hw⟩ := hw
    obtain ⟨c8, sc8, hlc8, hlsc8, hw⟩ := hw
    refine xb_call (D := D) (A := A) (σ := σ) (h := h2) (d := 3) (mc := c8) (ms := sc8) (maxL := 3) (rest := []) (av := [.ref x0, .int x3]) (fun T hT X => by obtain ⟨cb, r1, r2, r3⟩ := xb_recv (ci := 4) hR rfl hk5 (by decide); exact xt_invV X hx hown (hts _ m_0b33e20f) (hts _ m_338dda25) (hts _ m_d7dc08f9) (xt_sigOf (hts _ m_b71cce2b)) nm_Checker_take (by rw [hT]; exact r1) r2 r3 (g := F0 m 180 ls [.int x3, .ref x0]) rfl (argsL := [.int x3]) (rest := []) rfl rfl (by rw [hb]; exact (xb_d D_Checker_checkNamed 98 rfl))) (ok_Checker_take l hfl D A σ x0 x3 h2 c8 sc8 _ _ hw) (hml.trans hl.1.symm) (by rw [hb]; exact (xb_d D_Checker_checkNamed 98 rfl)) (Nat.le_of_ble_eq_true rfl) (Nat.le_of_ble_eq_true rfl) (Nat.le_of_ble_eq_true rfl) (show (k + c4) + c8 ≤ MC by omega) (show (n + sc4) + sc8 ≤ MS by omega) (xt_w1 hB.1 m_b71cce2b) (xt_cdOf hB.1 m_b71cce2b) (hts _ m_44748ce5) hB hR hS hA (fun vv h6 H locs hq hEh6 hR hS => ?_) (fun XX ax h6 H locs hq hEh6 hex hR hS => ?_)
    · obtain ⟨r7, rfl, hw⟩ := hq
      have hw := hw hEh6
      have hE := hE.tr hEh6
      refine W.eq (g2 := F0 m 183 ls [.int r7]) rfl ?_
      refine lv_pop hx hb (xb_d D_Checker_checkNamed 99 rfl) rfl ?_
      exact am_Checker_checkNamed_L184 l hfl D A σ MC MS h0 Qr Qt h6 ((bc - c4) - c8) ((bs - sc4) - sc8) hw p e s m args below meth c hC H locs ls ((k + c4) + c8) ((n + sc4) + sc8) hE (lv_sub hl [] rfl) hR hS (by omega) (by omega)
    · exact xb_pass hlocks (fun x hx9 => by rw [htab] at hx9; first | cases hx9 | (simp [tableOf] at hx9; rcases hx9 with rfl | rfl | rfl <;> decide)) (show ((k + c4) + c8) ≤ MC by omega) (show ((n + sc4) + sc8) ≤ MS by omega) (hE.tr hEh6) hR hS hex hq
  · exact xb_pass hlocks (fun x hx9 => by rw [htab] at hx9; first | cases hx9 | (simp [tableOf] at hx9; rcases hx9 with rfl | rfl | rfl <;> decide)) (show (k + c4) ≤ MC by omega) (show (n + sc4) ≤ MS by omega) (hE.tr hEh2) hR hS hex hq

set_option maxHeartbeats 4000000 in
set_option maxRecDepth 100000 in
theorem am_Checker_checkNamed_L102 (l : Launch) (hfl : l.flags = pinnedFlags ++ [noTraceFlag]) (D : va_G) (A : Nat → Prop) (σ MC MS : Nat) (h0 : xb_H) (Qr : xb_H → Prop) (Qt : String → xb_H → Prop) (h : xb_H) (bc : Nat) (bs : Nat) (hw : w_Checker_checkNamed_L102 Qr Qt h bc bs) : xb_am l D A σ 4 MC MS h0 (fun v h => v = none ∧ Qr h) Qt y_Checker_checkNamed.cls y_Checker_checkNamed.name b_Checker_checkNamed 5 ([] : List ExceptionTableEntry) none 102 [] [] h bc bs := by
  unfold w_Checker_checkNamed_L102 at hw
  intro p e s m args below meth c hC H locs ls k n hE hl hR hS hk hn
  obtain ⟨hx, hb, hown, hlocks, htab, hml, hr, hB, hA, hnm⟩ := id hC
  have hts := hB.1.1.at args
  exact xb_vret hx hb hr hlocks (show k ≤ MC by omega) (show n ≤ MS by omega) hE hR hS (xb_d D_Checker_checkNamed 57 rfl) hw

set_option maxHeartbeats 4000000 in
set_option maxRecDepth 100000 in
theorem am_Checker_checkNamed_L90 (l : Launch) (hfl : l.flags = pinnedFlags ++ [noTraceFlag]) (D : va_G) (A : Nat → Prop) (σ MC MS : Nat) (h0 : xb_H) (Qr : xb_H → Prop) (Qt : String → xb_H → Prop) (x0 : Nat) (x1 : Int32) (x4 : Int32) (h : xb_H) (bc : Nat) (bs : Nat) (hw : w_Checker_checkNamed_L90 Qr Qt x0 x1 x4 h bc bs) : xb_am l D A σ 4 MC MS h0 (fun v h => v = none ∧ Qr h) Qt y_Checker_checkNamed.cls y_Checker_checkNamed.name b_Checker_checkNamed 5 ([] : List ExceptionTableEntry) none 90 [(0, .ref x0), (1, .int x1), (4, .int x4)] [] h bc bs := by
  unfold w_Checker_checkNamed_L90 at hw
  intro p e s m args below meth c hC H locs ls k n hE hl hR hS hk hn
  obtain ⟨hx, hb, hown, hlocks, htab, hml, hr, hB, hA, hnm⟩ := id hC
  have hts := hB.1.1.at args
  refine lv_iload_n hx hb (xb_d D_Checker_checkNamed 51 rfl) rfl (lv_at hl 1 rfl) ?_
  refine lv_bipush (v := 33) hx hb (xb_d D_Checker_checkNamed 52 rfl) (by decide) ?_
  refine lv_icmp_eq (tgt := 102) hx hb (xb_d D_Checker_checkNamed 53 rfl) rfl (fun hc1 => ?_) (fun hc1 => ?_)
  · have hw := hw.1 hc1
    exact am_Checker_checkNamed_L102 l hfl D A σ MC MS h0 Qr Qt h bc bs hw p e s m args below meth c hC H locs ls k n hE (lv_sub hl [] rfl) hR hS (by omega) (by omega)
  · have hw := hw.2 hc1
    refine lv_aload_n hx hb (xb_d D_Checker_checkNamed 54 rfl) rfl (lv_at hl 0 rfl) ?_
    refine lv_iload hx hb (xb_d D_Checker_checkNamed 55 rfl) (lv_at hl 2 rfl) ?_
    obtain ⟨hk2, hw⟩ := hw
    refine xb_call (D := D) (A := A) (σ := σ) (h := h) (d := 2) (mc := 0) (ms := 0) (maxL := 2) (rest := []) (av := [.ref x0, .int x4]) (fun T hT X => by obtain ⟨cb, r1, r2, r3⟩ := xb_recv (ci := 4) hR rfl hk2 (by decide); exact xt_invV X hx hown (hts _ m_761ff7fc) (hts _ m_e867be1e) (hts _ m_098fc344) (xt_sigOf (hts _ m_43ff17c7)) nm_Checker_put (by rw [hT]; exact r1) r2 r3 (g := F0 m 99 ls [.int x4, .ref x0]) rfl (argsL := [.int x4]) (rest := []) rfl rfl (by rw [hb]; exact (xb_d D_Checker_checkNamed 56 rfl))) (ok_Checker_put l hfl D A σ x0 x4 h _ hw) (hml.trans hl.1.symm) (by rw [hb]; exact (xb_d D_Checker_checkNamed 56 rfl)) (Nat.le_of_ble_eq_true rfl) (Nat.le_of_ble_eq_true rfl) (Nat.le_of_ble_eq_true rfl) (show k + 0 ≤ MC by omega) (show n + 0 ≤ MS by omega) (xt_w1 hB.1 m_43ff17c7) (xt_cdOf hB.1 m_43ff17c7) (hts _ m_44748ce5) hB hR hS hA (fun vv h3 H locs hq hEh3 hR hS => ?_) (fun XX ax h3 H locs hq hEh3 hex hR hS => ?_)
    · obtain ⟨rfl, hw⟩ := hq
      have hw := hw hEh3
      have hE := hE.tr hEh3
      refine W.eq (g2 := F0 m 102 ls []) rfl ?_
      exact am_Checker_checkNamed_L102 l hfl D A σ MC MS h0 Qr Qt h3 bc bs hw p e s m args below meth c hC H locs ls k n hE (lv_sub hl [] rfl) hR hS (by omega) (by omega)
    · exact False.elim hq

set_option maxHeartbeats 4000000 in
set_option maxRecDepth 100000 in
theorem am_Checker_checkNamed_L75 (l : Launch) (hfl : l.flags = pinnedFlags ++ [noTraceFlag]) (D : va_G) (A : Nat → Prop) (σ MC MS : Nat) (h0 : xb_H) (Qr : xb_H → Prop) (Qt : String → xb_H → Prop) (x0 : Nat) (x1 : Int32) (y0 : Int32) (h : xb_H) (bc : Nat) (bs : Nat) (hw : w_Checker_checkNamed_L75 Qr Qt x0 x1 y0 h bc bs) : xb_am l D A σ 4 MC MS h0 (fun v h => v = none ∧ Qr h) Qt y_Checker_checkNamed.cls y_Checker_checkNamed.name b_Checker_checkNamed 5 ([] : List ExceptionTableEntry) none 75 [(0, .ref x0), (1, .int x1)] [.int y0] h bc bs := by
  unfold w_Checker_checkNamed_L75 at hw
  intro p e s m args below meth c hC H locs ls k n hE hl hR hS hk hn
  obtain ⟨hx, hb, hown, hlocks, htab, hml, hr, hB, hA, hnm⟩ := id hC
  have hts := hB.1.1.at args
  refine lv_istore hx hb (xb_d D_Checker_checkNamed 43 rfl) hl (by decide) rfl (fun ls hl => ?_)
  have hl : lv_has ls 5 [(4, .int y0), (0, .ref x0), (1, .int x1)] := hl
  refine lv_iload_n hx hb (xb_d D_Checker_checkNamed 44 rfl) rfl (lv_at hl 2 rfl) ?_
  refine lv_bipush (v := 32) hx hb (xb_d D_Checker_checkNamed 45 rfl) (by decide) ?_
  refine lv_icmp_le (tgt := 90) hx hb (xb_d D_Checker_checkNamed 46 rfl) rfl (fun hc1 => ?_) (fun hc1 => ?_)
  · have hw := hw.1 hc1
    exact am_Checker_checkNamed_L90 l hfl D A σ MC MS h0 Qr Qt x0 x1 y0 h bc bs hw p e s m args below meth c hC H locs ls k n hE (lv_sub hl [1, 2, 0] rfl) hR hS (by omega) (by omega)
  · have hw := hw.2 hc1
    refine lv_aload_n hx hb (xb_d D_Checker_checkNamed 47 rfl) rfl (lv_at hl 1 rfl) ?_
    refine lv_iload hx hb (xb_d D_Checker_checkNamed 48 rfl) (lv_at hl 0 rfl) ?_
    obtain ⟨hk2, hw⟩ := hw
    obtain ⟨c5, sc5, hlc5, hlsc5, hw⟩ := hw
    refine xb_call (D := D) (A := A) (σ := σ) (h := h) (d := 3) (mc := c5) (ms := sc5) (maxL := 3) (rest := []) (av := [.ref x0, .int y0]) (fun T hT X => by obtain ⟨cb, r1, r2, r3⟩ := xb_recv (ci := 4) hR rfl hk2 (by decide); exact xt_invV X hx hown (hts _ m_0b33e20f) (hts _ m_338dda25) (hts _ m_d7dc08f9) (xt_sigOf (hts _ m_b71cce2b)) nm_Checker_take (by rw [hT]; exact r1) r2 r3 (g := F0 m 86 ls [.int y0, .ref x0]) rfl (argsL := [.int y0]) (rest := []) rfl rfl (by rw [hb]; exact (xb_d D_Checker_checkNamed 49 rfl))) (ok_Checker_take l hfl D A σ x0 y0 h c5 sc5 _ _ hw) (hml.trans hl.1.symm) (by rw [hb]; exact (xb_d D_Checker_checkNamed 49 rfl)) (Nat.le_of_ble_eq_true rfl) (Nat.le_of_ble_eq_true rfl) (Nat.le_of_ble_eq_true rfl) (show k + c5 ≤ MC by omega) (show n + sc5 ≤ MS by omega) (xt_w1 hB.1 m_b71cce2b) (xt_cdOf hB.1 m_b71cce2b) (hts _ m_44748ce5) hB hR hS hA (fun vv h3 H locs hq hEh3 hR hS => ?_) (fun XX ax h3 H locs hq hEh3 hex hR hS => ?_)
    · obtain ⟨r4, rfl, hw⟩ := hq
      have hw := hw hEh3
      have hE := hE.tr hEh3
      refine W.eq (g2 := F0 m 89 ls [.int r4]) rfl ?_
      refine lv_pop hx hb (xb_d D_Checker_checkNamed 50 rfl) rfl ?_
      exact am_Checker_checkNamed_L90 l hfl D A σ MC MS h0 Qr Qt x0 x1 y0 h3 (bc - c5) (bs - sc5) hw p e s m args below meth c hC H locs ls (k + c5) (n + sc5) hE (lv_sub hl [1, 2, 0] rfl) hR hS (by omega) (by omega)
    · exact xb_pass hlocks (fun x hx9 => by rw [htab] at hx9; first | cases hx9 | (simp [tableOf] at hx9; rcases hx9 with rfl | rfl | rfl <;> decide)) (show (k + c5) ≤ MC by omega) (show (n + sc5) ≤ MS by omega) (hE.tr hEh3) hR hS hex hq

set_option maxHeartbeats 4000000 in
set_option maxRecDepth 100000 in
theorem ok_Checker_checkNamed (l : Launch) (hfl : l.flags = pinnedFlags ++ [noTraceFlag]) (D : va_G) (A : Nat → Prop) (σ : Nat) (x0 : Nat) (x1 : Int32) (h : xb_H) (bc : Nat) (bs : Nat) (Qr : xb_H → Prop) (Qt : String → xb_H → Prop) (hw : w_Checker_checkNamed x0 x1 h bc bs Qr Qt) : xt_Met l y_Checker_checkNamed [.code y_Checker_checkNamed b_Checker_checkNamed 5 none] (xb_rm 4 bc bs) (xb_Pc D A σ h [.ref x0, .int x1]) (xb_Qc D A h (fun v h => v = none ∧ Qr h) Qt) bc bs A := by
  refine xb_ofAm (cc := b_Checker_checkNamed) (by decide) (Nat.le_of_ble_eq_true rfl) ?_
  unfold w_Checker_checkNamed at hw
  show xb_am l D A σ 4 bc bs h (fun v h => v = none ∧ Qr h) Qt y_Checker_checkNamed.cls y_Checker_checkNamed.name b_Checker_checkNamed 5 ([] : List ExceptionTableEntry) none 0 [(0, .ref x0), (1, .int x1)] [] h bc bs
  obtain ⟨MC, hMC⟩ : ∃ x, x = bc := ⟨_, rfl⟩
  obtain ⟨MS, hMS⟩ : ∃ x, x = bs := ⟨_, rfl⟩
  rw [show xb_am l D A σ 4 bc bs = xb_am l D A σ 4 MC MS by rw [hMC, hMS]]
  obtain ⟨h0, hh0⟩ : ∃ x, x = h := ⟨_, rfl⟩
  rw [show xb_am l D A σ 4 MC MS h = xb_am l D A σ 4 MC MS h0 by rw [hh0]]
  intro p e s m args below meth c hC H locs ls k n hE hl hR hS hk hn
  obtain ⟨hx, hb, hown, hlocks, htab, hml, hr, hB, hA, hnm⟩ := id hC
  have hts := hB.1.1.at args
  refine lv_aload_n hx hb (xb_d D_Checker_checkNamed 0 rfl) rfl (lv_at hl 0 rfl) ?_
  obtain ⟨hk1, hw⟩ := hw
  refine xb_getP (C := R_Checker) (T := F_Checker) (N := 17) hx hb 4 2 hts fin_Checker hown hR hk1 (by decide) rfl (by decide) rfl (hts _ m_b5ef1148) (fun _ h9 => h9) (xb_d D_Checker_checkNamed 1 rfl) ?_
  obtain ⟨b2, eb2, hw⟩ := hw
  refine xb_some eb2 ?_
  refine lv_aload_n hx hb (xb_d D_Checker_checkNamed 2 rfl) rfl (lv_at hl 0 rfl) ?_
  refine xb_getI (C := R_Checker) (T := F_Checker) (N := 17) hx hb 4 9 hts fin_Checker hown hR hk1 (by decide) rfl (by decide) rfl (hts _ m_28193d38) (fun _ h9 => h9) (xb_d D_Checker_checkNamed 3 rfl) ?_
  refine lv_iconst (v := 1) hx hb (xb_d D_Checker_checkNamed 4 rfl) (by decide) ?_
  refine lv_iadd hx hb (xb_d D_Checker_checkNamed 5 rfl) ?_
  obtain ⟨hk4, hw⟩ := hw
  obtain ⟨hi3, hw⟩ := hw
  refine xb_iald hx hb hR hk4 hi3 (xb_d D_Checker_checkNamed 6 rfl) ?_
  obtain ⟨v5, ev5⟩ : ∃ x : Int32, x = (xb_i h b2 (Int32.toNatClampNeg ((xb_i h x0 9) + 1))) := ⟨_, rfl⟩
  have hw := hw v5 ev5
  refine xt_numi (y := v5) ev5.symm ?_
  refine lv_istore_n hx hb (xb_d D_Checker_checkNamed 7 rfl) rfl hl (by decide) rfl (fun ls hl => ?_)
  have hl : lv_has ls 5 [(2, .int v5), (0, .ref x0), (1, .int x1)] := hl
  refine lv_iload_n hx hb (xb_d D_Checker_checkNamed 8 rfl) rfl (lv_at hl 2 rfl) ?_
  refine lv_bipush (v := 35) hx hb (xb_d D_Checker_checkNamed 9 rfl) (by decide) ?_
  refine lv_icmp_ge (tgt := 103) hx hb (xb_d D_Checker_checkNamed 10 rfl) rfl (fun hc6 => ?_) (fun hc6 => ?_)
  · have hw := hw.1 hc6
    refine lv_aload_n hx hb (xb_d D_Checker_checkNamed 58 rfl) rfl (lv_at hl 1 rfl) ?_
    refine lv_iload_n hx hb (xb_d D_Checker_checkNamed 59 rfl) rfl (lv_at hl 0 rfl) ?_
    refine lv_i2l hx hb (xb_d D_Checker_checkNamed 60 rfl) rfl ?_
    refine lv_aload_n hx hb (xb_d D_Checker_checkNamed 61 rfl) rfl (lv_at hl 1 rfl) ?_
    refine xb_getP (C := R_Checker) (T := F_Checker) (N := 17) hx hb 4 0 hts fin_Checker hown hR hk1 (by decide) rfl (by decide) rfl (hts _ m_070795bc) (fun _ h9 => h9) (xb_d D_Checker_checkNamed 62 rfl) ?_
    obtain ⟨b7, eb7, hw⟩ := hw
    refine xb_some eb7 ?_
    obtain ⟨hk8, hw⟩ := hw
    refine xb_getP (C := R_StackModule) (T := F_StackModule) (N := 19) hx hb 2 7 hts fin_StackModule hown hR hk8 (by decide) rfl (by decide) rfl (hts _ m_d3e8f814) (fun _ h9 => h9) (xb_d D_Checker_checkNamed 63 rfl) ?_
    obtain ⟨b9, eb9, hw⟩ := hw
    refine xb_some eb9 ?_
    obtain ⟨hk10, hw⟩ := hw
    refine xb_call (D := D) (A := A) (σ := σ) (h := h) (d := 2) (mc := 0) (ms := 0) (maxL := 1) (rest := [.long (Int32.toInt64 v5), .ref x0]) (av := [.ref b9]) (fun T hT X => by obtain ⟨cb, r1, r2, r3⟩ := xb_recv (ci := 1) hR rfl hk10 (by decide); exact xt_invV X hx hown (hts _ m_c8b950b4) (hts _ m_ded65609) (hts _ m_a4161156) (xt_sigOf (hts _ m_83ba3721)) nm_Row_lines (by rw [hT]; exact r1) r2 r3 (g := F0 m 113 ls [.ref b9, .long (Int32.toInt64 v5), .ref x0]) rfl (argsL := []) (rest := [.long (Int32.toInt64 v5), .ref x0]) rfl rfl (by rw [hb]; exact (xb_d D_Checker_checkNamed 64 rfl))) (ok_Row_lines l hfl D A σ b9 h _ hw) (hml.trans hl.1.symm) (by rw [hb]; exact (xb_d D_Checker_checkNamed 64 rfl)) (Nat.le_of_ble_eq_true rfl) (Nat.le_of_ble_eq_true rfl) (Nat.le_of_ble_eq_true rfl) (show k + 0 ≤ MC by omega) (show n + 0 ≤ MS by omega) (xt_w1 hB.1 m_83ba3721) (xt_cdOf hB.1 m_83ba3721) (hts _ m_c1bef504) hB hR hS hA (fun vv h11 H locs hq hEh11 hR hS => ?_) (fun XX ax h11 H locs hq hEh11 hex hR hS => ?_)
    · obtain ⟨r12, rfl, hw⟩ := hq
      have hw := hw hEh11
      have hE := hE.tr hEh11
      refine W.eq (g2 := F0 m 116 ls [.int r12, .long (Int32.toInt64 v5), .ref x0]) rfl ?_
      refine xb_call (D := D) (A := A) (σ := σ) (h := h11) (d := 2) (mc := 0) (ms := 0) (maxL := 3) (rest := [.ref x0]) (av := [.long (Int32.toInt64 v5), .int r12]) (fun T hT X => xt_invS X hx hown (hts _ m_fe08b245) (hts _ m_9ad1e0af) (hts _ m_44748ce5) (xt_sgS (hts _ m_2237aee6)).1 (xt_sgS (hts _ m_2237aee6)).2 nm_Checker_isThere (g := F0 m 116 ls [.int r12, .long (Int32.toInt64 v5), .ref x0]) rfl (argsL := [.long (Int32.toInt64 v5), .int r12]) (rest := [.ref x0]) rfl rfl (by rw [hb]; exact (xb_d D_Checker_checkNamed 65 rfl))) (ok_Checker_isThere l hfl D A σ (Int32.toInt64 v5) r12 h11 _ hw) (hml.trans hl.1.symm) (by rw [hb]; exact (xb_d D_Checker_checkNamed 65 rfl)) (Nat.le_of_ble_eq_true rfl) (Nat.le_of_ble_eq_true rfl) (Nat.le_of_ble_eq_true rfl) (show k + 0 ≤ MC by omega) (show n + 0 ≤ MS by omega) (xt_w1 hB.1 m_2237aee6) (xt_cdOf hB.1 m_2237aee6) (hts _ m_44748ce5) hB hR hS hA (fun vv h13 H locs hq hEh13 hR hS => ?_) (fun XX ax h13 H locs hq hEh13 hex hR hS => ?_)
      · obtain ⟨r14, rfl, hw⟩ := hq
        have hw := hw hEh13
        have hE := hE.tr hEh13
        refine W.eq (g2 := F0 m 119 ls [.int r14, .ref x0]) rfl ?_
        refine lv_bipush (v := 20) hx hb (xb_d D_Checker_checkNamed 66 rfl) (by decide) ?_
        have hk1 : xb_k h11 x0 = 5 := hEh11.k hk1
        have hk1 : xb_k h13 x0 = 5 := hEh13.k hk1
        obtain ⟨c17, sc17, hlc17, hlsc17, hw⟩ := hw
        refine xb_call (D := D) (A := A) (σ := σ) (h := h13) (d := 3) (mc := c17) (ms := sc17) (maxL := 3) (rest := []) (av := [.ref x0, .int r14, .int 20]) (fun T hT X => by obtain ⟨cb, r1, r2, r3⟩ := xb_recv (ci := 4) hR rfl hk1 (by decide); exact xt_invV X hx hown (hts _ m_0a242445) (hts _ m_a99c45f7) (hts _ m_978d7491) (xt_sigOf (hts _ m_01f2fc97)) nm_Checker_require (by rw [hT]; exact r1) r2 r3 (g := F0 m 121 ls [.int 20, .int r14, .ref x0]) rfl (argsL := [.int r14, .int 20]) (rest := []) rfl rfl (by rw [hb]; exact (xb_d D_Checker_checkNamed 67 rfl))) (ok_Checker_require l hfl D A σ x0 r14 20 h13 c17 sc17 _ _ hw) (hml.trans hl.1.symm) (by rw [hb]; exact (xb_d D_Checker_checkNamed 67 rfl)) (Nat.le_of_ble_eq_true rfl) (Nat.le_of_ble_eq_true rfl) (Nat.le_of_ble_eq_true rfl) (show k + c17 ≤ MC by omega) (show n + sc17 ≤ MS by omega) (xt_w1 hB.1 m_01f2fc97) (xt_cdOf hB.1 m_01f2fc97) (hts _ m_44748ce5) hB hR hS hA (fun vv h15 H locs hq hEh15 hR hS => ?_) (fun XX ax h15 H locs hq hEh15 hex hR hS => ?_)
        · obtain ⟨rfl, hw⟩ := hq
          have hw := hw hEh15
          have hE := hE.tr hEh15
          refine W.eq (g2 := F0 m 124 ls []) rfl ?_
          refine lv_aload_n hx hb (xb_d D_Checker_checkNamed 68 rfl) rfl (lv_at hl 1 rfl) ?_
          have hk1 : xb_k h15 x0 = 5 := hEh15.k hk1
          refine xb_getP (C := R_Checker) (T := F_Checker) (N := 17) hx hb 4 0 hts fin_Checker hown hR hk1 (by decide) rfl (by decide) rfl (hts _ m_070795bc) (fun _ h9 => h9) (xb_d D_Checker_checkNamed 69 rfl) ?_
          obtain ⟨b18, eb18, hw⟩ := hw
          refine xb_some eb18 ?_
          obtain ⟨hk19, hw⟩ := hw
          refine xb_getP (C := R_StackModule) (T := F_StackModule) (N := 19) hx hb 2 7 hts fin_StackModule hown hR hk19 (by decide) rfl (by decide) rfl (hts _ m_d3e8f814) (fun _ h9 => h9) (xb_d D_Checker_checkNamed 70 rfl) ?_
          obtain ⟨b20, eb20, hw⟩ := hw
          refine xb_some eb20 ?_
          refine lv_iload_n hx hb (xb_d D_Checker_checkNamed 71 rfl) rfl (lv_at hl 0 rfl) ?_
          refine lv_iconst (v := 1) hx hb (xb_d D_Checker_checkNamed 72 rfl) (by decide) ?_
          obtain ⟨hk21, hw⟩ := hw
          refine xb_call (D := D) (A := A) (σ := σ) (h := h15) (d := 2) (mc := 0) (ms := 0) (maxL := 3) (rest := []) (av := [.ref b20, .int v5, .int 1]) (fun T hT X => by obtain ⟨cb, r1, r2, r3⟩ := xb_recv (ci := 1) hR rfl hk21 (by decide); exact xt_invV X hx hown (hts _ m_068feb96) (hts _ m_8e233096) (hts _ m_27eed10c) (xt_sigOf (hts _ m_ff1c70ae)) nm_Row_at (by rw [hT]; exact r1) r2 r3 (g := F0 m 133 ls [.int 1, .int v5, .ref b20]) rfl (argsL := [.int v5, .int 1]) (rest := []) rfl rfl (by rw [hb]; exact (xb_d D_Checker_checkNamed 73 rfl))) (ok_Row_at l hfl D A σ b20 v5 1 h15 _ hw) (hml.trans hl.1.symm) (by rw [hb]; exact (xb_d D_Checker_checkNamed 73 rfl)) (Nat.le_of_ble_eq_true rfl) (Nat.le_of_ble_eq_true rfl) (Nat.le_of_ble_eq_true rfl) (show (k + c17) + 0 ≤ MC by omega) (show (n + sc17) + 0 ≤ MS by omega) (xt_w1 hB.1 m_ff1c70ae) (xt_cdOf hB.1 m_ff1c70ae) (hts _ m_c1bef504) hB hR hS hA (fun vv h22 H locs hq hEh22 hR hS => ?_) (fun XX ax h22 H locs hq hEh22 hex hR hS => ?_)
          · obtain ⟨r23, rfl, hw⟩ := hq
            have hw := hw hEh22
            have hE := hE.tr hEh22
            refine W.eq (g2 := F0 m 136 ls [.int r23]) rfl ?_
            refine lv_istore_n hx hb (xb_d D_Checker_checkNamed 74 rfl) rfl hl (by decide) rfl (fun ls hl => ?_)
            have hl : lv_has ls 5 [(3, .int r23), (2, .int v5), (0, .ref x0), (1, .int x1)] := hl
            refine lv_iload_n hx hb (xb_d D_Checker_checkNamed 75 rfl) rfl (lv_at hl 3 rfl) ?_
            refine lv_bipush (v := 35) hx hb (xb_d D_Checker_checkNamed 76 rfl) (by decide) ?_
            refine lv_icmp_ne (tgt := 151) hx hb (xb_d D_Checker_checkNamed 77 rfl) rfl (fun hc24 => ?_) (fun hc24 => ?_)
            · have hw := hw.1 hc24
              refine lv_aload_n hx hb (xb_d D_Checker_checkNamed 82 rfl) rfl (lv_at hl 2 rfl) ?_
              refine lv_aload_n hx hb (xb_d D_Checker_checkNamed 83 rfl) rfl (lv_at hl 2 rfl) ?_
              have hk1 : xb_k h22 x0 = 5 := hEh22.k hk1
              refine xb_getP (C := R_Checker) (T := F_Checker) (N := 17) hx hb 4 0 hts fin_Checker hown hR hk1 (by decide) rfl (by decide) rfl (hts _ m_070795bc) (fun _ h9 => h9) (xb_d D_Checker_checkNamed 84 rfl) ?_
              obtain ⟨b25, eb25, hw⟩ := hw
              refine xb_some eb25 ?_
              obtain ⟨hk26, hw⟩ := hw
              refine xb_getP (C := R_StackModule) (T := F_StackModule) (N := 19) hx hb 2 7 hts fin_StackModule hown hR hk26 (by decide) rfl (by decide) rfl (hts _ m_d3e8f814) (fun _ h9 => h9) (xb_d D_Checker_checkNamed 85 rfl) ?_
              obtain ⟨b27, eb27, hw⟩ := hw
              refine xb_some eb27 ?_
              refine lv_iload_n hx hb (xb_d D_Checker_checkNamed 86 rfl) rfl (lv_at hl 1 rfl) ?_
              refine lv_iconst (v := 2) hx hb (xb_d D_Checker_checkNamed 87 rfl) (by decide) ?_
              obtain ⟨hk28, hw⟩ := hw
              refine xb_call (D := D) (A := A) (σ := σ) (h := h22) (d := 2) (mc := 0) (ms := 0) (maxL := 3) (rest := [.ref x0]) (av := [.ref b27, .int v5, .int 2]) (fun T hT X => by obtain ⟨cb, r1, r2, r3⟩ := xb_recv (ci := 1) hR rfl hk28 (by decide); exact xt_invV X hx hown (hts _ m_068feb96) (hts _ m_8e233096) (hts _ m_27eed10c) (xt_sigOf (hts _ m_ff1c70ae)) nm_Row_at (by rw [hT]; exact r1) r2 r3 (g := F0 m 161 ls [.int 2, .int v5, .ref b27, .ref x0]) rfl (argsL := [.int v5, .int 2]) (rest := [.ref x0]) rfl rfl (by rw [hb]; exact (xb_d D_Checker_checkNamed 88 rfl))) (ok_Row_at l hfl D A σ b27 v5 2 h22 _ hw) (hml.trans hl.1.symm) (by rw [hb]; exact (xb_d D_Checker_checkNamed 88 rfl)) (Nat.le_of_ble_eq_true rfl) (Nat.le_of_ble_eq_true rfl) (Nat.le_of_ble_eq_true rfl) (show (k + c17) + 0 ≤ MC by omega) (show (n + sc17) + 0 ≤ MS by omega) (xt_w1 hB.1 m_ff1c70ae) (xt_cdOf hB.1 m_ff1c70ae) (hts _ m_c1bef504) hB hR hS hA (fun vv h29 H locs hq hEh29 hR hS => ?_) (fun XX ax h29 H locs hq hEh29 hex hR hS => ?_)
              · obtain ⟨r30, rfl, hw⟩ := hq
                have hw := hw hEh29
                have hE := hE.tr hEh29
                refine W.eq (g2 := F0 m 164 ls [.int r30, .ref x0]) rfl ?_
                refine lv_iconst (v := 1) hx hb (xb_d D_Checker_checkNamed 89 rfl) (by decide) ?_
                refine lv_icmp_ne (tgt := 172) hx hb (xb_d D_Checker_checkNamed 90 rfl) rfl (fun hc31 => ?_) (fun hc31 => ?_)
                · have hw := hw.1 hc31
                  refine lv_iconst (v := 0) hx hb (xb_d D_Checker_checkNamed 93 rfl) (by decide) ?_
                  exact am_Checker_checkNamed_L173 l hfl D A σ MC MS h0 Qr Qt x0 r23 0 x0 h29 (bc - c17) (bs - sc17) hw p e s m args below meth c hC H locs ls (k + c17) (n + sc17) hE (lv_sub hl [2, 0] rfl) hR hS (by omega) (by omega)
                · have hw := hw.2 hc31
                  refine lv_iconst (v := 1) hx hb (xb_d D_Checker_checkNamed 91 rfl) (by decide) ?_
                  refine lv_goto (tgt := 173) hx hb (xb_d D_Checker_checkNamed 92 rfl) rfl ?_
                  exact am_Checker_checkNamed_L173 l hfl D A σ MC MS h0 Qr Qt x0 r23 1 x0 h29 (bc - c17) (bs - sc17) hw p e s m args below meth c hC H locs ls (k + c17) (n + sc17) hE (lv_sub hl [2, 0] rfl) hR hS (by omega) (by omega)
              · exact False.elim hq
            · have hw := hw.2 hc24
              refine lv_aload_n hx hb (xb_d D_Checker_checkNamed 78 rfl) rfl (lv_at hl 2 rfl) ?_
              refine lv_iload_n hx hb (xb_d D_Checker_checkNamed 79 rfl) rfl (lv_at hl 0 rfl) ?_
              have hk1 : xb_k h22 x0 = 5 := hEh22.k hk1
              refine xb_call (D := D) (A := A) (σ := σ) (h := h22) (d := 2) (mc := 0) (ms := 0) (maxL := 2) (rest := []) (av := [.ref x0, .int r23]) (fun T hT X => by obtain ⟨cb, r1, r2, r3⟩ := xb_recv (ci := 4) hR rfl hk1 (by decide); exact xt_invV X hx hown (hts _ m_761ff7fc) (hts _ m_e867be1e) (hts _ m_098fc344) (xt_sigOf (hts _ m_43ff17c7)) nm_Checker_put (by rw [hT]; exact r1) r2 r3 (g := F0 m 145 ls [.int r23, .ref x0]) rfl (argsL := [.int r23]) (rest := []) rfl rfl (by rw [hb]; exact (xb_d D_Checker_checkNamed 80 rfl))) (ok_Checker_put l hfl D A σ x0 r23 h22 _ hw) (hml.trans hl.1.symm) (by rw [hb]; exact (xb_d D_Checker_checkNamed 80 rfl)) (Nat.le_of_ble_eq_true rfl) (Nat.le_of_ble_eq_true rfl) (Nat.le_of_ble_eq_true rfl) (show (k + c17) + 0 ≤ MC by omega) (show (n + sc17) + 0 ≤ MS by omega) (xt_w1 hB.1 m_43ff17c7) (xt_cdOf hB.1 m_43ff17c7) (hts _ m_44748ce5) hB hR hS hA (fun vv h32 H locs hq hEh32 hR hS => ?_) (fun XX ax h32 H locs hq hEh32 hex hR hS => ?_)
              · obtain ⟨rfl, hw⟩ := hq
                have hw := hw hEh32
                have hE := hE.tr hEh32
                refine W.eq (g2 := F0 m 148 ls []) rfl ?_
                refine lv_goto (tgt := 184) hx hb (xb_d D_Checker_checkNamed 81 rfl) rfl ?_
                exact am_Checker_checkNamed_L184 l hfl D A σ MC MS h0 Qr Qt h32 (bc - c17) (bs - sc17) hw p e s m args below meth c hC H locs ls (k + c17) (n + sc17) hE (lv_sub hl [] rfl) hR hS (by omega) (by omega)
              · exact False.elim hq
          · exact False.elim hq
        · exact xb_pass hlocks (fun x hx9 => by rw [htab] at hx9; first | cases hx9 | (simp [tableOf] at hx9; rcases hx9 with rfl | rfl | rfl <;> decide)) (show (k + c17) ≤ MC by omega) (show (n + sc17) ≤ MS by omega) (hE.tr hEh15) hR hS hex hq
      · exact False.elim hq
    · exact False.elim hq
  · have hw := hw.2 hc6
    refine lv_aload_n hx hb (xb_d D_Checker_checkNamed 11 rfl) rfl (lv_at hl 1 rfl) ?_
    refine xb_getP (C := R_Checker) (T := F_Checker) (N := 17) hx hb 4 0 hts fin_Checker hown hR hk1 (by decide) rfl (by decide) rfl (hts _ m_070795bc) (fun _ h9 => h9) (xb_d D_Checker_checkNamed 12 rfl) ?_
    obtain ⟨b34, eb34, hw⟩ := hw
    refine xb_some eb34 ?_
    refine lv_aload_n hx hb (xb_d D_Checker_checkNamed 13 rfl) rfl (lv_at hl 1 rfl) ?_
    refine xb_getI (C := R_Checker) (T := F_Checker) (N := 17) hx hb 4 8 hts fin_Checker hown hR hk1 (by decide) rfl (by decide) rfl (hts _ m_f84c9de3) (fun _ h9 => h9) (xb_d D_Checker_checkNamed 14 rfl) ?_
    obtain ⟨hk35, hw⟩ := hw
    refine xb_call (D := D) (A := A) (σ := σ) (h := h) (d := 3) (mc := 0) (ms := 0) (maxL := 2) (rest := []) (av := [.ref b34, .int (xb_i h x0 8)]) (fun T hT X => by obtain ⟨cb, r1, r2, r3⟩ := xb_recv (ci := 2) hR rfl hk35 (by decide); exact xt_invV X hx hown (hts _ m_fc980843) (hts _ m_aa97372f) (hts _ m_8160d9b3) (xt_sigOf (hts _ m_8621e59b)) nm_StackModule_parameters (by rw [hT]; exact r1) r2 r3 (g := F0 m 26 ls [.int (xb_i h x0 8), .ref b34]) rfl (argsL := [.int (xb_i h x0 8)]) (rest := []) rfl rfl (by rw [hb]; exact (xb_d D_Checker_checkNamed 15 rfl))) (ok_StackModule_parameters l hfl D A σ b34 (xb_i h x0 8) h _ hw) (hml.trans hl.1.symm) (by rw [hb]; exact (xb_d D_Checker_checkNamed 15 rfl)) (Nat.le_of_ble_eq_true rfl) (Nat.le_of_ble_eq_true rfl) (Nat.le_of_ble_eq_true rfl) (show k + 0 ≤ MC by omega) (show n + 0 ≤ MS by omega) (xt_w1 hB.1 m_8621e59b) (xt_cdOf hB.1 m_8621e59b) (hts _ m_9c375545) hB hR hS hA (fun vv h36 H locs hq hEh36 hR hS => ?_) (fun XX ax h36 H locs hq hEh36 hex hR hS => ?_)
    · obtain ⟨r37, rfl, hw⟩ := hq
      have hw := hw hEh36
      have hE := hE.tr hEh36
      refine W.eq (g2 := F0 m 29 ls [.int r37]) rfl ?_
      refine lv_istore_n hx hb (xb_d D_Checker_checkNamed 16 rfl) rfl hl (by decide) rfl (fun ls hl => ?_)
      have hl : lv_has ls 5 [(3, .int r37), (2, .int v5), (0, .ref x0), (1, .int x1)] := hl
      refine lv_aload_n hx hb (xb_d D_Checker_checkNamed 17 rfl) rfl (lv_at hl 2 rfl) ?_
      refine lv_iload_n hx hb (xb_d D_Checker_checkNamed 18 rfl) rfl (lv_at hl 1 rfl) ?_
      refine lv_i2l hx hb (xb_d D_Checker_checkNamed 19 rfl) rfl ?_
      refine lv_iload_n hx hb (xb_d D_Checker_checkNamed 20 rfl) rfl (lv_at hl 0 rfl) ?_
      refine lv_aload_n hx hb (xb_d D_Checker_checkNamed 21 rfl) rfl (lv_at hl 2 rfl) ?_
      have hk1 : xb_k h36 x0 = 5 := hEh36.k hk1
      refine xb_getI (C := R_Checker) (T := F_Checker) (N := 17) hx hb 4 7 hts fin_Checker hown hR hk1 (by decide) rfl (by decide) rfl (hts _ m_708ae6ef) (fun _ h9 => h9) (xb_d D_Checker_checkNamed 22 rfl) ?_
      refine lv_iadd hx hb (xb_d D_Checker_checkNamed 23 rfl) ?_
      refine xb_call (D := D) (A := A) (σ := σ) (h := h36) (d := 2) (mc := 0) (ms := 0) (maxL := 3) (rest := [.ref x0]) (av := [.long (Int32.toInt64 v5), .int (r37 + (xb_i h36 x0 7))]) (fun T hT X => xt_invS X hx hown (hts _ m_fe08b245) (hts _ m_9ad1e0af) (hts _ m_44748ce5) (xt_sgS (hts _ m_2237aee6)).1 (xt_sgS (hts _ m_2237aee6)).2 nm_Checker_isThere (g := F0 m 39 ls [.int (r37 + (xb_i h36 x0 7)), .long (Int32.toInt64 v5), .ref x0]) rfl (argsL := [.long (Int32.toInt64 v5), .int (r37 + (xb_i h36 x0 7))]) (rest := [.ref x0]) rfl rfl (by rw [hb]; exact (xb_d D_Checker_checkNamed 24 rfl))) (ok_Checker_isThere l hfl D A σ (Int32.toInt64 v5) (r37 + (xb_i h36 x0 7)) h36 _ hw) (hml.trans hl.1.symm) (by rw [hb]; exact (xb_d D_Checker_checkNamed 24 rfl)) (Nat.le_of_ble_eq_true rfl) (Nat.le_of_ble_eq_true rfl) (Nat.le_of_ble_eq_true rfl) (show k + 0 ≤ MC by omega) (show n + 0 ≤ MS by omega) (xt_w1 hB.1 m_2237aee6) (xt_cdOf hB.1 m_2237aee6) (hts _ m_44748ce5) hB hR hS hA (fun vv h38 H locs hq hEh38 hR hS => ?_) (fun XX ax h38 H locs hq hEh38 hex hR hS => ?_)
      · obtain ⟨r39, rfl, hw⟩ := hq
        have hw := hw hEh38
        have hE := hE.tr hEh38
        refine W.eq (g2 := F0 m 42 ls [.int r39, .ref x0]) rfl ?_
        refine lv_bipush (v := 20) hx hb (xb_d D_Checker_checkNamed 25 rfl) (by decide) ?_
        have hk1 : xb_k h38 x0 = 5 := hEh38.k hk1
        obtain ⟨c42, sc42, hlc42, hlsc42, hw⟩ := hw
        refine xb_call (D := D) (A := A) (σ := σ) (h := h38) (d := 3) (mc := c42) (ms := sc42) (maxL := 3) (rest := []) (av := [.ref x0, .int r39, .int 20]) (fun T hT X => by obtain ⟨cb, r1, r2, r3⟩ := xb_recv (ci := 4) hR rfl hk1 (by decide); exact xt_invV X hx hown (hts _ m_0a242445) (hts _ m_a99c45f7) (hts _ m_978d7491) (xt_sigOf (hts _ m_01f2fc97)) nm_Checker_require (by rw [hT]; exact r1) r2 r3 (g := F0 m 44 ls [.int 20, .int r39, .ref x0]) rfl (argsL := [.int r39, .int 20]) (rest := []) rfl rfl (by rw [hb]; exact (xb_d D_Checker_checkNamed 26 rfl))) (ok_Checker_require l hfl D A σ x0 r39 20 h38 c42 sc42 _ _ hw) (hml.trans hl.1.symm) (by rw [hb]; exact (xb_d D_Checker_checkNamed 26 rfl)) (Nat.le_of_ble_eq_true rfl) (Nat.le_of_ble_eq_true rfl) (Nat.le_of_ble_eq_true rfl) (show k + c42 ≤ MC by omega) (show n + sc42 ≤ MS by omega) (xt_w1 hB.1 m_01f2fc97) (xt_cdOf hB.1 m_01f2fc97) (hts _ m_44748ce5) hB hR hS hA (fun vv h40 H locs hq hEh40 hR hS => ?_) (fun XX ax h40 H locs hq hEh40 hex hR hS => ?_)
        · obtain ⟨rfl, hw⟩ := hq
          have hw := hw hEh40
          have hE := hE.tr hEh40
          refine W.eq (g2 := F0 m 47 ls []) rfl ?_
          refine lv_iload_n hx hb (xb_d D_Checker_checkNamed 27 rfl) rfl (lv_at hl 1 rfl) ?_
          refine lv_iload_n hx hb (xb_d D_Checker_checkNamed 28 rfl) rfl (lv_at hl 0 rfl) ?_
          refine lv_icmp_ge (tgt := 67) hx hb (xb_d D_Checker_checkNamed 29 rfl) rfl (fun hc43 => ?_) (fun hc43 => ?_)
          · have hw := hw.1 hc43
            refine lv_aload_n hx hb (xb_d D_Checker_checkNamed 37 rfl) rfl (lv_at hl 2 rfl) ?_
            have hk1 : xb_k h40 x0 = 5 := hEh40.k hk1
            refine xb_getP (C := R_Checker) (T := F_Checker) (N := 17) hx hb 4 6 hts fin_Checker hown hR hk1 (by decide) rfl (by decide) rfl (hts _ m_c12a5435) (fun _ h9 => h9) (xb_d D_Checker_checkNamed 38 rfl) ?_
            obtain ⟨b44, eb44, hw⟩ := hw
            refine xb_some eb44 ?_
            refine lv_iload_n hx hb (xb_d D_Checker_checkNamed 39 rfl) rfl (lv_at hl 1 rfl) ?_
            refine lv_iload_n hx hb (xb_d D_Checker_checkNamed 40 rfl) rfl (lv_at hl 0 rfl) ?_
            refine lv_isub hx hb (xb_d D_Checker_checkNamed 41 rfl) ?_
            obtain ⟨hk46, hw⟩ := hw
            obtain ⟨hi45, hw⟩ := hw
            refine xb_bald hx hb hR hk46 hi45 (xb_d D_Checker_checkNamed 42 rfl) ?_
            exact am_Checker_checkNamed_L75 l hfl D A σ MC MS h0 Qr Qt x0 x1 (xb_i h40 b44 (Int32.toNatClampNeg (v5 - r37))) h40 (bc - c42) (bs - sc42) hw p e s m args below meth c hC H locs ls (k + c42) (n + sc42) hE (lv_sub hl [2, 3] rfl) hR hS (by omega) (by omega)
          · have hw := hw.2 hc43
            refine lv_aload_n hx hb (xb_d D_Checker_checkNamed 30 rfl) rfl (lv_at hl 2 rfl) ?_
            have hk1 : xb_k h40 x0 = 5 := hEh40.k hk1
            refine xb_getP (C := R_Checker) (T := F_Checker) (N := 17) hx hb 4 0 hts fin_Checker hown hR hk1 (by decide) rfl (by decide) rfl (hts _ m_070795bc) (fun _ h9 => h9) (xb_d D_Checker_checkNamed 31 rfl) ?_
            obtain ⟨b47, eb47, hw⟩ := hw
            refine xb_some eb47 ?_
            refine lv_aload_n hx hb (xb_d D_Checker_checkNamed 32 rfl) rfl (lv_at hl 2 rfl) ?_
            refine xb_getI (C := R_Checker) (T := F_Checker) (N := 17) hx hb 4 8 hts fin_Checker hown hR hk1 (by decide) rfl (by decide) rfl (hts _ m_f84c9de3) (fun _ h9 => h9) (xb_d D_Checker_checkNamed 33 rfl) ?_
            refine lv_iload_n hx hb (xb_d D_Checker_checkNamed 34 rfl) rfl (lv_at hl 1 rfl) ?_
            obtain ⟨hk48, hw⟩ := hw
            refine xb_call (D := D) (A := A) (σ := σ) (h := h40) (d := 3) (mc := 0) (ms := 0) (maxL := 3) (rest := []) (av := [.ref b47, .int (xb_i h40 x0 8), .int v5]) (fun T hT X => by obtain ⟨cb, r1, r2, r3⟩ := xb_recv (ci := 2) hR rfl hk48 (by decide); exact xt_invV X hx hown (hts _ m_cafa8207) (hts _ m_8ffa2b15) (hts _ m_4526d57b) (xt_sigOf (hts _ m_4049389a)) nm_StackModule_parameterType (by rw [hT]; exact r1) r2 r3 (g := F0 m 61 ls [.int v5, .int (xb_i h40 x0 8), .ref b47]) rfl (argsL := [.int (xb_i h40 x0 8), .int v5]) (rest := []) rfl rfl (by rw [hb]; exact (xb_d D_Checker_checkNamed 35 rfl))) (ok_StackModule_parameterType l hfl D A σ b47 (xb_i h40 x0 8) v5 h40 _ hw) (hml.trans hl.1.symm) (by rw [hb]; exact (xb_d D_Checker_checkNamed 35 rfl)) (Nat.le_of_ble_eq_true rfl) (Nat.le_of_ble_eq_true rfl) (Nat.le_of_ble_eq_true rfl) (show (k + c42) + 0 ≤ MC by omega) (show (n + sc42) + 0 ≤ MS by omega) (xt_w1 hB.1 m_4049389a) (xt_cdOf hB.1 m_4049389a) (hts _ m_9c375545) hB hR hS hA (fun vv h49 H locs hq hEh49 hR hS => ?_) (fun XX ax h49 H locs hq hEh49 hex hR hS => ?_)
            · obtain ⟨r50, rfl, hw⟩ := hq
              have hw := hw hEh49
              have hE := hE.tr hEh49
              refine W.eq (g2 := F0 m 64 ls [.int r50]) rfl ?_
              refine lv_goto (tgt := 75) hx hb (xb_d D_Checker_checkNamed 36 rfl) rfl ?_
              exact am_Checker_checkNamed_L75 l hfl D A σ MC MS h0 Qr Qt x0 x1 r50 h49 (bc - c42) (bs - sc42) hw p e s m args below meth c hC H locs ls (k + c42) (n + sc42) hE (lv_sub hl [2, 3] rfl) hR hS (by omega) (by omega)
            · exact False.elim hq
        · exact xb_pass hlocks (fun x hx9 => by rw [htab] at hx9; first | cases hx9 | (simp [tableOf] at hx9; rcases hx9 with rfl | rfl | rfl <;> decide)) (show (k + c42) ≤ MC by omega) (show (n + sc42) ≤ MS by omega) (hE.tr hEh40) hR hS hex hq
      · exact False.elim hq
    · exact False.elim hq

theorem m_13aecbf4 : (.fieldLink "StackHost$Checker" 248 "StackHost$Checker" "SIGNATURES" "[I" : Cond) ∈ xt_tbl := xt_in (xt_t5 (List.mem_of_getElem? (i := 216) (by decide +kernel))) (by decide +kernel)
set_option maxRecDepth 100000 in
def T_Checker_checkNumeric : List (Nat × Instr × Nat) := [(0, .iconst 0, 1), (1, .istore_n 2, 1), (2, .iconst 0, 1), (3, .istore_n 3, 1), (4, .iload_n 3, 1), (5, .getstatic 248, 3), (8, .arraylength, 1), (9, .if_icmp .ge 22, 3), (12, .iload_n 1, 1), (13, .getstatic 248, 3), (16, .iload_n 3, 1), (17, .iaload, 1), (18, .if_icmp .le 13, 3), (21, .iload_n 3, 1), (22, .iconst 4, 1), (23, .iadd, 1), (24, .istore_n 2, 1), (25, .iinc 3 4, 3), (28, .goto (-24), 3), (31, .iconst 0, 1), (32, .istore_n 3, 1), (33, .iload_n 3, 1), (34, .getstatic 248, 3), (37, .iload_n 2, 1), (38, .iconst 1, 1), (39, .iadd, 1), (40, .iaload, 1), (41, .if_icmp .ge 21, 3), (44, .aload_n 0, 1), (45, .getstatic 248, 3), (48, .iload_n 2, 1), (49, .iconst 2, 1), (50, .iadd, 1), (51, .iaload, 1), (52, .invokevirtual 251, 3), (55, .pop, 1), (56, .iinc 3 1, 3), (59, .goto (-26), 3), (62, .aload_n 0, 1), (63, .getstatic 248, 3), (66, .iload_n 2, 1), (67, .iconst 3, 1), (68, .iadd, 1), (69, .iaload, 1), (70, .invokevirtual 236, 3), (73, .return_, 1)]
theorem D_Checker_checkNumeric : ∀ q ∈ T_Checker_checkNumeric, decode b_Checker_checkNumeric q.1 = .ok (q.2.1, q.2.2) := by decide +kernel
def w_Checker_checkNumeric_L33 (Qr : xb_H → Prop) (Qt : String → xb_H → Prop) : Nat → Nat → Int32 → Int32 → xb_H → Nat → Nat → Prop
  | 0, _, _, _, _, _, _ => False
  | n9 + 1, x0, x2, x3, h, bc, bs =>
    vp_in (x2 + 1) 120 ∧ (((xb_cSIG.getD (Int32.toNatClampNeg (x2 + 1)) 0) ≤ x3 → vp_in (x2 + 3) 120 ∧ xb_k h x0 = 5 ∧ w_Checker_put x0 (xb_cSIG.getD (Int32.toNatClampNeg (x2 + 3)) 0) h (fun (h7 : xb_H) => xb_ext h h7 → Qr h7)) ∧ (¬ (xb_cSIG.getD (Int32.toNatClampNeg (x2 + 1)) 0) ≤ x3 → vp_in (x2 + 2) 120 ∧ xb_k h x0 = 5 ∧ ∃ c14 sc14 : Nat, c14 ≤ bc ∧ sc14 ≤ bs ∧ w_Checker_take x0 (xb_cSIG.getD (Int32.toNatClampNeg (x2 + 2)) 0) h c14 sc14 (fun (r13 : Int32) (h12 : xb_H) => xb_ext h h12 → w_Checker_checkNumeric_L33 Qr Qt n9 x0 x2 (x3 + 1) h12 (bc - c14) (bs - sc14)) Qt))

def w_Checker_checkNumeric_L31 (Qr : xb_H → Prop) (Qt : String → xb_H → Prop) (x0 : Nat) (x2 : Int32) (h : xb_H) (bc : Nat) (bs : Nat) : Prop :=
    (∃ n8 : Nat, w_Checker_checkNumeric_L33 Qr Qt n8 x0 x2 0 h bc bs)

def w_Checker_checkNumeric_L4 (Qr : xb_H → Prop) (Qt : String → xb_H → Prop) : Nat → Nat → Int32 → Int32 → Int32 → xb_H → Nat → Nat → Prop
  | 0, _, _, _, _, _, _, _ => False
  | n9 + 1, x0, x1, x2, x3, h, bc, bs =>
    (((120 : Int32) ≤ x3 → w_Checker_checkNumeric_L31 Qr Qt x0 x2 h bc bs) ∧ (¬ (120 : Int32) ≤ x3 → vp_in x3 120 ∧ ((x1 ≤ (xb_cSIG.getD (Int32.toNatClampNeg x3) 0) → w_Checker_checkNumeric_L31 Qr Qt x0 x2 h bc bs) ∧ (¬ x1 ≤ (xb_cSIG.getD (Int32.toNatClampNeg x3) 0) → ∀ v6 : Int32, v6 = (x3 + 4) → w_Checker_checkNumeric_L4 Qr Qt n9 x0 x1 v6 (x3 + 4) h bc bs))))

def w_Checker_checkNumeric (x0 : Nat) (x1 : Int32) (h : xb_H) (bc : Nat) (bs : Nat) (Qr : xb_H → Prop) (Qt : String → xb_H → Prop) : Prop :=
    (∃ n8 : Nat, w_Checker_checkNumeric_L4 Qr Qt n8 x0 x1 0 0 h bc bs)

set_option maxHeartbeats 4000000 in
set_option maxRecDepth 100000 in
theorem am_Checker_checkNumeric_L33 (l : Launch) (hfl : l.flags = pinnedFlags ++ [noTraceFlag]) (D : va_G) (A : Nat → Prop) (σ MC MS : Nat) (h0 : xb_H) (Qr : xb_H → Prop) (Qt : String → xb_H → Prop) (n9 : Nat) : ∀ (x0 : Nat) (x2 : Int32) (x3 : Int32) (h : xb_H) (bc : Nat) (bs : Nat), w_Checker_checkNumeric_L33 Qr Qt n9 x0 x2 x3 h bc bs → xb_am l D A σ 4 MC MS h0 (fun v h => v = none ∧ Qr h) Qt y_Checker_checkNumeric.cls y_Checker_checkNumeric.name b_Checker_checkNumeric 4 ([] : List ExceptionTableEntry) none 33 [(0, .ref x0), (2, .int x2), (3, .int x3)] [] h bc bs := by
  induction n9 with
  | zero => intro x0 x2 x3 h bc bs hw; exact False.elim hw
  | succ n9 ih =>
    intro x0 x2 x3 h bc bs hw
    unfold w_Checker_checkNumeric_L33 at hw
    intro p e s m args below meth c hC H locs ls k n hE hl hR hS hk hn
    obtain ⟨hx, hb, hown, hlocks, htab, hml, hr, hB, hA, hnm⟩ := id hC
    have hts := hB.1.1.at args
    refine lv_iload_n hx hb (xb_d D_Checker_checkNumeric 21 rfl) rfl (lv_at hl 2 rfl) ?_
    obtain ⟨tt1, hZtt1, hTtt1⟩ := hB.2.1
    refine va_gets hx hb hZtt1 hS hown (hts _ m_13aecbf4) (fun _ h9 => h9) (xb_d D_Checker_checkNumeric 22 rfl) ?_
    refine lv_iload_n hx hb (xb_d D_Checker_checkNumeric 23 rfl) rfl (lv_at hl 1 rfl) ?_
    refine lv_iconst (v := 1) hx hb (xb_d D_Checker_checkNumeric 24 rfl) (by decide) ?_
    refine lv_iadd hx hb (xb_d D_Checker_checkNumeric 25 rfl) ?_
    obtain ⟨hi2, hw⟩ := hw
    refine va_ti (v := .int (xb_cSIG.getD (Int32.toNatClampNeg (x2 + 1)) 0)) hx hb hTtt1 hS hi2 rfl (xb_d D_Checker_checkNumeric 26 rfl) ?_
    refine lv_icmp_ge (tgt := 62) hx hb (xb_d D_Checker_checkNumeric 27 rfl) rfl (fun hc3 => ?_) (fun hc3 => ?_)
    · have hw := hw.1 hc3
      refine lv_aload_n hx hb (xb_d D_Checker_checkNumeric 38 rfl) rfl (lv_at hl 0 rfl) ?_
      obtain ⟨tt4, hZtt4, hTtt4⟩ := hB.2.1
      refine va_gets hx hb hZtt4 hS hown (hts _ m_13aecbf4) (fun _ h9 => h9) (xb_d D_Checker_checkNumeric 39 rfl) ?_
      refine lv_iload_n hx hb (xb_d D_Checker_checkNumeric 40 rfl) rfl (lv_at hl 1 rfl) ?_
      refine lv_iconst (v := 3) hx hb (xb_d D_Checker_checkNumeric 41 rfl) (by decide) ?_
      refine lv_iadd hx hb (xb_d D_Checker_checkNumeric 42 rfl) ?_
      obtain ⟨hi5, hw⟩ := hw
      refine va_ti (v := .int (xb_cSIG.getD (Int32.toNatClampNeg (x2 + 3)) 0)) hx hb hTtt4 hS hi5 rfl (xb_d D_Checker_checkNumeric 43 rfl) ?_
      obtain ⟨hk6, hw⟩ := hw
      refine xb_call (D := D) (A := A) (σ := σ) (h := h) (d := 2) (mc := 0) (ms := 0) (maxL := 2) (rest := []) (av := [.ref x0, .int (xb_cSIG.getD (Int32.toNatClampNeg (x2 + 3)) 0)]) (fun T hT X => by obtain ⟨cb, r1, r2, r3⟩ := xb_recv (ci := 4) hR rfl hk6 (by decide); exact xt_invV X hx hown (hts _ m_761ff7fc) (hts _ m_e867be1e) (hts _ m_098fc344) (xt_sigOf (hts _ m_43ff17c7)) nm_Checker_put (by rw [hT]; exact r1) r2 r3 (g := F0 m 70 ls [.int (xb_cSIG.getD (Int32.toNatClampNeg (x2 + 3)) 0), .ref x0]) rfl (argsL := [.int (xb_cSIG.getD (Int32.toNatClampNeg (x2 + 3)) 0)]) (rest := []) rfl rfl (by rw [hb]; exact (xb_d D_Checker_checkNumeric 44 rfl))) (ok_Checker_put l hfl D A σ x0 (xb_cSIG.getD (Int32.toNatClampNeg (x2 + 3)) 0) h _ hw) (hml.trans hl.1.symm) (by rw [hb]; exact (xb_d D_Checker_checkNumeric 44 rfl)) (Nat.le_of_ble_eq_true rfl) (Nat.le_of_ble_eq_true rfl) (Nat.le_of_ble_eq_true rfl) (show k + 0 ≤ MC by omega) (show n + 0 ≤ MS by omega) (xt_w1 hB.1 m_43ff17c7) (xt_cdOf hB.1 m_43ff17c7) (hts _ m_44748ce5) hB hR hS hA (fun vv h7 H locs hq hEh7 hR hS => ?_) (fun XX ax h7 H locs hq hEh7 hex hR hS => ?_)
      · obtain ⟨rfl, hw⟩ := hq
        have hw := hw hEh7
        have hE := hE.tr hEh7
        refine W.eq (g2 := F0 m 73 ls []) rfl ?_
        exact xb_vret hx hb hr hlocks (show k ≤ MC by omega) (show n ≤ MS by omega) hE hR hS (xb_d D_Checker_checkNumeric 45 rfl) hw
      · exact False.elim hq
    · have hw := hw.2 hc3
      refine lv_aload_n hx hb (xb_d D_Checker_checkNumeric 28 rfl) rfl (lv_at hl 0 rfl) ?_
      obtain ⟨tt9, hZtt9, hTtt9⟩ := hB.2.1
      refine va_gets hx hb hZtt9 hS hown (hts _ m_13aecbf4) (fun _ h9 => h9) (xb_d D_Checker_checkNumeric 29 rfl) ?_
      refine lv_iload_n hx hb (xb_d D_Checker_checkNumeric 30 rfl) rfl (lv_at hl 1 rfl) ?_
      refine lv_iconst (v := 2) hx hb (xb_d D_Checker_checkNumeric 31 rfl) (by decide) ?_
      refine lv_iadd hx hb (xb_d D_Checker_checkNumeric 32 rfl) ?_
      obtain ⟨hi10, hw⟩ := hw
      refine va_ti (v := .int (xb_cSIG.getD (Int32.toNatClampNeg (x2 + 2)) 0)) hx hb hTtt9 hS hi10 rfl (xb_d D_Checker_checkNumeric 33 rfl) ?_
      obtain ⟨hk11, hw⟩ := hw
      obtain ⟨c14, sc14, hlc14, hlsc14, hw⟩ := hw
      refine xb_call (D := D) (A := A) (σ := σ) (h := h) (d := 3) (mc := c14) (ms := sc14) (maxL := 3) (rest := []) (av := [.ref x0, .int (xb_cSIG.getD (Int32.toNatClampNeg (x2 + 2)) 0)]) (fun T hT X => by obtain ⟨cb, r1, r2, r3⟩ := xb_recv (ci := 4) hR rfl hk11 (by decide); exact xt_invV X hx hown (hts _ m_0b33e20f) (hts _ m_338dda25) (hts _ m_d7dc08f9) (xt_sigOf (hts _ m_b71cce2b)) nm_Checker_take (by rw [hT]; exact r1) r2 r3 (g := F0 m 52 ls [.int (xb_cSIG.getD (Int32.toNatClampNeg (x2 + 2)) 0), .ref x0]) rfl (argsL := [.int (xb_cSIG.getD (Int32.toNatClampNeg (x2 + 2)) 0)]) (rest := []) rfl rfl (by rw [hb]; exact (xb_d D_Checker_checkNumeric 34 rfl))) (ok_Checker_take l hfl D A σ x0 (xb_cSIG.getD (Int32.toNatClampNeg (x2 + 2)) 0) h c14 sc14 _ _ hw) (hml.trans hl.1.symm) (by rw [hb]; exact (xb_d D_Checker_checkNumeric 34 rfl)) (Nat.le_of_ble_eq_true rfl) (Nat.le_of_ble_eq_true rfl) (Nat.le_of_ble_eq_true rfl) (show k + c14 ≤ MC by omega) (show n + sc14 ≤ MS by omega) (xt_w1 hB.1 m_b71cce2b) (xt_cdOf hB.1 m_b71cce2b) (hts _ m_44748ce5) hB hR hS hA (fun vv h12 H locs hq hEh12 hR hS => ?_) (fun XX ax h12 H locs hq hEh12 hex hR hS => ?_)
      · obtain ⟨r13, rfl, hw⟩ := hq
        have hw := hw hEh12
        have hE := hE.tr hEh12
        refine W.eq (g2 := F0 m 55 ls [.int r13]) rfl ?_
        refine lv_pop hx hb (xb_d D_Checker_checkNumeric 35 rfl) rfl ?_
        refine lv_iinc (v := (x3 + 1)) (k := 2) hx hb (xb_d D_Checker_checkNumeric 36 rfl) hl rfl (by first | rfl | decide) (by decide) rfl (fun ls hl => ?_)
        have hl : lv_has ls 4 [(3, .int (x3 + 1)), (0, .ref x0), (2, .int x2)] := hl
        refine lv_goto (tgt := 33) hx hb (xb_d D_Checker_checkNumeric 37 rfl) rfl ?_
        exact ih x0 x2 (x3 + 1) h12 (bc - c14) (bs - sc14) hw p e s m args below meth c hC H locs ls (k + c14) (n + sc14) hE (lv_sub hl [1, 2, 0] rfl) hR hS (by omega) (by omega)
      · exact xb_pass hlocks (fun x hx9 => by rw [htab] at hx9; first | cases hx9 | (simp [tableOf] at hx9; rcases hx9 with rfl | rfl | rfl <;> decide)) (show (k + c14) ≤ MC by omega) (show (n + sc14) ≤ MS by omega) (hE.tr hEh12) hR hS hex hq

set_option maxHeartbeats 4000000 in
set_option maxRecDepth 100000 in
theorem am_Checker_checkNumeric_L31 (l : Launch) (hfl : l.flags = pinnedFlags ++ [noTraceFlag]) (D : va_G) (A : Nat → Prop) (σ MC MS : Nat) (h0 : xb_H) (Qr : xb_H → Prop) (Qt : String → xb_H → Prop) (x0 : Nat) (x2 : Int32) (h : xb_H) (bc : Nat) (bs : Nat) (hw : w_Checker_checkNumeric_L31 Qr Qt x0 x2 h bc bs) : xb_am l D A σ 4 MC MS h0 (fun v h => v = none ∧ Qr h) Qt y_Checker_checkNumeric.cls y_Checker_checkNumeric.name b_Checker_checkNumeric 4 ([] : List ExceptionTableEntry) none 31 [(0, .ref x0), (2, .int x2)] [] h bc bs := by
  unfold w_Checker_checkNumeric_L31 at hw
  intro p e s m args below meth c hC H locs ls k n hE hl hR hS hk hn
  obtain ⟨hx, hb, hown, hlocks, htab, hml, hr, hB, hA, hnm⟩ := id hC
  have hts := hB.1.1.at args
  refine lv_iconst (v := 0) hx hb (xb_d D_Checker_checkNumeric 19 rfl) (by decide) ?_
  refine lv_istore_n hx hb (xb_d D_Checker_checkNumeric 20 rfl) rfl hl (by decide) rfl (fun ls hl => ?_)
  have hl : lv_has ls 4 [(3, .int 0), (0, .ref x0), (2, .int x2)] := hl
  obtain ⟨n8, hw⟩ := hw
  exact am_Checker_checkNumeric_L33 l hfl D A σ MC MS h0 Qr Qt n8 x0 x2 0 h bc bs hw p e s m args below meth c hC H locs ls k n hE (lv_sub hl [1, 2, 0] rfl) hR hS (by omega) (by omega)

set_option maxHeartbeats 4000000 in
set_option maxRecDepth 100000 in
theorem am_Checker_checkNumeric_L4 (l : Launch) (hfl : l.flags = pinnedFlags ++ [noTraceFlag]) (D : va_G) (A : Nat → Prop) (σ MC MS : Nat) (h0 : xb_H) (Qr : xb_H → Prop) (Qt : String → xb_H → Prop) (n9 : Nat) : ∀ (x0 : Nat) (x1 : Int32) (x2 : Int32) (x3 : Int32) (h : xb_H) (bc : Nat) (bs : Nat), w_Checker_checkNumeric_L4 Qr Qt n9 x0 x1 x2 x3 h bc bs → xb_am l D A σ 4 MC MS h0 (fun v h => v = none ∧ Qr h) Qt y_Checker_checkNumeric.cls y_Checker_checkNumeric.name b_Checker_checkNumeric 4 ([] : List ExceptionTableEntry) none 4 [(0, .ref x0), (1, .int x1), (2, .int x2), (3, .int x3)] [] h bc bs := by
  induction n9 with
  | zero => intro x0 x1 x2 x3 h bc bs hw; exact False.elim hw
  | succ n9 ih =>
    intro x0 x1 x2 x3 h bc bs hw
    unfold w_Checker_checkNumeric_L4 at hw
    intro p e s m args below meth c hC H locs ls k n hE hl hR hS hk hn
    obtain ⟨hx, hb, hown, hlocks, htab, hml, hr, hB, hA, hnm⟩ := id hC
    have hts := hB.1.1.at args
    refine lv_iload_n hx hb (xb_d D_Checker_checkNumeric 4 rfl) rfl (lv_at hl 3 rfl) ?_
    obtain ⟨tt1, hZtt1, hTtt1⟩ := hB.2.1
    refine va_gets hx hb hZtt1 hS hown (hts _ m_13aecbf4) (fun _ h9 => h9) (xb_d D_Checker_checkNumeric 5 rfl) ?_
    refine va_tlen (v := 120) hx hb hTtt1 hS (by decide +kernel) (xb_d D_Checker_checkNumeric 6 rfl) ?_
    refine lv_icmp_ge (tgt := 31) hx hb (xb_d D_Checker_checkNumeric 7 rfl) rfl (fun hc2 => ?_) (fun hc2 => ?_)
    · have hw := hw.1 hc2
      exact am_Checker_checkNumeric_L31 l hfl D A σ MC MS h0 Qr Qt x0 x2 h bc bs hw p e s m args below meth c hC H locs ls k n hE (lv_sub hl [0, 2] rfl) hR hS (by omega) (by omega)
    · have hw := hw.2 hc2
      refine lv_iload_n hx hb (xb_d D_Checker_checkNumeric 8 rfl) rfl (lv_at hl 1 rfl) ?_
      obtain ⟨tt3, hZtt3, hTtt3⟩ := hB.2.1
      refine va_gets hx hb hZtt3 hS hown (hts _ m_13aecbf4) (fun _ h9 => h9) (xb_d D_Checker_checkNumeric 9 rfl) ?_
      refine lv_iload_n hx hb (xb_d D_Checker_checkNumeric 10 rfl) rfl (lv_at hl 3 rfl) ?_
      obtain ⟨hi4, hw⟩ := hw
      refine va_ti (v := .int (xb_cSIG.getD (Int32.toNatClampNeg x3) 0)) hx hb hTtt3 hS hi4 rfl (xb_d D_Checker_checkNumeric 11 rfl) ?_
      refine lv_icmp_le (tgt := 31) hx hb (xb_d D_Checker_checkNumeric 12 rfl) rfl (fun hc5 => ?_) (fun hc5 => ?_)
      · have hw := hw.1 hc5
        exact am_Checker_checkNumeric_L31 l hfl D A σ MC MS h0 Qr Qt x0 x2 h bc bs hw p e s m args below meth c hC H locs ls k n hE (lv_sub hl [0, 2] rfl) hR hS (by omega) (by omega)
      · have hw := hw.2 hc5
        refine lv_iload_n hx hb (xb_d D_Checker_checkNumeric 13 rfl) rfl (lv_at hl 3 rfl) ?_
        refine lv_iconst (v := 4) hx hb (xb_d D_Checker_checkNumeric 14 rfl) (by decide) ?_
        refine lv_iadd hx hb (xb_d D_Checker_checkNumeric 15 rfl) ?_
        obtain ⟨v6, ev6⟩ : ∃ x : Int32, x = (x3 + 4) := ⟨_, rfl⟩
        have hw := hw v6 ev6
        refine xt_numi (y := v6) ev6.symm ?_
        refine lv_istore_n hx hb (xb_d D_Checker_checkNumeric 16 rfl) rfl hl (by decide) rfl (fun ls hl => ?_)
        have hl : lv_has ls 4 [(2, .int v6), (0, .ref x0), (1, .int x1), (3, .int x3)] := hl
        refine lv_iinc (v := (x3 + 4)) (k := 3) hx hb (xb_d D_Checker_checkNumeric 17 rfl) hl rfl (by first | rfl | decide) (by decide) rfl (fun ls hl => ?_)
        have hl : lv_has ls 4 [(3, .int (x3 + 4)), (2, .int v6), (0, .ref x0), (1, .int x1)] := hl
        refine lv_goto (tgt := 4) hx hb (xb_d D_Checker_checkNumeric 18 rfl) rfl ?_
        exact ih x0 x1 v6 (x3 + 4) h bc bs hw p e s m args below meth c hC H locs ls k n hE (lv_sub hl [2, 3, 1, 0] rfl) hR hS (by omega) (by omega)

set_option maxHeartbeats 4000000 in
set_option maxRecDepth 100000 in
theorem ok_Checker_checkNumeric (l : Launch) (hfl : l.flags = pinnedFlags ++ [noTraceFlag]) (D : va_G) (A : Nat → Prop) (σ : Nat) (x0 : Nat) (x1 : Int32) (h : xb_H) (bc : Nat) (bs : Nat) (Qr : xb_H → Prop) (Qt : String → xb_H → Prop) (hw : w_Checker_checkNumeric x0 x1 h bc bs Qr Qt) : xt_Met l y_Checker_checkNumeric [.code y_Checker_checkNumeric b_Checker_checkNumeric 4 none] (xb_rm 4 bc bs) (xb_Pc D A σ h [.ref x0, .int x1]) (xb_Qc D A h (fun v h => v = none ∧ Qr h) Qt) bc bs A := by
  refine xb_ofAm (cc := b_Checker_checkNumeric) (by decide) (Nat.le_of_ble_eq_true rfl) ?_
  unfold w_Checker_checkNumeric at hw
  show xb_am l D A σ 4 bc bs h (fun v h => v = none ∧ Qr h) Qt y_Checker_checkNumeric.cls y_Checker_checkNumeric.name b_Checker_checkNumeric 4 ([] : List ExceptionTableEntry) none 0 [(0, .ref x0), (1, .int x1)] [] h bc bs
  obtain ⟨MC, hMC⟩ : ∃ x, x = bc := ⟨_, rfl⟩
  obtain ⟨MS, hMS⟩ : ∃ x, x = bs := ⟨_, rfl⟩
  rw [show xb_am l D A σ 4 bc bs = xb_am l D A σ 4 MC MS by rw [hMC, hMS]]
  obtain ⟨h0, hh0⟩ : ∃ x, x = h := ⟨_, rfl⟩
  rw [show xb_am l D A σ 4 MC MS h = xb_am l D A σ 4 MC MS h0 by rw [hh0]]
  intro p e s m args below meth c hC H locs ls k n hE hl hR hS hk hn
  obtain ⟨hx, hb, hown, hlocks, htab, hml, hr, hB, hA, hnm⟩ := id hC
  have hts := hB.1.1.at args
  refine lv_iconst (v := 0) hx hb (xb_d D_Checker_checkNumeric 0 rfl) (by decide) ?_
  refine lv_istore_n hx hb (xb_d D_Checker_checkNumeric 1 rfl) rfl hl (by decide) rfl (fun ls hl => ?_)
  have hl : lv_has ls 4 [(2, .int 0), (0, .ref x0), (1, .int x1)] := hl
  refine lv_iconst (v := 0) hx hb (xb_d D_Checker_checkNumeric 2 rfl) (by decide) ?_
  refine lv_istore_n hx hb (xb_d D_Checker_checkNumeric 3 rfl) rfl hl (by decide) rfl (fun ls hl => ?_)
  have hl : lv_has ls 4 [(3, .int 0), (2, .int 0), (0, .ref x0), (1, .int x1)] := hl
  obtain ⟨n8, hw⟩ := hw
  exact am_Checker_checkNumeric_L4 l hfl D A σ MC MS h0 Qr Qt n8 x0 x1 0 0 h bc bs hw p e s m args below meth c hC H locs ls k n hE (lv_sub hl [2, 3, 1, 0] rfl) hR hS (by omega) (by omega)

theorem m_8c087939 : (.methodLink "StackHost$Checker" 137 y_Checker_checkExpression : Cond) ∈ xt_tbl := xt_in (xt_t4 (List.mem_of_getElem? (i := 131) (by decide +kernel))) (by decide +kernel)
theorem m_6cd68843 : (.instanceMethod y_Checker_checkExpression : Cond) ∈ xt_tbl := xt_in (xt_t4 (List.mem_of_getElem? (i := 133) (by decide +kernel))) (by decide +kernel)
theorem m_835be859 : (.selects "StackHost$Checker" y_Checker_checkExpression y_Checker_checkExpression : Cond) ∈ xt_tbl := xt_in (xt_v3 (q := (⟨"StackHost$Checker", "checkExpression", "(II)V"⟩, 17)) (List.mem_of_getElem? (i := 5) (by decide +kernel))) (by decide +kernel)
theorem m_8e908334 : (.code y_Checker_checkExpression b_Checker_checkExpression 5 none : Cond) ∈ xt_tbl := xt_in (xt_t4 (List.mem_of_getElem? (i := 134) (by decide +kernel))) (by decide +kernel)
theorem nm_Checker_checkExpression : xt_nm y_Checker_checkExpression 2 := ⟨by decide +kernel, by decide +kernel⟩
set_option maxRecDepth 100000 in
def T_Checker_checkOffset : List (Nat × Instr × Nat) := [(0, .aload_n 1, 1), (1, .iload_n 2, 1), (2, .iconst 1, 1), (3, .invokevirtual 121, 3), (6, .iload_n 3, 1), (7, .invokestatic 125, 3), (10, .ifCond .ne 18, 3), (13, .aload_n 0, 1), (14, .getfield 38, 3), (17, .bipush 20, 2), (19, .aload_n 1, 1), (20, .iload_n 2, 1), (21, .iconst 0, 1), (22, .invokevirtual 90, 3), (25, .invokevirtual 94, 3), (28, .aload_n 0, 1), (29, .aload_n 1, 1), (30, .iload_n 2, 1), (31, .iconst 2, 1), (32, .invokevirtual 90, 3), (35, .bipush 127, 2), (37, .invokevirtual 137, 3), (40, .return_, 1)]
theorem D_Checker_checkOffset : ∀ q ∈ T_Checker_checkOffset, decode b_Checker_checkOffset q.1 = .ok (q.2.1, q.2.2) := by decide +kernel
def w_Checker_checkOffset_L28 (Qr : xb_H → Prop) (Qt : String → xb_H → Prop) (x0 : Nat) (x1 : Nat) (x2 : Int32) (h : xb_H) (bc : Nat) (bs : Nat) : Prop :=
    xb_k h x1 = 2 ∧ w_Row_at x1 x2 2 h (fun (r3 : Int32) (h2 : xb_H) => xb_ext h h2 → xb_k h2 x0 = 5 ∧ ∃ c7 sc7 : Nat, c7 ≤ bc ∧ sc7 ≤ bs ∧ w_Checker_checkExpression x0 r3 127 h2 c7 sc7 (fun (h5 : xb_H) => xb_ext h2 h5 → Qr h5) Qt)

def w_Checker_checkOffset (x0 : Nat) (x1 : Nat) (x2 : Int32) (x3 : Int32) (h : xb_H) (bc : Nat) (bs : Nat) (Qr : xb_H → Prop) (Qt : String → xb_H → Prop) : Prop :=
    xb_k h x1 = 2 ∧ w_Row_longAt x1 x2 1 h (fun (r3 : Int64) (h2 : xb_H) => xb_ext h h2 → w_Checker_isThere r3 x3 h2 (fun (r5 : Int32) (h4 : xb_H) => xb_ext h2 h4 → ((¬ r5 = (0 : Int32) → w_Checker_checkOffset_L28 Qr Qt x0 x1 x2 h4 bc bs) ∧ (r5 = (0 : Int32) → xb_k h4 x0 = 5 ∧ ∃ b8 : Nat, (xb_r h4 x0 0) = some b8 ∧ w_Row_at x1 x2 0 h4 (fun (r10 : Int32) (h9 : xb_H) => xb_ext h4 h9 → xb_k h9 b8 = 3 ∧ ∃ c14 sc14 : Nat, c14 ≤ bc ∧ sc14 ≤ bs ∧ w_StackModule_fail b8 20 r10 h9 c14 sc14 (fun (h12 : xb_H) => xb_ext h9 h12 → w_Checker_checkOffset_L28 Qr Qt x0 x1 x2 h12 (bc - c14) (bs - sc14)) Qt)))))

set_option maxHeartbeats 4000000 in
set_option maxRecDepth 100000 in
theorem am_Checker_checkOffset_L28 (l : Launch) (hfl : l.flags = pinnedFlags ++ [noTraceFlag]) (D : va_G) (A : Nat → Prop) (σ MC MS : Nat) (h0 : xb_H) (Qr : xb_H → Prop) (Qt : String → xb_H → Prop) (x0 : Nat) (x1 : Nat) (x2 : Int32) (h : xb_H) (bc : Nat) (bs : Nat) (hw : w_Checker_checkOffset_L28 Qr Qt x0 x1 x2 h bc bs) : xb_am l D A σ 4 MC MS h0 (fun v h => v = none ∧ Qr h) Qt y_Checker_checkOffset.cls y_Checker_checkOffset.name b_Checker_checkOffset 4 ([] : List ExceptionTableEntry) none 28 [(0, .ref x0), (1, .ref x1), (2, .int x2)] [] h bc bs := by
  unfold w_Checker_checkOffset_L28 at hw
  intro p e s m args below meth c hC H locs ls k n hE hl hR hS hk hn
  obtain ⟨hx, hb, hown, hlocks, htab, hml, hr, hB, hA, hnm⟩ := id hC
  have hts := hB.1.1.at args
  refine lv_aload_n hx hb (xb_d D_Checker_checkOffset 15 rfl) rfl (lv_at hl 0 rfl) ?_
  refine lv_aload_n hx hb (xb_d D_Checker_checkOffset 16 rfl) rfl (lv_at hl 1 rfl) ?_
  refine lv_iload_n hx hb (xb_d D_Checker_checkOffset 17 rfl) rfl (lv_at hl 2 rfl) ?_
  refine lv_iconst (v := 2) hx hb (xb_d D_Checker_checkOffset 18 rfl) (by decide) ?_
  obtain ⟨hk1, hw⟩ := hw
  refine xb_call (D := D) (A := A) (σ := σ) (h := h) (d := 2) (mc := 0) (ms := 0) (maxL := 3) (rest := [.ref x0]) (av := [.ref x1, .int x2, .int 2]) (fun T hT X => by obtain ⟨cb, r1, r2, r3⟩ := xb_recv (ci := 1) hR rfl hk1 (by decide); exact xt_invV X hx hown (hts _ m_068feb96) (hts _ m_8e233096) (hts _ m_27eed10c) (xt_sigOf (hts _ m_ff1c70ae)) nm_Row_at (by rw [hT]; exact r1) r2 r3 (g := F0 m 32 ls [.int 2, .int x2, .ref x1, .ref x0]) rfl (argsL := [.int x2, .int 2]) (rest := [.ref x0]) rfl rfl (by rw [hb]; exact (xb_d D_Checker_checkOffset 19 rfl))) (ok_Row_at l hfl D A σ x1 x2 2 h _ hw) (hml.trans hl.1.symm) (by rw [hb]; exact (xb_d D_Checker_checkOffset 19 rfl)) (Nat.le_of_ble_eq_true rfl) (Nat.le_of_ble_eq_true rfl) (Nat.le_of_ble_eq_true rfl) (show k + 0 ≤ MC by omega) (show n + 0 ≤ MS by omega) (xt_w1 hB.1 m_ff1c70ae) (xt_cdOf hB.1 m_ff1c70ae) (hts _ m_c1bef504) hB hR hS hA (fun vv h2 H locs hq hEh2 hR hS => ?_) (fun XX ax h2 H locs hq hEh2 hex hR hS => ?_)
  · obtain ⟨r3, rfl, hw⟩ := hq
    have hw := hw hEh2
    have hE := hE.tr hEh2
    refine W.eq (g2 := F0 m 35 ls [.int r3, .ref x0]) rfl ?_
    refine lv_bipush (v := 127) hx hb (xb_d D_Checker_checkOffset 20 rfl) (by decide) ?_
    obtain ⟨hk4, hw⟩ := hw
    obtain ⟨c7, sc7, hlc7, hlsc7, hw⟩ := hw
    refine xb_call (D := D) (A := A) (σ := σ) (h := h2) (d := 3) (mc := c7) (ms := sc7) (maxL := 5) (rest := []) (av := [.ref x0, .int r3, .int 127]) (fun T hT X => by obtain ⟨cb, r1, r2, r3⟩ := xb_recv (ci := 4) hR rfl hk4 (by decide); exact xt_invV X hx hown (hts _ m_8c087939) (hts _ m_6cd68843) (hts _ m_835be859) (xt_sigOf (hts _ m_8e908334)) nm_Checker_checkExpression (by rw [hT]; exact r1) r2 r3 (g := F0 m 37 ls [.int 127, .int r3, .ref x0]) rfl (argsL := [.int r3, .int 127]) (rest := []) rfl rfl (by rw [hb]; exact (xb_d D_Checker_checkOffset 21 rfl))) (ok_Checker_checkExpression l hfl D A σ x0 r3 127 h2 c7 sc7 _ _ hw) (hml.trans hl.1.symm) (by rw [hb]; exact (xb_d D_Checker_checkOffset 21 rfl)) (Nat.le_of_ble_eq_true rfl) (Nat.le_of_ble_eq_true rfl) (Nat.le_of_ble_eq_true rfl) (show k + c7 ≤ MC by omega) (show n + sc7 ≤ MS by omega) (xt_w1 hB.1 m_8e908334) (xt_cdOf hB.1 m_8e908334) (hts _ m_44748ce5) hB hR hS hA (fun vv h5 H locs hq hEh5 hR hS => ?_) (fun XX ax h5 H locs hq hEh5 hex hR hS => ?_)
    · obtain ⟨rfl, hw⟩ := hq
      have hw := hw hEh5
      have hE := hE.tr hEh5
      refine W.eq (g2 := F0 m 40 ls []) rfl ?_
      exact xb_vret hx hb hr hlocks (show (k + c7) ≤ MC by omega) (show (n + sc7) ≤ MS by omega) hE hR hS (xb_d D_Checker_checkOffset 22 rfl) hw
    · exact xb_pass hlocks (fun x hx9 => by rw [htab] at hx9; first | cases hx9 | (simp [tableOf] at hx9; rcases hx9 with rfl | rfl | rfl <;> decide)) (show (k + c7) ≤ MC by omega) (show (n + sc7) ≤ MS by omega) (hE.tr hEh5) hR hS hex hq
  · exact False.elim hq

set_option maxHeartbeats 4000000 in
set_option maxRecDepth 100000 in
theorem ok_Checker_checkOffset (l : Launch) (hfl : l.flags = pinnedFlags ++ [noTraceFlag]) (D : va_G) (A : Nat → Prop) (σ : Nat) (x0 : Nat) (x1 : Nat) (x2 : Int32) (x3 : Int32) (h : xb_H) (bc : Nat) (bs : Nat) (Qr : xb_H → Prop) (Qt : String → xb_H → Prop) (hw : w_Checker_checkOffset x0 x1 x2 x3 h bc bs Qr Qt) : xt_Met l y_Checker_checkOffset [.code y_Checker_checkOffset b_Checker_checkOffset 4 none] (xb_rm 4 bc bs) (xb_Pc D A σ h [.ref x0, .ref x1, .int x2, .int x3]) (xb_Qc D A h (fun v h => v = none ∧ Qr h) Qt) bc bs A := by
  refine xb_ofAm (cc := b_Checker_checkOffset) (by decide) (Nat.le_of_ble_eq_true rfl) ?_
  unfold w_Checker_checkOffset at hw
  show xb_am l D A σ 4 bc bs h (fun v h => v = none ∧ Qr h) Qt y_Checker_checkOffset.cls y_Checker_checkOffset.name b_Checker_checkOffset 4 ([] : List ExceptionTableEntry) none 0 [(0, .ref x0), (1, .ref x1), (2, .int x2), (3, .int x3)] [] h bc bs
  obtain ⟨MC, hMC⟩ : ∃ x, x = bc := ⟨_, rfl⟩
  obtain ⟨MS, hMS⟩ : ∃ x, x = bs := ⟨_, rfl⟩
  rw [show xb_am l D A σ 4 bc bs = xb_am l D A σ 4 MC MS by rw [hMC, hMS]]
  obtain ⟨h0, hh0⟩ : ∃ x, x = h := ⟨_, rfl⟩
  rw [show xb_am l D A σ 4 MC MS h = xb_am l D A σ 4 MC MS h0 by rw [hh0]]
  intro p e s m args below meth c hC H locs ls k n hE hl hR hS hk hn
  obtain ⟨hx, hb, hown, hlocks, htab, hml, hr, hB, hA, hnm⟩ := id hC
  have hts := hB.1.1.at args
  refine lv_aload_n hx hb (xb_d D_Checker_checkOffset 0 rfl) rfl (lv_at hl 1 rfl) ?_
  refine lv_iload_n hx hb (xb_d D_Checker_checkOffset 1 rfl) rfl (lv_at hl 2 rfl) ?_
  refine lv_iconst (v := 1) hx hb (xb_d D_Checker_checkOffset 2 rfl) (by decide) ?_
  obtain ⟨hk1, hw⟩ := hw
  refine xb_call (D := D) (A := A) (σ := σ) (h := h) (d := 2) (mc := 0) (ms := 0) (maxL := 3) (rest := []) (av := [.ref x1, .int x2, .int 1]) (fun T hT X => by obtain ⟨cb, r1, r2, r3⟩ := xb_recv (ci := 1) hR rfl hk1 (by decide); exact xt_invV X hx hown (hts _ m_e00feb7e) (hts _ m_8db3b24f) (hts _ m_78dc30a4) (xt_sigOf (hts _ m_a4177401)) nm_Row_longAt (by rw [hT]; exact r1) r2 r3 (g := F0 m 3 ls [.int 1, .int x2, .ref x1]) rfl (argsL := [.int x2, .int 1]) (rest := []) rfl rfl (by rw [hb]; exact (xb_d D_Checker_checkOffset 3 rfl))) (ok_Row_longAt l hfl D A σ x1 x2 1 h _ hw) (hml.trans hl.1.symm) (by rw [hb]; exact (xb_d D_Checker_checkOffset 3 rfl)) (Nat.le_of_ble_eq_true rfl) (Nat.le_of_ble_eq_true rfl) (Nat.le_of_ble_eq_true rfl) (show k + 0 ≤ MC by omega) (show n + 0 ≤ MS by omega) (xt_w1 hB.1 m_a4177401) (xt_cdOf hB.1 m_a4177401) (hts _ m_c1bef504) hB hR hS hA (fun vv h2 H locs hq hEh2 hR hS => ?_) (fun XX ax h2 H locs hq hEh2 hex hR hS => ?_)
  · obtain ⟨r3, rfl, hw⟩ := hq
    have hw := hw hEh2
    have hE := hE.tr hEh2
    refine W.eq (g2 := F0 m 6 ls [.long r3]) rfl ?_
    refine lv_iload_n hx hb (xb_d D_Checker_checkOffset 4 rfl) rfl (lv_at hl 3 rfl) ?_
    refine xb_call (D := D) (A := A) (σ := σ) (h := h2) (d := 2) (mc := 0) (ms := 0) (maxL := 3) (rest := []) (av := [.long r3, .int x3]) (fun T hT X => xt_invS X hx hown (hts _ m_fe08b245) (hts _ m_9ad1e0af) (hts _ m_44748ce5) (xt_sgS (hts _ m_2237aee6)).1 (xt_sgS (hts _ m_2237aee6)).2 nm_Checker_isThere (g := F0 m 7 ls [.int x3, .long r3]) rfl (argsL := [.long r3, .int x3]) (rest := []) rfl rfl (by rw [hb]; exact (xb_d D_Checker_checkOffset 5 rfl))) (ok_Checker_isThere l hfl D A σ r3 x3 h2 _ hw) (hml.trans hl.1.symm) (by rw [hb]; exact (xb_d D_Checker_checkOffset 5 rfl)) (Nat.le_of_ble_eq_true rfl) (Nat.le_of_ble_eq_true rfl) (Nat.le_of_ble_eq_true rfl) (show k + 0 ≤ MC by omega) (show n + 0 ≤ MS by omega) (xt_w1 hB.1 m_2237aee6) (xt_cdOf hB.1 m_2237aee6) (hts _ m_44748ce5) hB hR hS hA (fun vv h4 H locs hq hEh4 hR hS => ?_) (fun XX ax h4 H locs hq hEh4 hex hR hS => ?_)
    · obtain ⟨r5, rfl, hw⟩ := hq
      have hw := hw hEh4
      have hE := hE.tr hEh4
      refine W.eq (g2 := F0 m 10 ls [.int r5]) rfl ?_
      refine lv_if_ne (tgt := 28) hx hb (xb_d D_Checker_checkOffset 6 rfl) rfl (fun hc6 => ?_) (fun hc6 => ?_)
      · have hw := hw.1 hc6
        exact am_Checker_checkOffset_L28 l hfl D A σ MC MS h0 Qr Qt x0 x1 x2 h4 bc bs hw p e s m args below meth c hC H locs ls k n hE (lv_sub hl [0, 1, 2] rfl) hR hS (by omega) (by omega)
      · have hw := hw.2 hc6
        refine lv_aload_n hx hb (xb_d D_Checker_checkOffset 7 rfl) rfl (lv_at hl 0 rfl) ?_
        obtain ⟨hk7, hw⟩ := hw
        refine xb_getP (C := R_Checker) (T := F_Checker) (N := 17) hx hb 4 0 hts fin_Checker hown hR hk7 (by decide) rfl (by decide) rfl (hts _ m_070795bc) (fun _ h9 => h9) (xb_d D_Checker_checkOffset 8 rfl) ?_
        obtain ⟨b8, eb8, hw⟩ := hw
        refine xb_some eb8 ?_
        refine lv_bipush (v := 20) hx hb (xb_d D_Checker_checkOffset 9 rfl) (by decide) ?_
        refine lv_aload_n hx hb (xb_d D_Checker_checkOffset 10 rfl) rfl (lv_at hl 1 rfl) ?_
        refine lv_iload_n hx hb (xb_d D_Checker_checkOffset 11 rfl) rfl (lv_at hl 2 rfl) ?_
        refine lv_iconst (v := 0) hx hb (xb_d D_Checker_checkOffset 12 rfl) (by decide) ?_
        have hk1 : xb_k h2 x1 = 2 := hEh2.k hk1
        have hk1 : xb_k h4 x1 = 2 := hEh4.k hk1
        refine xb_call (D := D) (A := A) (σ := σ) (h := h4) (d := 2) (mc := 0) (ms := 0) (maxL := 3) (rest := [.int 20, .ref b8]) (av := [.ref x1, .int x2, .int 0]) (fun T hT X => by obtain ⟨cb, r1, r2, r3⟩ := xb_recv (ci := 1) hR rfl hk1 (by decide); exact xt_invV X hx hown (hts _ m_068feb96) (hts _ m_8e233096) (hts _ m_27eed10c) (xt_sigOf (hts _ m_ff1c70ae)) nm_Row_at (by rw [hT]; exact r1) r2 r3 (g := F0 m 22 ls [.int 0, .int x2, .ref x1, .int 20, .ref b8]) rfl (argsL := [.int x2, .int 0]) (rest := [.int 20, .ref b8]) rfl rfl (by rw [hb]; exact (xb_d D_Checker_checkOffset 13 rfl))) (ok_Row_at l hfl D A σ x1 x2 0 h4 _ hw) (hml.trans hl.1.symm) (by rw [hb]; exact (xb_d D_Checker_checkOffset 13 rfl)) (Nat.le_of_ble_eq_true rfl) (Nat.le_of_ble_eq_true rfl) (Nat.le_of_ble_eq_true rfl) (show k + 0 ≤ MC by omega) (show n + 0 ≤ MS by omega) (xt_w1 hB.1 m_ff1c70ae) (xt_cdOf hB.1 m_ff1c70ae) (hts _ m_c1bef504) hB hR hS hA (fun vv h9 H locs hq hEh9 hR hS => ?_) (fun XX ax h9 H locs hq hEh9 hex hR hS => ?_)
        · obtain ⟨r10, rfl, hw⟩ := hq
          have hw := hw hEh9
          have hE := hE.tr hEh9
          refine W.eq (g2 := F0 m 25 ls [.int r10, .int 20, .ref b8]) rfl ?_
          obtain ⟨hk11, hw⟩ := hw
          obtain ⟨c14, sc14, hlc14, hlsc14, hw⟩ := hw
          refine xb_call (D := D) (A := A) (σ := σ) (h := h9) (d := 2) (mc := c14) (ms := sc14) (maxL := 3) (rest := []) (av := [.ref b8, .int 20, .int r10]) (fun T hT X => by obtain ⟨cb, r1, r2, r3⟩ := xb_recv (ci := 2) hR rfl hk11 (by decide); exact xt_invV X hx hown (hts _ m_1d37521a) (hts _ m_865d5b07) (hts _ m_113f8f75) (xt_sigOf (hts _ m_73e65e5f)) nm_StackModule_fail (by rw [hT]; exact r1) r2 r3 (g := F0 m 25 ls [.int r10, .int 20, .ref b8]) rfl (argsL := [.int 20, .int r10]) (rest := []) rfl rfl (by rw [hb]; exact (xb_d D_Checker_checkOffset 14 rfl))) (ok_StackModule_fail l hfl D A σ b8 20 r10 h9 c14 sc14 _ _ hw) (hml.trans hl.1.symm) (by rw [hb]; exact (xb_d D_Checker_checkOffset 14 rfl)) (Nat.le_of_ble_eq_true rfl) (Nat.le_of_ble_eq_true rfl) (Nat.le_of_ble_eq_true rfl) (show k + c14 ≤ MC by omega) (show n + sc14 ≤ MS by omega) (xt_w1 hB.1 m_73e65e5f) (xt_cdOf hB.1 m_73e65e5f) (hts _ m_9c375545) hB hR hS hA (fun vv h12 H locs hq hEh12 hR hS => ?_) (fun XX ax h12 H locs hq hEh12 hex hR hS => ?_)
          · obtain ⟨rfl, hw⟩ := hq
            have hw := hw hEh12
            have hE := hE.tr hEh12
            refine W.eq (g2 := F0 m 28 ls []) rfl ?_
            exact am_Checker_checkOffset_L28 l hfl D A σ MC MS h0 Qr Qt x0 x1 x2 h12 (bc - c14) (bs - sc14) hw p e s m args below meth c hC H locs ls (k + c14) (n + sc14) hE (lv_sub hl [0, 1, 2] rfl) hR hS (by omega) (by omega)
          · exact xb_pass hlocks (fun x hx9 => by rw [htab] at hx9; first | cases hx9 | (simp [tableOf] at hx9; rcases hx9 with rfl | rfl | rfl <;> decide)) (show (k + c14) ≤ MC by omega) (show (n + sc14) ≤ MS by omega) (hE.tr hEh12) hR hS hex hq
        · exact False.elim hq
    · exact False.elim hq
  · exact False.elim hq

set_option maxRecDepth 100000 in
def T_Checker_checkOpening : List (Nat × Instr × Nat) := [(0, .iload_n 1, 1), (1, .iconst 4, 1), (2, .if_icmp .ne 10, 3), (5, .aload_n 0, 1), (6, .bipush 127, 2), (8, .invokevirtual 251, 3), (11, .pop, 1), (12, .aload_n 0, 1), (13, .getfield 47, 3), (16, .aload_n 0, 1), (17, .getfield 196, 3), (20, .iconst 1, 1), (21, .iadd, 1), (22, .baload, 1), (23, .istore_n 2, 1), (24, .aload_n 0, 1), (25, .getfield 51, 3), (28, .aload_n 0, 1), (29, .getfield 196, 3), (32, .aload_n 0, 1), (33, .getfield 187, 3), (36, .iastore, 1), (37, .aload_n 0, 1), (38, .iload_n 1, 1), (39, .aload_n 0, 1), (40, .getfield 196, 3), (43, .iload_n 1, 1), (44, .iconst 3, 1), (45, .if_icmp .ne 8, 3), (48, .bipush 64, 2), (50, .goto 4, 3), (53, .iload_n 2, 1), (54, .iload_n 2, 1), (55, .invokevirtual 202, 3), (58, .return_, 1)]
theorem D_Checker_checkOpening : ∀ q ∈ T_Checker_checkOpening, decode b_Checker_checkOpening q.1 = .ok (q.2.1, q.2.2) := by decide +kernel
def w_Checker_checkOpening_L54 (Qr : xb_H → Prop) (Qt : String → xb_H → Prop) (x2 : Int32) (y0 : Int32) (y1 : Int32) (y2 : Int32) (y3 : Nat) (h : xb_H) (bc : Nat) (bs : Nat) : Prop :=
    xb_k h y3 = 5 ∧ w_Checker_openThing y3 y2 y1 y0 x2 h (fun (h2 : xb_H) => xb_ext h h2 → Qr h2)

def w_Checker_checkOpening_L12 (Qr : xb_H → Prop) (Qt : String → xb_H → Prop) (x0 : Nat) (x1 : Int32) (h : xb_H) (bc : Nat) (bs : Nat) : Prop :=
    xb_k h x0 = 5 ∧ ∃ b2 : Nat, (xb_r h x0 1) = some b2 ∧ xb_k h b2 = 100 ∧ vp_in ((xb_i h x0 9) + 1) (xb_n h b2) ∧ ∀ v5 : Int32, v5 = (xb_i h b2 (Int32.toNatClampNeg ((xb_i h x0 9) + 1))) → ∃ b6 : Nat, (xb_r h x0 2) = some b6 ∧ xb_k h b6 = 102 ∧ vp_in (xb_i h x0 9) (xb_n h b6) ∧ ∀ h9 : xb_H, h9 = xb_I h b6 (Int32.toNatClampNeg (xb_i h x0 9)) (xb_i h x0 4) → ((¬ x1 = (3 : Int32) → w_Checker_checkOpening_L54 Qr Qt v5 v5 (xb_i h9 x0 9) x1 x0 h9 bc bs) ∧ (x1 = (3 : Int32) → w_Checker_checkOpening_L54 Qr Qt v5 64 (xb_i h9 x0 9) x1 x0 h9 bc bs))

def w_Checker_checkOpening (x0 : Nat) (x1 : Int32) (h : xb_H) (bc : Nat) (bs : Nat) (Qr : xb_H → Prop) (Qt : String → xb_H → Prop) : Prop :=
    ((¬ x1 = (4 : Int32) → w_Checker_checkOpening_L12 Qr Qt x0 x1 h bc bs) ∧ (x1 = (4 : Int32) → xb_k h x0 = 5 ∧ ∃ c5 sc5 : Nat, c5 ≤ bc ∧ sc5 ≤ bs ∧ w_Checker_take x0 127 h c5 sc5 (fun (r4 : Int32) (h3 : xb_H) => xb_ext h h3 → w_Checker_checkOpening_L12 Qr Qt x0 x1 h3 (bc - c5) (bs - sc5)) Qt))

set_option maxHeartbeats 4000000 in
set_option maxRecDepth 100000 in
theorem am_Checker_checkOpening_L54 (l : Launch) (hfl : l.flags = pinnedFlags ++ [noTraceFlag]) (D : va_G) (A : Nat → Prop) (σ MC MS : Nat) (h0 : xb_H) (Qr : xb_H → Prop) (Qt : String → xb_H → Prop) (x2 : Int32) (y0 : Int32) (y1 : Int32) (y2 : Int32) (y3 : Nat) (h : xb_H) (bc : Nat) (bs : Nat) (hw : w_Checker_checkOpening_L54 Qr Qt x2 y0 y1 y2 y3 h bc bs) : xb_am l D A σ 4 MC MS h0 (fun v h => v = none ∧ Qr h) Qt y_Checker_checkOpening.cls y_Checker_checkOpening.name b_Checker_checkOpening 3 ([] : List ExceptionTableEntry) none 54 [(2, .int x2)] [.int y0, .int y1, .int y2, .ref y3] h bc bs := by
  unfold w_Checker_checkOpening_L54 at hw
  intro p e s m args below meth c hC H locs ls k n hE hl hR hS hk hn
  obtain ⟨hx, hb, hown, hlocks, htab, hml, hr, hB, hA, hnm⟩ := id hC
  have hts := hB.1.1.at args
  refine lv_iload_n hx hb (xb_d D_Checker_checkOpening 32 rfl) rfl (lv_at hl 0 rfl) ?_
  obtain ⟨hk1, hw⟩ := hw
  refine xb_call (D := D) (A := A) (σ := σ) (h := h) (d := 2) (mc := 0) (ms := 0) (maxL := 5) (rest := []) (av := [.ref y3, .int y2, .int y1, .int y0, .int x2]) (fun T hT X => by obtain ⟨cb, r1, r2, r3⟩ := xb_recv (ci := 4) hR rfl hk1 (by decide); exact xt_invV X hx hown (hts _ m_1d11d801) (hts _ m_4317fe73) (hts _ m_b4ed1ff8) (xt_sigOf (hts _ m_b39dcac6)) nm_Checker_openThing (by rw [hT]; exact r1) r2 r3 (g := F0 m 55 ls [.int x2, .int y0, .int y1, .int y2, .ref y3]) rfl (argsL := [.int y2, .int y1, .int y0, .int x2]) (rest := []) rfl rfl (by rw [hb]; exact (xb_d D_Checker_checkOpening 33 rfl))) (ok_Checker_openThing l hfl D A σ y3 y2 y1 y0 x2 h _ hw) (hml.trans hl.1.symm) (by rw [hb]; exact (xb_d D_Checker_checkOpening 33 rfl)) (Nat.le_of_ble_eq_true rfl) (Nat.le_of_ble_eq_true rfl) (Nat.le_of_ble_eq_true rfl) (show k + 0 ≤ MC by omega) (show n + 0 ≤ MS by omega) (xt_w1 hB.1 m_b39dcac6) (xt_cdOf hB.1 m_b39dcac6) (hts _ m_44748ce5) hB hR hS hA (fun vv h2 H locs hq hEh2 hR hS => ?_) (fun XX ax h2 H locs hq hEh2 hex hR hS => ?_)
  · obtain ⟨rfl, hw⟩ := hq
    have hw := hw hEh2
    have hE := hE.tr hEh2
    refine W.eq (g2 := F0 m 58 ls []) rfl ?_
    exact xb_vret hx hb hr hlocks (show k ≤ MC by omega) (show n ≤ MS by omega) hE hR hS (xb_d D_Checker_checkOpening 34 rfl) hw
  · exact False.elim hq

set_option maxHeartbeats 4000000 in
set_option maxRecDepth 100000 in
theorem am_Checker_checkOpening_L12 (l : Launch) (hfl : l.flags = pinnedFlags ++ [noTraceFlag]) (D : va_G) (A : Nat → Prop) (σ MC MS : Nat) (h0 : xb_H) (Qr : xb_H → Prop) (Qt : String → xb_H → Prop) (x0 : Nat) (x1 : Int32) (h : xb_H) (bc : Nat) (bs : Nat) (hw : w_Checker_checkOpening_L12 Qr Qt x0 x1 h bc bs) : xb_am l D A σ 4 MC MS h0 (fun v h => v = none ∧ Qr h) Qt y_Checker_checkOpening.cls y_Checker_checkOpening.name b_Checker_checkOpening 3 ([] : List ExceptionTableEntry) none 12 [(0, .ref x0), (1, .int x1)] [] h bc bs := by
  unfold w_Checker_checkOpening_L12 at hw
  intro p e s m args below meth c hC H locs ls k n hE hl hR hS hk hn
  obtain ⟨hx, hb, hown, hlocks, htab, hml, hr, hB, hA, hnm⟩ := id hC
  have hts := hB.1.1.at args
  refine lv_aload_n hx hb (xb_d D_Checker_checkOpening 7 rfl) rfl (lv_at hl 0 rfl) ?_
  obtain ⟨hk1, hw⟩ := hw
  refine xb_getP (C := R_Checker) (T := F_Checker) (N := 17) hx hb 4 1 hts fin_Checker hown hR hk1 (by decide) rfl (by decide) rfl (hts _ m_8db7c2eb) (fun _ h9 => h9) (xb_d D_Checker_checkOpening 8 rfl) ?_
  obtain ⟨b2, eb2, hw⟩ := hw
  refine xb_some eb2 ?_
  refine lv_aload_n hx hb (xb_d D_Checker_checkOpening 9 rfl) rfl (lv_at hl 0 rfl) ?_
  refine xb_getI (C := R_Checker) (T := F_Checker) (N := 17) hx hb 4 9 hts fin_Checker hown hR hk1 (by decide) rfl (by decide) rfl (hts _ m_28193d38) (fun _ h9 => h9) (xb_d D_Checker_checkOpening 10 rfl) ?_
  refine lv_iconst (v := 1) hx hb (xb_d D_Checker_checkOpening 11 rfl) (by decide) ?_
  refine lv_iadd hx hb (xb_d D_Checker_checkOpening 12 rfl) ?_
  obtain ⟨hk4, hw⟩ := hw
  obtain ⟨hi3, hw⟩ := hw
  refine xb_bald hx hb hR hk4 hi3 (xb_d D_Checker_checkOpening 13 rfl) ?_
  obtain ⟨v5, ev5⟩ : ∃ x : Int32, x = (xb_i h b2 (Int32.toNatClampNeg ((xb_i h x0 9) + 1))) := ⟨_, rfl⟩
  have hw := hw v5 ev5
  refine xt_numi (y := v5) ev5.symm ?_
  refine lv_istore_n hx hb (xb_d D_Checker_checkOpening 14 rfl) rfl hl (by decide) rfl (fun ls hl => ?_)
  have hl : lv_has ls 3 [(2, .int v5), (0, .ref x0), (1, .int x1)] := hl
  refine lv_aload_n hx hb (xb_d D_Checker_checkOpening 15 rfl) rfl (lv_at hl 1 rfl) ?_
  refine xb_getP (C := R_Checker) (T := F_Checker) (N := 17) hx hb 4 2 hts fin_Checker hown hR hk1 (by decide) rfl (by decide) rfl (hts _ m_b5ef1148) (fun _ h9 => h9) (xb_d D_Checker_checkOpening 16 rfl) ?_
  obtain ⟨b6, eb6, hw⟩ := hw
  refine xb_some eb6 ?_
  refine lv_aload_n hx hb (xb_d D_Checker_checkOpening 17 rfl) rfl (lv_at hl 1 rfl) ?_
  refine xb_getI (C := R_Checker) (T := F_Checker) (N := 17) hx hb 4 9 hts fin_Checker hown hR hk1 (by decide) rfl (by decide) rfl (hts _ m_28193d38) (fun _ h9 => h9) (xb_d D_Checker_checkOpening 18 rfl) ?_
  refine lv_aload_n hx hb (xb_d D_Checker_checkOpening 19 rfl) rfl (lv_at hl 1 rfl) ?_
  refine xb_getI (C := R_Checker) (T := F_Checker) (N := 17) hx hb 4 4 hts fin_Checker hown hR hk1 (by decide) rfl (by decide) rfl (hts _ m_b89190d5) (fun _ h9 => h9) (xb_d D_Checker_checkOpening 20 rfl) ?_
  obtain ⟨hk7, hw⟩ := hw
  obtain ⟨hi8, hw⟩ := hw
  refine xb_iast hx hb hR hS hk7 hi8 (xb_d D_Checker_checkOpening 21 rfl) (fun H locs hR hS => ?_)
  obtain ⟨h9, eh9⟩ : ∃ x : xb_H, x = xb_I h b6 (Int32.toNatClampNeg (xb_i h x0 9)) (xb_i h x0 4) := ⟨_, rfl⟩
  rw [← eh9] at hR
  have hw := hw h9 eh9
  have hE : xb_ext h0 h9 := by rw [eh9]; exact hE
  refine lv_aload_n hx hb (xb_d D_Checker_checkOpening 22 rfl) rfl (lv_at hl 1 rfl) ?_
  refine lv_iload_n hx hb (xb_d D_Checker_checkOpening 23 rfl) rfl (lv_at hl 2 rfl) ?_
  refine lv_aload_n hx hb (xb_d D_Checker_checkOpening 24 rfl) rfl (lv_at hl 1 rfl) ?_
  have hk1 : xb_k h9 x0 = 5 := by rw [eh9]; exact hk1
  refine xb_getI (C := R_Checker) (T := F_Checker) (N := 17) hx hb 4 9 hts fin_Checker hown hR hk1 (by decide) rfl (by decide) rfl (hts _ m_28193d38) (fun _ h9 => h9) (xb_d D_Checker_checkOpening 25 rfl) ?_
  refine lv_iload_n hx hb (xb_d D_Checker_checkOpening 26 rfl) rfl (lv_at hl 2 rfl) ?_
  refine lv_iconst (v := 3) hx hb (xb_d D_Checker_checkOpening 27 rfl) (by decide) ?_
  refine lv_icmp_ne (tgt := 53) hx hb (xb_d D_Checker_checkOpening 28 rfl) rfl (fun hc10 => ?_) (fun hc10 => ?_)
  · have hw := hw.1 hc10
    refine lv_iload_n hx hb (xb_d D_Checker_checkOpening 31 rfl) rfl (lv_at hl 0 rfl) ?_
    exact am_Checker_checkOpening_L54 l hfl D A σ MC MS h0 Qr Qt v5 v5 (xb_i h9 x0 9) x1 x0 h9 bc bs hw p e s m args below meth c hC H locs ls k n hE (lv_sub hl [0] rfl) hR hS (by omega) (by omega)
  · have hw := hw.2 hc10
    refine lv_bipush (v := 64) hx hb (xb_d D_Checker_checkOpening 29 rfl) (by decide) ?_
    refine lv_goto (tgt := 54) hx hb (xb_d D_Checker_checkOpening 30 rfl) rfl ?_
    exact am_Checker_checkOpening_L54 l hfl D A σ MC MS h0 Qr Qt v5 64 (xb_i h9 x0 9) x1 x0 h9 bc bs hw p e s m args below meth c hC H locs ls k n hE (lv_sub hl [0] rfl) hR hS (by omega) (by omega)

set_option maxHeartbeats 4000000 in
set_option maxRecDepth 100000 in
theorem ok_Checker_checkOpening (l : Launch) (hfl : l.flags = pinnedFlags ++ [noTraceFlag]) (D : va_G) (A : Nat → Prop) (σ : Nat) (x0 : Nat) (x1 : Int32) (h : xb_H) (bc : Nat) (bs : Nat) (Qr : xb_H → Prop) (Qt : String → xb_H → Prop) (hw : w_Checker_checkOpening x0 x1 h bc bs Qr Qt) : xt_Met l y_Checker_checkOpening [.code y_Checker_checkOpening b_Checker_checkOpening 3 none] (xb_rm 4 bc bs) (xb_Pc D A σ h [.ref x0, .int x1]) (xb_Qc D A h (fun v h => v = none ∧ Qr h) Qt) bc bs A := by
  refine xb_ofAm (cc := b_Checker_checkOpening) (by decide) (Nat.le_of_ble_eq_true rfl) ?_
  unfold w_Checker_checkOpening at hw
  show xb_am l D A σ 4 bc bs h (fun v h => v = none ∧ Qr h) Qt y_Checker_checkOpening.cls y_Checker_checkOpening.name b_Checker_checkOpening 3 ([] : List ExceptionTableEntry) none 0 [(0, .ref x0), (1, .int x1)] [] h bc bs
  obtain ⟨MC, hMC⟩ : ∃ x, x = bc := ⟨_, rfl⟩
  obtain ⟨MS, hMS⟩ : ∃ x, x = bs := ⟨_, rfl⟩
  rw [show xb_am l D A σ 4 bc bs = xb_am l D A σ 4 MC MS by rw [hMC, hMS]]
  obtain ⟨h0, hh0⟩ : ∃ x, x = h := ⟨_, rfl⟩
  rw [show xb_am l D A σ 4 MC MS h = xb_am l D A σ 4 MC MS h0 by rw [hh0]]
  intro p e s m args below meth c hC H locs ls k n hE hl hR hS hk hn
  obtain ⟨hx, hb, hown, hlocks, htab, hml, hr, hB, hA, hnm⟩ := id hC
  have hts := hB.1.1.at args
  refine lv_iload_n hx hb (xb_d D_Checker_checkOpening 0 rfl) rfl (lv_at hl 1 rfl) ?_
  refine lv_iconst (v := 4) hx hb (xb_d D_Checker_checkOpening 1 rfl) (by decide) ?_
  refine lv_icmp_ne (tgt := 12) hx hb (xb_d D_Checker_checkOpening 2 rfl) rfl (fun hc1 => ?_) (fun hc1 => ?_)
  · have hw := hw.1 hc1
    exact am_Checker_checkOpening_L12 l hfl D A σ MC MS h0 Qr Qt x0 x1 h bc bs hw p e s m args below meth c hC H locs ls k n hE (lv_sub hl [0, 1] rfl) hR hS (by omega) (by omega)
  · have hw := hw.2 hc1
    refine lv_aload_n hx hb (xb_d D_Checker_checkOpening 3 rfl) rfl (lv_at hl 0 rfl) ?_
    refine lv_bipush (v := 127) hx hb (xb_d D_Checker_checkOpening 4 rfl) (by decide) ?_
    obtain ⟨hk2, hw⟩ := hw
    obtain ⟨c5, sc5, hlc5, hlsc5, hw⟩ := hw
    refine xb_call (D := D) (A := A) (σ := σ) (h := h) (d := 3) (mc := c5) (ms := sc5) (maxL := 3) (rest := []) (av := [.ref x0, .int 127]) (fun T hT X => by obtain ⟨cb, r1, r2, r3⟩ := xb_recv (ci := 4) hR rfl hk2 (by decide); exact xt_invV X hx hown (hts _ m_0b33e20f) (hts _ m_338dda25) (hts _ m_d7dc08f9) (xt_sigOf (hts _ m_b71cce2b)) nm_Checker_take (by rw [hT]; exact r1) r2 r3 (g := F0 m 8 ls [.int 127, .ref x0]) rfl (argsL := [.int 127]) (rest := []) rfl rfl (by rw [hb]; exact (xb_d D_Checker_checkOpening 5 rfl))) (ok_Checker_take l hfl D A σ x0 127 h c5 sc5 _ _ hw) (hml.trans hl.1.symm) (by rw [hb]; exact (xb_d D_Checker_checkOpening 5 rfl)) (Nat.le_of_ble_eq_true rfl) (Nat.le_of_ble_eq_true rfl) (Nat.le_of_ble_eq_true rfl) (show k + c5 ≤ MC by omega) (show n + sc5 ≤ MS by omega) (xt_w1 hB.1 m_b71cce2b) (xt_cdOf hB.1 m_b71cce2b) (hts _ m_44748ce5) hB hR hS hA (fun vv h3 H locs hq hEh3 hR hS => ?_) (fun XX ax h3 H locs hq hEh3 hex hR hS => ?_)
    · obtain ⟨r4, rfl, hw⟩ := hq
      have hw := hw hEh3
      have hE := hE.tr hEh3
      refine W.eq (g2 := F0 m 11 ls [.int r4]) rfl ?_
      refine lv_pop hx hb (xb_d D_Checker_checkOpening 6 rfl) rfl ?_
      exact am_Checker_checkOpening_L12 l hfl D A σ MC MS h0 Qr Qt x0 x1 h3 (bc - c5) (bs - sc5) hw p e s m args below meth c hC H locs ls (k + c5) (n + sc5) hE (lv_sub hl [0, 1] rfl) hR hS (by omega) (by omega)
    · exact xb_pass hlocks (fun x hx9 => by rw [htab] at hx9; first | cases hx9 | (simp [tableOf] at hx9; rcases hx9 with rfl | rfl | rfl <;> decide)) (show (k + c5) ≤ MC by omega) (show (n + sc5) ≤ MS by omega) (hE.tr hEh3) hR hS hex hq

