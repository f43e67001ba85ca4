theorem m_325c67ec : (.methodLink "StackHost$Reader" 73 y_Reader_limitTo : Cond) ∈ xt_tbl := xt_in (xt_t3 (List.mem_of_getElem? (i := 191) (by decide +kernel))) (by decide +kernel)
theorem m_aae9c79d : (.instanceMethod y_Reader_limitTo : Cond) ∈ xt_tbl := xt_in (xt_t3 (List.mem_of_getElem? (i := 193) (by decide +kernel))) (by decide +kernel)
theorem m_77da441a : (.selects "StackHost$Reader" y_Reader_limitTo y_Reader_limitTo : Cond) ∈ xt_tbl := xt_in (xt_v1 (q := (⟨"StackHost$Reader", "limitTo", "(I)V"⟩, 6)) (List.mem_of_getElem? (i := 5) (by decide +kernel))) (by decide +kernel)
theorem m_436ffbb5 : (.code y_Reader_limitTo b_Reader_limitTo 2 none : Cond) ∈ xt_tbl := xt_in (xt_t3 (List.mem_of_getElem? (i := 194) (by decide +kernel))) (by decide +kernel)
theorem m_d5d63d05 : (.methodLink "StackHost$Reader" 58 y_Row_lines : Cond) ∈ xt_tbl := xt_in (xt_t4 (List.mem_of_getElem? (i := 74) (by decide +kernel))) (by decide +kernel)
theorem m_a003c873 : (.methodLink "StackHost$Reader" 184 y_Reader_readLocals : Cond) ∈ xt_tbl := xt_in (xt_t4 (List.mem_of_getElem? (i := 82) (by decide +kernel))) (by decide +kernel)
theorem m_7bbbebb7 : (.instanceMethod y_Reader_readLocals : Cond) ∈ xt_tbl := xt_in (xt_t4 (List.mem_of_getElem? (i := 84) (by decide +kernel))) (by decide +kernel)
theorem m_9f15dbe0 : (.selects "StackHost$Reader" y_Reader_readLocals y_Reader_readLocals : Cond) ∈ xt_tbl := xt_in (xt_v2 (q := (⟨"StackHost$Reader", "readLocals", "()I"⟩, 6)) (List.mem_of_getElem? (i := 14) (by decide +kernel))) (by decide +kernel)
theorem m_7f51cc8a : (.code y_Reader_readLocals b_Reader_readLocals 10 (some .int) : Cond) ∈ xt_tbl := xt_in (xt_t4 (List.mem_of_getElem? (i := 85) (by decide +kernel))) (by decide +kernel)
theorem m_4dbee54b : (.fieldLink "StackHost$Reader" 54 "StackHost$StackModule" "bodies" "LStackHost$Row;" : Cond) ∈ xt_tbl := xt_in (xt_t3 (List.mem_of_getElem? (i := 101) (by decide +kernel))) (by decide +kernel)
theorem m_90e667a6 : (.methodLink "StackHost$Reader" 166 y_Reader_readExpression : Cond) ∈ xt_tbl := xt_in (xt_t4 (List.mem_of_getElem? (i := 27) (by decide +kernel))) (by decide +kernel)
theorem m_02684d67 : (.instanceMethod y_Reader_readExpression : Cond) ∈ xt_tbl := xt_in (xt_t4 (List.mem_of_getElem? (i := 29) (by decide +kernel))) (by decide +kernel)
theorem m_97aecff3 : (.selects "StackHost$Reader" y_Reader_readExpression y_Reader_readExpression : Cond) ∈ xt_tbl := xt_in (xt_v2 (q := (⟨"StackHost$Reader", "readExpression", "()V"⟩, 6)) (List.mem_of_getElem? (i := 3) (by decide +kernel))) (by decide +kernel)
theorem m_150d97f6 : (.code y_Reader_readExpression b_Reader_readExpression 6 none : Cond) ∈ xt_tbl := xt_in (xt_t4 (List.mem_of_getElem? (i := 30) (by decide +kernel))) (by decide +kernel)
theorem nm_Reader_limitTo : xt_nm y_Reader_limitTo 1 := ⟨by decide +kernel, by decide +kernel⟩
theorem nm_Reader_readLocals : xt_nm y_Reader_readLocals 0 := ⟨by decide +kernel, by decide +kernel⟩
theorem nm_Reader_readExpression : xt_nm y_Reader_readExpression 0 := ⟨by decide +kernel, by decide +kernel⟩
set_option maxRecDepth 100000 in
def T_Reader_readBody : List (Nat × Instr × Nat) := [(0, .aload_n 0, 1), (1, .getfield 30, 3), (4, .istore_n 1, 1), (5, .aload_n 0, 1), (6, .aload_n 0, 1), (7, .invokevirtual 70, 3), (10, .invokevirtual 73, 3), (13, .aload_n 0, 1), (14, .getfield 15, 3), (17, .getfield 181, 3), (20, .invokevirtual 58, 3), (23, .istore_n 2, 1), (24, .aload_n 0, 1), (25, .invokevirtual 184, 3), (28, .istore_n 3, 1), (29, .aload_n 0, 1), (30, .getfield 15, 3), (33, .getfield 54, 3), (36, .aload_n 0, 1), (37, .getfield 41, 3), (40, .i2l, 1), (41, .invokevirtual 87, 3), (44, .aload_n 0, 1), (45, .getfield 15, 3), (48, .getfield 54, 3), (51, .iload_n 3, 1), (52, .i2l, 1), (53, .invokevirtual 87, 3), (56, .aload_n 0, 1), (57, .getfield 15, 3), (60, .getfield 54, 3), (63, .iload_n 2, 1), (64, .i2l, 1), (65, .invokevirtual 87, 3), (68, .aload_n 0, 1), (69, .getfield 15, 3), (72, .getfield 54, 3), (75, .aload_n 0, 1), (76, .getfield 15, 3), (79, .getfield 181, 3), (82, .invokevirtual 58, 3), (85, .iload_n 2, 1), (86, .isub, 1), (87, .i2l, 1), (88, .invokevirtual 87, 3), (91, .aload_n 0, 1), (92, .getfield 15, 3), (95, .getfield 54, 3), (98, .lconst 0, 1), (99, .invokevirtual 87, 3), (102, .aload_n 0, 1), (103, .invokevirtual 166, 3), (106, .aload_n 0, 1), (107, .getfield 41, 3), (110, .aload_n 0, 1), (111, .getfield 30, 3), (114, .if_icmp .ge 16, 3), (117, .aload_n 0, 1), (118, .getfield 15, 3), (121, .bipush 7, 2), (123, .aload_n 0, 1), (124, .getfield 41, 3), (127, .invokevirtual 37, 3), (130, .aload_n 0, 1), (131, .iload_n 1, 1), (132, .putfield 30, 3), (135, .return_, 1)]
theorem D_Reader_readBody : ∀ q ∈ T_Reader_readBody, decode b_Reader_readBody q.1 = .ok (q.2.1, q.2.2) := by decide +kernel
def w_Reader_readBody_L130 (Qr : xb_H → Prop) (Qt : String → xb_H → Prop) (x0 : Nat) (x1 : Int32) (h : xb_H) (bc : Nat) (bs : Nat) : Prop :=
    xb_k h x0 = 4 ∧ ∀ h2 : xb_H, h2 = xb_I h x0 4 x1 → Qr h2

def w_Reader_readBody (x0 : Nat) (h : xb_H) (bc : Nat) (bs : Nat) (Qr : xb_H → Prop) (Qt : String → xb_H → Prop) : Prop :=
    xb_k h x0 = 4 ∧ ∀ v2 : Int32, v2 = (xb_i h x0 4) → ∃ c5 sc5 : Nat, c5 ≤ bc ∧ sc5 ≤ bs ∧ w_Reader_count x0 h c5 sc5 (fun (r4 : Int32) (h3 : xb_H) => xb_ext h h3 → ∃ c8 sc8 : Nat, c8 ≤ (bc - c5) ∧ sc8 ≤ (bs - sc5) ∧ w_Reader_limitTo x0 r4 h3 c8 sc8 (fun (h6 : xb_H) => xb_ext h3 h6 → ∃ b9 : Nat, (xb_r h6 x0 0) = some b9 ∧ xb_k h6 b9 = 3 ∧ ∃ b11 : Nat, (xb_r h6 b9 12) = some b11 ∧ xb_k h6 b11 = 2 ∧ w_Row_lines b11 h6 (fun (r14 : Int32) (h13 : xb_H) => xb_ext h6 h13 → ∃ c17 sc17 : Nat, c17 ≤ ((bc - c5) - c8) ∧ sc17 ≤ ((bs - sc5) - sc8) ∧ w_Reader_readLocals x0 h13 c17 sc17 (fun (r16 : Int32) (h15 : xb_H) => xb_ext h13 h15 → ∃ b18 : Nat, (xb_r h15 x0 0) = some b18 ∧ xb_k h15 b18 = 3 ∧ ∃ b20 : Nat, (xb_r h15 b18 11) = some b20 ∧ xb_k h15 b20 = 2 ∧ ∃ c24 sc24 : Nat, c24 ≤ (((bc - c5) - c8) - c17) ∧ sc24 ≤ (((bs - sc5) - sc8) - sc17) ∧ w_Row_add b20 (Int32.toInt64 (xb_i h15 x0 3)) h15 c24 sc24 (fun (h22 : xb_H) => xb_ext h15 h22 → ∃ b25 : Nat, (xb_r h22 x0 0) = some b25 ∧ xb_k h22 b25 = 3 ∧ ∃ b27 : Nat, (xb_r h22 b25 11) = some b27 ∧ xb_k h22 b27 = 2 ∧ ∃ c31 sc31 : Nat, c31 ≤ ((((bc - c5) - c8) - c17) - c24) ∧ sc31 ≤ ((((bs - sc5) - sc8) - sc17) - sc24) ∧ w_Row_add b27 (Int32.toInt64 r16) h22 c31 sc31 (fun (h29 : xb_H) => xb_ext h22 h29 → ∃ b32 : Nat, (xb_r h29 x0 0) = some b32 ∧ xb_k h29 b32 = 3 ∧ ∃ b34 : Nat, (xb_r h29 b32 11) = some b34 ∧ xb_k h29 b34 = 2 ∧ ∃ c38 sc38 : Nat, c38 ≤ (((((bc - c5) - c8) - c17) - c24) - c31) ∧ sc38 ≤ (((((bs - sc5) - sc8) - sc17) - sc24) - sc31) ∧ w_Row_add b34 (Int32.toInt64 r14) h29 c38 sc38 (fun (h36 : xb_H) => xb_ext h29 h36 → ∃ b39 : Nat, (xb_r h36 x0 0) = some b39 ∧ xb_k h36 b39 = 3 ∧ ∃ b41 : Nat, (xb_r h36 b39 11) = some b41 ∧ ∃ b42 : Nat, (xb_r h36 x0 0) = some b42 ∧ xb_k h36 b42 = 3 ∧ ∃ b44 : Nat, (xb_r h36 b42 12) = some b44 ∧ xb_k h36 b44 = 2 ∧ w_Row_lines b44 h36 (fun (r47 : Int32) (h46 : xb_H) => xb_ext h36 h46 → xb_k h46 b41 = 2 ∧ ∃ c51 sc51 : Nat, c51 ≤ ((((((bc - c5) - c8) - c17) - c24) - c31) - c38) ∧ sc51 ≤ ((((((bs - sc5) - sc8) - sc17) - sc24) - sc31) - sc38) ∧ w_Row_add b41 (Int32.toInt64 (r47 - r14)) h46 c51 sc51 (fun (h49 : xb_H) => xb_ext h46 h49 → ∃ b52 : Nat, (xb_r h49 x0 0) = some b52 ∧ xb_k h49 b52 = 3 ∧ ∃ b54 : Nat, (xb_r h49 b52 11) = some b54 ∧ xb_k h49 b54 = 2 ∧ ∃ c58 sc58 : Nat, c58 ≤ (((((((bc - c5) - c8) - c17) - c24) - c31) - c38) - c51) ∧ sc58 ≤ (((((((bs - sc5) - sc8) - sc17) - sc24) - sc31) - sc38) - sc51) ∧ w_Row_add b54 0 h49 c58 sc58 (fun (h56 : xb_H) => xb_ext h49 h56 → ∃ c61 sc61 : Nat, c61 ≤ ((((((((bc - c5) - c8) - c17) - c24) - c31) - c38) - c51) - c58) ∧ sc61 ≤ ((((((((bs - sc5) - sc8) - sc17) - sc24) - sc31) - sc38) - sc51) - sc58) ∧ w_Reader_readExpression x0 h56 c61 sc61 (fun (h59 : xb_H) => xb_ext h56 h59 → (((xb_i h59 x0 4) ≤ (xb_i h59 x0 3) → w_Reader_readBody_L130 Qr Qt x0 v2 h59 (((((((((bc - c5) - c8) - c17) - c24) - c31) - c38) - c51) - c58) - c61) (((((((((bs - sc5) - sc8) - sc17) - sc24) - sc31) - sc38) - sc51) - sc58) - sc61)) ∧ (¬ (xb_i h59 x0 4) ≤ (xb_i h59 x0 3) → ∃ b63 : Nat, (xb_r h59 x0 0) = some b63 ∧ xb_k h59 b63 = 3 ∧ ∃ c67 sc67 : Nat, c67 ≤ (((((((((bc - c5) - c8) - c17) - c24) - c31) - c38) - c51) - c58) - c61) ∧ sc67 ≤ (((((((((bs - sc5) - sc8) - sc17) - sc24) - sc31) - sc38) - sc51) - sc58) - sc61) ∧ w_StackModule_fail b63 7 (xb_i h59 x0 3) h59 c67 sc67 (fun (h65 : xb_H) => xb_ext h59 h65 → w_Reader_readBody_L130 Qr Qt x0 v2 h65 ((((((((((bc - c5) - c8) - c17) - c24) - c31) - c38) - c51) - c58) - c61) - c67) ((((((((((bs - sc5) - sc8) - sc17) - sc24) - sc31) - sc38) - sc51) - sc58) - sc61) - sc67)) Qt))) Qt))))))) Qt)) Qt) Qt

set_option maxHeartbeats 4000000 in
set_option maxRecDepth 100000 in
theorem am_Reader_readBody_L130 (l : Launch) (hfl : l.flags = pinnedFlags ++ [noTraceFlag]) (D : va_G) (A : Nat → Prop) (σ MC MS : Nat) (h0 : xb_H) (Qr : xb_H → Prop) (Qt : String → xb_H → Prop) (x0 : Nat) (x1 : Int32) (h : xb_H) (bc : Nat) (bs : Nat) (hw : w_Reader_readBody_L130 Qr Qt x0 x1 h bc bs) : xb_am l D A σ 6 MC MS h0 (fun v h => v = none ∧ Qr h) Qt y_Reader_readBody.cls y_Reader_readBody.name b_Reader_readBody 4 ([] : List ExceptionTableEntry) none 130 [(0, .ref x0), (1, .int x1)] [] h bc bs := by
  unfold w_Reader_readBody_L130 at hw
  intro p e s m args below meth c hC H locs ls k n hE hl hR hS hk hn
  obtain ⟨hx, hb, hown, hlocks, htab, hml, hr, hB, hA, hnm⟩ := id hC
  have hts := hB.1.1.at args
  refine lv_aload_n hx hb (xb_d D_Reader_readBody 63 rfl) rfl (lv_at hl 0 rfl) ?_
  refine lv_iload_n hx hb (xb_d D_Reader_readBody 64 rfl) rfl (lv_at hl 1 rfl) ?_
  obtain ⟨hk1, hw⟩ := hw
  refine xb_putI (C := R_Reader) (T := F_Reader) (N := 6) (ty := .int) (x := x1) hx hb 3 4 hts fin_Reader t_Reader t_Reader_ok n_Reader hown hR hS hk1 (by decide) rfl (by decide) rfl (hts _ m_49916c4b) (fun _ h9 => h9) rfl (by decide +kernel) rfl rfl (xb_d D_Reader_readBody 65 rfl) (fun H locs hR hS => ?_)
  obtain ⟨h2, eh2⟩ : ∃ x : xb_H, x = xb_I h x0 4 x1 := ⟨_, rfl⟩
  rw [← eh2] at hR
  have hw := hw h2 eh2
  have hE : xb_ext h0 h2 := by rw [eh2]; exact hE
  exact xb_vret hx hb hr hlocks (show k ≤ MC by omega) (show n ≤ MS by omega) hE hR hS (xb_d D_Reader_readBody 66 rfl) hw

set_option maxHeartbeats 4000000 in
set_option maxRecDepth 100000 in
theorem ok_Reader_readBody (l : Launch) (hfl : l.flags = pinnedFlags ++ [noTraceFlag]) (D : va_G) (A : Nat → Prop) (σ : Nat) (x0 : Nat) (h : xb_H) (bc : Nat) (bs : Nat) (Qr : xb_H → Prop) (Qt : String → xb_H → Prop) (hw : w_Reader_readBody x0 h bc bs Qr Qt) : xt_Met l y_Reader_readBody [.code y_Reader_readBody b_Reader_readBody 4 none] (xb_rm 6 bc bs) (xb_Pc D A σ h [.ref x0]) (xb_Qc D A h (fun v h => v = none ∧ Qr h) Qt) bc bs A := by
  refine xb_ofAm (cc := b_Reader_readBody) (by decide) (Nat.le_of_ble_eq_true rfl) ?_
  unfold w_Reader_readBody at hw
  show xb_am l D A σ 6 bc bs h (fun v h => v = none ∧ Qr h) Qt y_Reader_readBody.cls y_Reader_readBody.name b_Reader_readBody 4 ([] : List ExceptionTableEntry) none 0 [(0, .ref x0)] [] h bc bs
  obtain ⟨MC, hMC⟩ : ∃ x, x = bc := ⟨_, rfl⟩
  obtain ⟨MS, hMS⟩ : ∃ x, x = bs := ⟨_, rfl⟩
  rw [show xb_am l D A σ 6 bc bs = xb_am l D A σ 6 MC MS by rw [hMC, hMS]]
  obtain ⟨h0, hh0⟩ : ∃ x, x = h := ⟨_, rfl⟩
  rw [show xb_am l D A σ 6 MC MS h = xb_am l D A σ 6 MC MS h0 by rw [hh0]]
  intro p e s m args below meth c hC H locs ls k n hE hl hR hS hk hn
  obtain ⟨hx, hb, hown, hlocks, htab, hml, hr, hB, hA, hnm⟩ := id hC
  have hts := hB.1.1.at args
  refine lv_aload_n hx hb (xb_d D_Reader_readBody 0 rfl) rfl (lv_at hl 0 rfl) ?_
  obtain ⟨hk1, hw⟩ := hw
  refine xb_getI (C := R_Reader) (T := F_Reader) (N := 6) hx hb 3 4 hts fin_Reader hown hR hk1 (by decide) rfl (by decide) rfl (hts _ m_49916c4b) (fun _ h9 => h9) (xb_d D_Reader_readBody 1 rfl) ?_
  obtain ⟨v2, ev2⟩ : ∃ x : Int32, x = (xb_i h x0 4) := ⟨_, rfl⟩
  have hw := hw v2 ev2
  refine xt_numi (y := v2) ev2.symm ?_
  refine lv_istore_n hx hb (xb_d D_Reader_readBody 2 rfl) rfl hl (by decide) rfl (fun ls hl => ?_)
  have hl : lv_has ls 4 [(1, .int v2), (0, .ref x0)] := hl
  refine lv_aload_n hx hb (xb_d D_Reader_readBody 3 rfl) rfl (lv_at hl 1 rfl) ?_
  refine lv_aload_n hx hb (xb_d D_Reader_readBody 4 rfl) rfl (lv_at hl 1 rfl) ?_
  obtain ⟨c5, sc5, hlc5, hlsc5, hw⟩ := hw
  refine xb_call (D := D) (A := A) (σ := σ) (h := h) (d := 3) (mc := c5) (ms := sc5) (maxL := 4) (rest := [.ref x0]) (av := [.ref x0]) (fun T hT X => by obtain ⟨cb, r1, r2, r3⟩ := xb_recv (ci := 3) hR rfl hk1 (by decide); exact xt_invV X hx hown (hts _ m_2c379b4d) (hts _ m_a120e786) (hts _ m_e903c73e) (xt_sigOf (hts _ m_99690a98)) nm_Reader_count (by rw [hT]; exact r1) r2 r3 (g := F0 m 7 ls [.ref x0, .ref x0]) rfl (argsL := []) (rest := [.ref x0]) rfl rfl (by rw [hb]; exact (xb_d D_Reader_readBody 5 rfl))) (ok_Reader_count l hfl D A σ x0 h c5 sc5 _ _ hw) (hml.trans hl.1.symm) (by rw [hb]; exact (xb_d D_Reader_readBody 5 rfl)) (Nat.le_of_ble_eq_true rfl) (Nat.le_of_ble_eq_true rfl) (Nat.le_of_ble_eq_true rfl) (show k + c5 ≤ MC by omega) (show n + sc5 ≤ MS by omega) (xt_w1 hB.1 m_99690a98) (xt_cdOf hB.1 m_99690a98) (hts _ m_938fcec4) hB hR hS hA (fun vv h3 H locs hq hEh3 hR hS => ?_) (fun XX ax h3 H locs hq hEh3 hex hR hS => ?_)
  · obtain ⟨r4, rfl, hw⟩ := hq
    have hw := hw hEh3
    have hE := hE.tr hEh3
    refine W.eq (g2 := F0 m 10 ls [.int r4, .ref x0]) rfl ?_
    have hk1 : xb_k h3 x0 = 4 := hEh3.k hk1
    obtain ⟨c8, sc8, hlc8, hlsc8, hw⟩ := hw
    refine xb_call (D := D) (A := A) (σ := σ) (h := h3) (d := 3) (mc := c8) (ms := sc8) (maxL := 2) (rest := []) (av := [.ref x0, .int r4]) (fun T hT X => by obtain ⟨cb, r1, r2, r3⟩ := xb_recv (ci := 3) hR rfl hk1 (by decide); exact xt_invV X hx hown (hts _ m_325c67ec) (hts _ m_aae9c79d) (hts _ m_77da441a) (xt_sigOf (hts _ m_436ffbb5)) nm_Reader_limitTo (by rw [hT]; exact r1) r2 r3 (g := F0 m 10 ls [.int r4, .ref x0]) rfl (argsL := [.int r4]) (rest := []) rfl rfl (by rw [hb]; exact (xb_d D_Reader_readBody 6 rfl))) (ok_Reader_limitTo l hfl D A σ x0 r4 h3 c8 sc8 _ _ hw) (hml.trans hl.1.symm) (by rw [hb]; exact (xb_d D_Reader_readBody 6 rfl)) (Nat.le_of_ble_eq_true rfl) (Nat.le_of_ble_eq_true rfl) (Nat.le_of_ble_eq_true rfl) (show (k + c5) + c8 ≤ MC by omega) (show (n + sc5) + sc8 ≤ MS by omega) (xt_w1 hB.1 m_436ffbb5) (xt_cdOf hB.1 m_436ffbb5) (hts _ m_938fcec4) hB hR hS hA (fun vv h6 H locs hq hEh6 hR hS => ?_) (fun XX ax h6 H locs hq hEh6 hex hR hS => ?_)
    · obtain ⟨rfl, hw⟩ := hq
      have hw := hw hEh6
      have hE := hE.tr hEh6
      refine W.eq (g2 := F0 m 13 ls []) rfl ?_
      refine lv_aload_n hx hb (xb_d D_Reader_readBody 7 rfl) rfl (lv_at hl 1 rfl) ?_
      have hk1 : xb_k h6 x0 = 4 := hEh6.k hk1
      refine xb_getP (C := R_Reader) (T := F_Reader) (N := 6) hx hb 3 0 hts fin_Reader hown hR hk1 (by decide) rfl (by decide) rfl (hts _ m_76d8349c) (fun _ h9 => h9) (xb_d D_Reader_readBody 8 rfl) ?_
      obtain ⟨b9, eb9, hw⟩ := hw
      refine xb_some eb9 ?_
      obtain ⟨hk10, hw⟩ := hw
      refine xb_getP (C := R_StackModule) (T := F_StackModule) (N := 19) hx hb 2 12 hts fin_StackModule hown hR hk10 (by decide) rfl (by decide) rfl (hts _ m_b25766a4) (fun _ h9 => h9) (xb_d D_Reader_readBody 9 rfl) ?_
      obtain ⟨b11, eb11, hw⟩ := hw
      refine xb_some eb11 ?_
      obtain ⟨hk12, hw⟩ := hw
      refine xb_call (D := D) (A := A) (σ := σ) (h := h6) (d := 2) (mc := 0) (ms := 0) (maxL := 1) (rest := []) (av := [.ref b11]) (fun T hT X => by obtain ⟨cb, r1, r2, r3⟩ := xb_recv (ci := 1) hR rfl hk12 (by decide); exact xt_invV X hx hown (hts _ m_d5d63d05) (hts _ m_ded65609) (hts _ m_a4161156) (xt_sigOf (hts _ m_83ba3721)) nm_Row_lines (by rw [hT]; exact r1) r2 r3 (g := F0 m 20 ls [.ref b11]) rfl (argsL := []) (rest := []) rfl rfl (by rw [hb]; exact (xb_d D_Reader_readBody 10 rfl))) (ok_Row_lines l hfl D A σ b11 h6 _ hw) (hml.trans hl.1.symm) (by rw [hb]; exact (xb_d D_Reader_readBody 10 rfl)) (Nat.le_of_ble_eq_true rfl) (Nat.le_of_ble_eq_true rfl) (Nat.le_of_ble_eq_true rfl) (show ((k + c5) + c8) + 0 ≤ MC by omega) (show ((n + sc5) + sc8) + 0 ≤ MS by omega) (xt_w1 hB.1 m_83ba3721) (xt_cdOf hB.1 m_83ba3721) (hts _ m_c1bef504) hB hR hS hA (fun vv h13 H locs hq hEh13 hR hS => ?_) (fun XX ax h13 H locs hq hEh13 hex hR hS => ?_)
      · obtain ⟨r14, rfl, hw⟩ := hq
        have hw := hw hEh13
        have hE := hE.tr hEh13
        refine W.eq (g2 := F0 m 23 ls [.int r14]) rfl ?_
        refine lv_istore_n hx hb (xb_d D_Reader_readBody 11 rfl) rfl hl (by decide) rfl (fun ls hl => ?_)
        have hl : lv_has ls 4 [(2, .int r14), (1, .int v2), (0, .ref x0)] := hl
        refine lv_aload_n hx hb (xb_d D_Reader_readBody 12 rfl) rfl (lv_at hl 2 rfl) ?_
        have hk1 : xb_k h13 x0 = 4 := hEh13.k hk1
        obtain ⟨c17, sc17, hlc17, hlsc17, hw⟩ := hw
        refine xb_call (D := D) (A := A) (σ := σ) (h := h13) (d := 5) (mc := c17) (ms := sc17) (maxL := 10) (rest := []) (av := [.ref x0]) (fun T hT X => by obtain ⟨cb, r1, r2, r3⟩ := xb_recv (ci := 3) hR rfl hk1 (by decide); exact xt_invV X hx hown (hts _ m_a003c873) (hts _ m_7bbbebb7) (hts _ m_9f15dbe0) (xt_sigOf (hts _ m_7f51cc8a)) nm_Reader_readLocals (by rw [hT]; exact r1) r2 r3 (g := F0 m 25 ls [.ref x0]) rfl (argsL := []) (rest := []) rfl rfl (by rw [hb]; exact (xb_d D_Reader_readBody 13 rfl))) (ok_Reader_readLocals l hfl D A σ x0 h13 c17 sc17 _ _ hw) (hml.trans hl.1.symm) (by rw [hb]; exact (xb_d D_Reader_readBody 13 rfl)) (Nat.le_of_ble_eq_true rfl) (Nat.le_of_ble_eq_true rfl) (Nat.le_of_ble_eq_true rfl) (show ((k + c5) + c8) + c17 ≤ MC by omega) (show ((n + sc5) + sc8) + sc17 ≤ MS by omega) (xt_w1 hB.1 m_7f51cc8a) (xt_cdOf hB.1 m_7f51cc8a) (hts _ m_938fcec4) hB hR hS hA (fun vv h15 H locs hq hEh15 hR hS => ?_) (fun XX ax h15 H locs hq hEh15 hex hR hS => ?_)
        · obtain ⟨r16, rfl, hw⟩ := hq
          have hw := hw hEh15
          have hE := hE.tr hEh15
          refine W.eq (g2 := F0 m 28 ls [.int r16]) rfl ?_
          refine lv_istore_n hx hb (xb_d D_Reader_readBody 14 rfl) rfl hl (by decide) rfl (fun ls hl => ?_)
          have hl : lv_has ls 4 [(3, .int r16), (2, .int r14), (1, .int v2), (0, .ref x0)] := hl
          refine lv_aload_n hx hb (xb_d D_Reader_readBody 15 rfl) rfl (lv_at hl 3 rfl) ?_
          have hk1 : xb_k h15 x0 = 4 := hEh15.k hk1
          refine xb_getP (C := R_Reader) (T := F_Reader) (N := 6) hx hb 3 0 hts fin_Reader hown hR hk1 (by decide) rfl (by decide) rfl (hts _ m_76d8349c) (fun _ h9 => h9) (xb_d D_Reader_readBody 16 rfl) ?_
          obtain ⟨b18, eb18, hw⟩ := hw
          refine xb_some eb18 ?_
          obtain ⟨hk19, hw⟩ := hw
          refine xb_getP (C := R_StackModule) (T := F_StackModule) (N := 19) hx hb 2 11 hts fin_StackModule hown hR hk19 (by decide) rfl (by decide) rfl (hts _ m_4dbee54b) (fun _ h9 => h9) (xb_d D_Reader_readBody 17 rfl) ?_
          obtain ⟨b20, eb20, hw⟩ := hw
          refine xb_some eb20 ?_
          refine lv_aload_n hx hb (xb_d D_Reader_readBody 18 rfl) rfl (lv_at hl 3 rfl) ?_
          refine xb_getI (C := R_Reader) (T := F_Reader) (N := 6) hx hb 3 3 hts fin_Reader hown hR hk1 (by decide) rfl (by decide) rfl (hts _ m_a9b84ac2) (fun _ h9 => h9) (xb_d D_Reader_readBody 19 rfl) ?_
          refine lv_i2l hx hb (xb_d D_Reader_readBody 20 rfl) rfl ?_
          obtain ⟨hk21, hw⟩ := hw
          obtain ⟨c24, sc24, hlc24, hlsc24, hw⟩ := hw
          refine xb_call (D := D) (A := A) (σ := σ) (h := h15) (d := 4) (mc := c24) (ms := sc24) (maxL := 3) (rest := []) (av := [.ref b20, .long (Int32.toInt64 (xb_i h15 x0 3))]) (fun T hT X => by obtain ⟨cb, r1, r2, r3⟩ := xb_recv (ci := 1) hR rfl hk21 (by decide); exact xt_invV X hx hown (hts _ m_da067afc) (hts _ m_7e8d081f) (hts _ m_4e47f51a) (xt_sigOf (hts _ m_4f1bdc54)) nm_Row_add (by rw [hT]; exact r1) r2 r3 (g := F0 m 41 ls [.long (Int32.toInt64 (xb_i h15 x0 3)), .ref b20]) rfl (argsL := [.long (Int32.toInt64 (xb_i h15 x0 3))]) (rest := []) rfl rfl (by rw [hb]; exact (xb_d D_Reader_readBody 21 rfl))) (ok_Row_add l hfl D A σ b20 (Int32.toInt64 (xb_i h15 x0 3)) h15 c24 sc24 _ hw) (hml.trans hl.1.symm) (by rw [hb]; exact (xb_d D_Reader_readBody 21 rfl)) (Nat.le_of_ble_eq_true rfl) (Nat.le_of_ble_eq_true rfl) (Nat.le_of_ble_eq_true rfl) (show (((k + c5) + c8) + c17) + c24 ≤ MC by omega) (show (((n + sc5) + sc8) + sc17) + sc24 ≤ MS by omega) (xt_w1 hB.1 m_4f1bdc54) (xt_cdOf hB.1 m_4f1bdc54) (hts _ m_c1bef504) hB hR hS hA (fun vv h22 H locs hq hEh22 hR hS => ?_) (fun XX ax h22 H locs hq hEh22 hex hR hS => ?_)
          · obtain ⟨rfl, hw⟩ := hq
            have hw := hw hEh22
            have hE := hE.tr hEh22
            refine W.eq (g2 := F0 m 44 ls []) rfl ?_
            refine lv_aload_n hx hb (xb_d D_Reader_readBody 22 rfl) rfl (lv_at hl 3 rfl) ?_
            have hk1 : xb_k h22 x0 = 4 := hEh22.k hk1
            refine xb_getP (C := R_Reader) (T := F_Reader) (N := 6) hx hb 3 0 hts fin_Reader hown hR hk1 (by decide) rfl (by decide) rfl (hts _ m_76d8349c) (fun _ h9 => h9) (xb_d D_Reader_readBody 23 rfl) ?_
            obtain ⟨b25, eb25, hw⟩ := hw
            refine xb_some eb25 ?_
            obtain ⟨hk26, hw⟩ := hw
            refine xb_getP (C := R_StackModule) (T := F_StackModule) (N := 19) hx hb 2 11 hts fin_StackModule hown hR hk26 (by decide) rfl (by decide) rfl (hts _ m_4dbee54b) (fun _ h9 => h9) (xb_d D_Reader_readBody 24 rfl) ?_
            obtain ⟨b27, eb27, hw⟩ := hw
            refine xb_some eb27 ?_
            refine lv_iload_n hx hb (xb_d D_Reader_readBody 25 rfl) rfl (lv_at hl 0 rfl) ?_
            refine lv_i2l hx hb (xb_d D_Reader_readBody 26 rfl) rfl ?_
            obtain ⟨hk28, hw⟩ := hw
            obtain ⟨c31, sc31, hlc31, hlsc31, hw⟩ := hw
            refine xb_call (D := D) (A := A) (σ := σ) (h := h22) (d := 4) (mc := c31) (ms := sc31) (maxL := 3) (rest := []) (av := [.ref b27, .long (Int32.toInt64 r16)]) (fun T hT X => by obtain ⟨cb, r1, r2, r3⟩ := xb_recv (ci := 1) hR rfl hk28 (by decide); exact xt_invV X hx hown (hts _ m_da067afc) (hts _ m_7e8d081f) (hts _ m_4e47f51a) (xt_sigOf (hts _ m_4f1bdc54)) nm_Row_add (by rw [hT]; exact r1) r2 r3 (g := F0 m 53 ls [.long (Int32.toInt64 r16), .ref b27]) rfl (argsL := [.long (Int32.toInt64 r16)]) (rest := []) rfl rfl (by rw [hb]; exact (xb_d D_Reader_readBody 27 rfl))) (ok_Row_add l hfl D A σ b27 (Int32.toInt64 r16) h22 c31 sc31 _ hw) (hml.trans hl.1.symm) (by rw [hb]; exact (xb_d D_Reader_readBody 27 rfl)) (Nat.le_of_ble_eq_true rfl) (Nat.le_of_ble_eq_true rfl) (Nat.le_of_ble_eq_true rfl) (show ((((k + c5) + c8) + c17) + c24) + c31 ≤ MC by omega) (show ((((n + sc5) + sc8) + sc17) + sc24) + sc31 ≤ MS by omega) (xt_w1 hB.1 m_4f1bdc54) (xt_cdOf hB.1 m_4f1bdc54) (hts _ m_c1bef504) hB hR hS hA (fun vv h29 H locs hq hEh29 hR hS => ?_) (fun XX ax h29 H locs hq hEh29 hex hR hS => ?_)
            · obtain ⟨rfl, hw⟩ := hq
              have hw := hw hEh29
              have hE := hE.tr hEh29
              refine W.eq (g2 := F0 m 56 ls []) rfl ?_
              refine lv_aload_n hx hb (xb_d D_Reader_readBody 28 rfl) rfl (lv_at hl 3 rfl) ?_
              have hk1 : xb_k h29 x0 = 4 := hEh29.k hk1
              refine xb_getP (C := R_Reader) (T := F_Reader) (N := 6) hx hb 3 0 hts fin_Reader hown hR hk1 (by decide) rfl (by decide) rfl (hts _ m_76d8349c) (fun _ h9 => h9) (xb_d D_Reader_readBody 29 rfl) ?_
              obtain ⟨b32, eb32, hw⟩ := hw
              refine xb_some eb32 ?_
              obtain ⟨hk33, hw⟩ := hw
              refine xb_getP (C := R_StackModule) (T := F_StackModule) (N := 19) hx hb 2 11 hts fin_StackModule hown hR hk33 (by decide) rfl (by decide) rfl (hts _ m_4dbee54b) (fun _ h9 => h9) (xb_d D_Reader_readBody 30 rfl) ?_
              obtain ⟨b34, eb34, hw⟩ := hw
              refine xb_some eb34 ?_
              refine lv_iload_n hx hb (xb_d D_Reader_readBody 31 rfl) rfl (lv_at hl 1 rfl) ?_
              refine lv_i2l hx hb (xb_d D_Reader_readBody 32 rfl) rfl ?_
              obtain ⟨hk35, hw⟩ := hw
              obtain ⟨c38, sc38, hlc38, hlsc38, hw⟩ := hw
              refine xb_call (D := D) (A := A) (σ := σ) (h := h29) (d := 4) (mc := c38) (ms := sc38) (maxL := 3) (rest := []) (av := [.ref b34, .long (Int32.toInt64 r14)]) (fun T hT X => by obtain ⟨cb, r1, r2, r3⟩ := xb_recv (ci := 1) hR rfl hk35 (by decide); exact xt_invV X hx hown (hts _ m_da067afc) (hts _ m_7e8d081f) (hts _ m_4e47f51a) (xt_sigOf (hts _ m_4f1bdc54)) nm_Row_add (by rw [hT]; exact r1) r2 r3 (g := F0 m 65 ls [.long (Int32.toInt64 r14), .ref b34]) rfl (argsL := [.long (Int32.toInt64 r14)]) (rest := []) rfl rfl (by rw [hb]; exact (xb_d D_Reader_readBody 33 rfl))) (ok_Row_add l hfl D A σ b34 (Int32.toInt64 r14) h29 c38 sc38 _ hw) (hml.trans hl.1.symm) (by rw [hb]; exact (xb_d D_Reader_readBody 33 rfl)) (Nat.le_of_ble_eq_true rfl) (Nat.le_of_ble_eq_true rfl) (Nat.le_of_ble_eq_true rfl) (show (((((k + c5) + c8) + c17) + c24) + c31) + c38 ≤ MC by omega) (show (((((n + sc5) + sc8) + sc17) + sc24) + sc31) + sc38 ≤ MS by omega) (xt_w1 hB.1 m_4f1bdc54) (xt_cdOf hB.1 m_4f1bdc54) (hts _ m_c1bef504) hB hR hS hA (fun vv h36 H locs hq hEh36 hR hS => ?_) (fun XX ax h36 H locs hq hEh36 hex hR hS => ?_)
              · obtain ⟨rfl, hw⟩ := hq
                have hw := hw hEh36
                have hE := hE.tr hEh36
                refine W.eq (g2 := F0 m 68 ls []) rfl ?_
                refine lv_aload_n hx hb (xb_d D_Reader_readBody 34 rfl) rfl (lv_at hl 3 rfl) ?_
                have hk1 : xb_k h36 x0 = 4 := hEh36.k hk1
                refine xb_getP (C := R_Reader) (T := F_Reader) (N := 6) hx hb 3 0 hts fin_Reader hown hR hk1 (by decide) rfl (by decide) rfl (hts _ m_76d8349c) (fun _ h9 => h9) (xb_d D_Reader_readBody 35 rfl) ?_
                obtain ⟨b39, eb39, hw⟩ := hw
                refine xb_some eb39 ?_
                obtain ⟨hk40, hw⟩ := hw
                refine xb_getP (C := R_StackModule) (T := F_StackModule) (N := 19) hx hb 2 11 hts fin_StackModule hown hR hk40 (by decide) rfl (by decide) rfl (hts _ m_4dbee54b) (fun _ h9 => h9) (xb_d D_Reader_readBody 36 rfl) ?_
                obtain ⟨b41, eb41, hw⟩ := hw
                refine xb_some eb41 ?_
                refine lv_aload_n hx hb (xb_d D_Reader_readBody 37 rfl) rfl (lv_at hl 3 rfl) ?_
                refine xb_getP (C := R_Reader) (T := F_Reader) (N := 6) hx hb 3 0 hts fin_Reader hown hR hk1 (by decide) rfl (by decide) rfl (hts _ m_76d8349c) (fun _ h9 => h9) (xb_d D_Reader_readBody 38 rfl) ?_
                obtain ⟨b42, eb42, hw⟩ := hw
                refine xb_some eb42 ?_
                obtain ⟨hk43, hw⟩ := hw
                refine xb_getP (C := R_StackModule) (T := F_StackModule) (N := 19) hx hb 2 12 hts fin_StackModule hown hR hk43 (by decide) rfl (by decide) rfl (hts _ m_b25766a4) (fun _ h9 => h9) (xb_d D_Reader_readBody 39 rfl) ?_
                obtain ⟨b44, eb44, hw⟩ := hw
                refine xb_some eb44 ?_
                obtain ⟨hk45, hw⟩ := hw
                refine xb_call (D := D) (A := A) (σ := σ) (h := h36) (d := 2) (mc := 0) (ms := 0) (maxL := 1) (rest := [.ref b41]) (av := [.ref b44]) (fun T hT X => by obtain ⟨cb, r1, r2, r3⟩ := xb_recv (ci := 1) hR rfl hk45 (by decide); exact xt_invV X hx hown (hts _ m_d5d63d05) (hts _ m_ded65609) (hts _ m_a4161156) (xt_sigOf (hts _ m_83ba3721)) nm_Row_lines (by rw [hT]; exact r1) r2 r3 (g := F0 m 82 ls [.ref b44, .ref b41]) rfl (argsL := []) (rest := [.ref b41]) rfl rfl (by rw [hb]; exact (xb_d D_Reader_readBody 40 rfl))) (ok_Row_lines l hfl D A σ b44 h36 _ hw) (hml.trans hl.1.symm) (by rw [hb]; exact (xb_d D_Reader_readBody 40 rfl)) (Nat.le_of_ble_eq_true rfl) (Nat.le_of_ble_eq_true rfl) (Nat.le_of_ble_eq_true rfl) (show ((((((k + c5) + c8) + c17) + c24) + c31) + c38) + 0 ≤ MC by omega) (show ((((((n + sc5) + sc8) + sc17) + sc24) + sc31) + sc38) + 0 ≤ MS by omega) (xt_w1 hB.1 m_83ba3721) (xt_cdOf hB.1 m_83ba3721) (hts _ m_c1bef504) hB hR hS hA (fun vv h46 H locs hq hEh46 hR hS => ?_) (fun XX ax h46 H locs hq hEh46 hex hR hS => ?_)
                · obtain ⟨r47, rfl, hw⟩ := hq
                  have hw := hw hEh46
                  have hE := hE.tr hEh46
                  refine W.eq (g2 := F0 m 85 ls [.int r47, .ref b41]) rfl ?_
                  refine lv_iload_n hx hb (xb_d D_Reader_readBody 41 rfl) rfl (lv_at hl 1 rfl) ?_
                  refine lv_isub hx hb (xb_d D_Reader_readBody 42 rfl) ?_
                  refine lv_i2l hx hb (xb_d D_Reader_readBody 43 rfl) rfl ?_
                  obtain ⟨hk48, hw⟩ := hw
                  obtain ⟨c51, sc51, hlc51, hlsc51, hw⟩ := hw
                  refine xb_call (D := D) (A := A) (σ := σ) (h := h46) (d := 4) (mc := c51) (ms := sc51) (maxL := 3) (rest := []) (av := [.ref b41, .long (Int32.toInt64 (r47 - r14))]) (fun T hT X => by obtain ⟨cb, r1, r2, r3⟩ := xb_recv (ci := 1) hR rfl hk48 (by decide); exact xt_invV X hx hown (hts _ m_da067afc) (hts _ m_7e8d081f) (hts _ m_4e47f51a) (xt_sigOf (hts _ m_4f1bdc54)) nm_Row_add (by rw [hT]; exact r1) r2 r3 (g := F0 m 88 ls [.long (Int32.toInt64 (r47 - r14)), .ref b41]) rfl (argsL := [.long (Int32.toInt64 (r47 - r14))]) (rest := []) rfl rfl (by rw [hb]; exact (xb_d D_Reader_readBody 44 rfl))) (ok_Row_add l hfl D A σ b41 (Int32.toInt64 (r47 - r14)) h46 c51 sc51 _ hw) (hml.trans hl.1.symm) (by rw [hb]; exact (xb_d D_Reader_readBody 44 rfl)) (Nat.le_of_ble_eq_true rfl) (Nat.le_of_ble_eq_true rfl) (Nat.le_of_ble_eq_true rfl) (show ((((((k + c5) + c8) + c17) + c24) + c31) + c38) + c51 ≤ MC by omega) (show ((((((n + sc5) + sc8) + sc17) + sc24) + sc31) + sc38) + sc51 ≤ MS by omega) (xt_w1 hB.1 m_4f1bdc54) (xt_cdOf hB.1 m_4f1bdc54) (hts _ m_c1bef504) hB hR hS hA (fun vv h49 H locs hq hEh49 hR hS => ?_) (fun XX ax h49 H locs hq hEh49 hex hR hS => ?_)
                  · obtain ⟨rfl, hw⟩ := hq
                    have hw := hw hEh49
                    have hE := hE.tr hEh49
                    refine W.eq (g2 := F0 m 91 ls []) rfl ?_
                    refine lv_aload_n hx hb (xb_d D_Reader_readBody 45 rfl) rfl (lv_at hl 3 rfl) ?_
                    have hk1 : xb_k h46 x0 = 4 := hEh46.k hk1
                    have hk1 : xb_k h49 x0 = 4 := hEh49.k hk1
                    refine xb_getP (C := R_Reader) (T := F_Reader) (N := 6) hx hb 3 0 hts fin_Reader hown hR hk1 (by decide) rfl (by decide) rfl (hts _ m_76d8349c) (fun _ h9 => h9) (xb_d D_Reader_readBody 46 rfl) ?_
                    obtain ⟨b52, eb52, hw⟩ := hw
                    refine xb_some eb52 ?_
                    obtain ⟨hk53, hw⟩ := hw
                    refine xb_getP (C := R_StackModule) (T := F_StackModule) (N := 19) hx hb 2 11 hts fin_StackModule hown hR hk53 (by decide) rfl (by decide) rfl (hts _ m_4dbee54b) (fun _ h9 => h9) (xb_d D_Reader_readBody 47 rfl) ?_
                    obtain ⟨b54, eb54, hw⟩ := hw
                    refine xb_some eb54 ?_
                    refine lv_lconst (v := 0) hx hb (xb_d D_Reader_readBody 48 rfl) (by decide) ?_
                    obtain ⟨hk55, hw⟩ := hw
                    obtain ⟨c58, sc58, hlc58, hlsc58, hw⟩ := hw
                    refine xb_call (D := D) (A := A) (σ := σ) (h := h49) (d := 4) (mc := c58) (ms := sc58) (maxL := 3) (rest := []) (av := [.ref b54, .long 0]) (fun T hT X => by obtain ⟨cb, r1, r2, r3⟩ := xb_recv (ci := 1) hR rfl hk55 (by decide); exact xt_invV X hx hown (hts _ m_da067afc) (hts _ m_7e8d081f) (hts _ m_4e47f51a) (xt_sigOf (hts _ m_4f1bdc54)) nm_Row_add (by rw [hT]; exact r1) r2 r3 (g := F0 m 99 ls [.long 0, .ref b54]) rfl (argsL := [.long 0]) (rest := []) rfl rfl (by rw [hb]; exact (xb_d D_Reader_readBody 49 rfl))) (ok_Row_add l hfl D A σ b54 0 h49 c58 sc58 _ hw) (hml.trans hl.1.symm) (by rw [hb]; exact (xb_d D_Reader_readBody 49 rfl)) (Nat.le_of_ble_eq_true rfl) (Nat.le_of_ble_eq_true rfl) (Nat.le_of_ble_eq_true rfl) (show (((((((k + c5) + c8) + c17) + c24) + c31) + c38) + c51) + c58 ≤ MC by omega) (show (((((((n + sc5) + sc8) + sc17) + sc24) + sc31) + sc38) + sc51) + sc58 ≤ MS by omega) (xt_w1 hB.1 m_4f1bdc54) (xt_cdOf hB.1 m_4f1bdc54) (hts _ m_c1bef504) hB hR hS hA (fun vv h56 H locs hq hEh56 hR hS => ?_) (fun XX ax h56 H locs hq hEh56 hex hR hS => ?_)
                    · obtain ⟨rfl, hw⟩ := hq
                      have hw := hw hEh56
                      have hE := hE.tr hEh56
                      refine W.eq (g2 := F0 m 102 ls []) rfl ?_
                      refine lv_aload_n hx hb (xb_d D_Reader_readBody 50 rfl) rfl (lv_at hl 3 rfl) ?_
                      have hk1 : xb_k h56 x0 = 4 := hEh56.k hk1
                      obtain ⟨c61, sc61, hlc61, hlsc61, hw⟩ := hw
                      refine xb_call (D := D) (A := A) (σ := σ) (h := h56) (d := 5) (mc := c61) (ms := sc61) (maxL := 6) (rest := []) (av := [.ref x0]) (fun T hT X => by obtain ⟨cb, r1, r2, r3⟩ := xb_recv (ci := 3) hR rfl hk1 (by decide); exact xt_invV X hx hown (hts _ m_90e667a6) (hts _ m_02684d67) (hts _ m_97aecff3) (xt_sigOf (hts _ m_150d97f6)) nm_Reader_readExpression (by rw [hT]; exact r1) r2 r3 (g := F0 m 103 ls [.ref x0]) rfl (argsL := []) (rest := []) rfl rfl (by rw [hb]; exact (xb_d D_Reader_readBody 51 rfl))) (ok_Reader_readExpression l hfl D A σ x0 h56 c61 sc61 _ _ hw) (hml.trans hl.1.symm) (by rw [hb]; exact (xb_d D_Reader_readBody 51 rfl)) (Nat.le_of_ble_eq_true rfl) (Nat.le_of_ble_eq_true rfl) (Nat.le_of_ble_eq_true rfl) (show ((((((((k + c5) + c8) + c17) + c24) + c31) + c38) + c51) + c58) + c61 ≤ MC by omega) (show ((((((((n + sc5) + sc8) + sc17) + sc24) + sc31) + sc38) + sc51) + sc58) + sc61 ≤ MS by omega) (xt_w1 hB.1 m_150d97f6) (xt_cdOf hB.1 m_150d97f6) (hts _ m_938fcec4) hB hR hS hA (fun vv h59 H locs hq hEh59 hR hS => ?_) (fun XX ax h59 H locs hq hEh59 hex hR hS => ?_)
                      · obtain ⟨rfl, hw⟩ := hq
                        have hw := hw hEh59
                        have hE := hE.tr hEh59
                        refine W.eq (g2 := F0 m 106 ls []) rfl ?_
                        refine lv_aload_n hx hb (xb_d D_Reader_readBody 52 rfl) rfl (lv_at hl 3 rfl) ?_
                        have hk1 : xb_k h59 x0 = 4 := hEh59.k hk1
                        refine xb_getI (C := R_Reader) (T := F_Reader) (N := 6) hx hb 3 3 hts fin_Reader hown hR hk1 (by decide) rfl (by decide) rfl (hts _ m_a9b84ac2) (fun _ h9 => h9) (xb_d D_Reader_readBody 53 rfl) ?_
                        refine lv_aload_n hx hb (xb_d D_Reader_readBody 54 rfl) rfl (lv_at hl 3 rfl) ?_
                        refine xb_getI (C := R_Reader) (T := F_Reader) (N := 6) hx hb 3 4 hts fin_Reader hown hR hk1 (by decide) rfl (by decide) rfl (hts _ m_49916c4b) (fun _ h9 => h9) (xb_d D_Reader_readBody 55 rfl) ?_
                        refine lv_icmp_ge (tgt := 130) hx hb (xb_d D_Reader_readBody 56 rfl) rfl (fun hc62 => ?_) (fun hc62 => ?_)
                        · have hw := hw.1 hc62
                          exact am_Reader_readBody_L130 l hfl D A σ MC MS h0 Qr Qt x0 v2 h59 (((((((((bc - c5) - c8) - c17) - c24) - c31) - c38) - c51) - c58) - c61) (((((((((bs - sc5) - sc8) - sc17) - sc24) - sc31) - sc38) - sc51) - sc58) - sc61) hw p e s m args below meth c hC H locs ls (((((((((k + c5) + c8) + c17) + c24) + c31) + c38) + c51) + c58) + c61) (((((((((n + sc5) + sc8) + sc17) + sc24) + sc31) + sc38) + sc51) + sc58) + sc61) hE (lv_sub hl [3, 2] rfl) hR hS (by omega) (by omega)
                        · have hw := hw.2 hc62
                          refine lv_aload_n hx hb (xb_d D_Reader_readBody 57 rfl) rfl (lv_at hl 3 rfl) ?_
                          refine xb_getP (C := R_Reader) (T := F_Reader) (N := 6) hx hb 3 0 hts fin_Reader hown hR hk1 (by decide) rfl (by decide) rfl (hts _ m_76d8349c) (fun _ h9 => h9) (xb_d D_Reader_readBody 58 rfl) ?_
                          obtain ⟨b63, eb63, hw⟩ := hw
                          refine xb_some eb63 ?_
                          refine lv_bipush (v := 7) hx hb (xb_d D_Reader_readBody 59 rfl) (by decide) ?_
                          refine lv_aload_n hx hb (xb_d D_Reader_readBody 60 rfl) rfl (lv_at hl 3 rfl) ?_
                          refine xb_getI (C := R_Reader) (T := F_Reader) (N := 6) hx hb 3 3 hts fin_Reader hown hR hk1 (by decide) rfl (by decide) rfl (hts _ m_a9b84ac2) (fun _ h9 => h9) (xb_d D_Reader_readBody 61 rfl) ?_
                          obtain ⟨hk64, hw⟩ := hw
                          obtain ⟨c67, sc67, hlc67, hlsc67, hw⟩ := hw
                          refine xb_call (D := D) (A := A) (σ := σ) (h := h59) (d := 2) (mc := c67) (ms := sc67) (maxL := 3) (rest := []) (av := [.ref b63, .int 7, .int (xb_i h59 x0 3)]) (fun T hT X => by obtain ⟨cb, r1, r2, r3⟩ := xb_recv (ci := 2) hR rfl hk64 (by decide); exact xt_invV X hx hown (hts _ m_6fcde429) (hts _ m_865d5b07) (hts _ m_113f8f75) (xt_sigOf (hts _ m_73e65e5f)) nm_StackModule_fail (by rw [hT]; exact r1) r2 r3 (g := F0 m 127 ls [.int (xb_i h59 x0 3), .int 7, .ref b63]) rfl (argsL := [.int 7, .int (xb_i h59 x0 3)]) (rest := []) rfl rfl (by rw [hb]; exact (xb_d D_Reader_readBody 62 rfl))) (ok_StackModule_fail l hfl D A σ b63 7 (xb_i h59 x0 3) h59 c67 sc67 _ _ hw) (hml.trans hl.1.symm) (by rw [hb]; exact (xb_d D_Reader_readBody 62 rfl)) (Nat.le_of_ble_eq_true rfl) (Nat.le_of_ble_eq_true rfl) (Nat.le_of_ble_eq_true rfl) (show (((((((((k + c5) + c8) + c17) + c24) + c31) + c38) + c51) + c58) + c61) + c67 ≤ MC by omega) (show (((((((((n + sc5) + sc8) + sc17) + sc24) + sc31) + sc38) + sc51) + sc58) + sc61) + sc67 ≤ MS by omega) (xt_w1 hB.1 m_73e65e5f) (xt_cdOf hB.1 m_73e65e5f) (hts _ m_9c375545) hB hR hS hA (fun vv h65 H locs hq hEh65 hR hS => ?_) (fun XX ax h65 H locs hq hEh65 hex hR hS => ?_)
                          · obtain ⟨rfl, hw⟩ := hq
                            have hw := hw hEh65
                            have hE := hE.tr hEh65
                            refine W.eq (g2 := F0 m 130 ls []) rfl ?_
                            exact am_Reader_readBody_L130 l hfl D A σ MC MS h0 Qr Qt x0 v2 h65 ((((((((((bc - c5) - c8) - c17) - c24) - c31) - c38) - c51) - c58) - c61) - c67) ((((((((((bs - sc5) - sc8) - sc17) - sc24) - sc31) - sc38) - sc51) - sc58) - sc61) - sc67) hw p e s m args below meth c hC H locs ls ((((((((((k + c5) + c8) + c17) + c24) + c31) + c38) + c51) + c58) + c61) + c67) ((((((((((n + sc5) + sc8) + sc17) + sc24) + sc31) + sc38) + sc51) + sc58) + sc61) + sc67) hE (lv_sub hl [3, 2] rfl) hR hS (by omega) (by omega)
                          · exact xb_pass hlocks (fun x hx9 => by rw [htab] at hx9; first | cases hx9 | (simp [tableOf] at hx9; rcases hx9 with rfl | rfl | rfl <;> decide)) (show ((((((((((k + c5) + c8) + c17) + c24) + c31) + c38) + c51) + c58) + c61) + c67) ≤ MC by omega) (show ((((((((((n + sc5) + sc8) + sc17) + sc24) + sc31) + sc38) + sc51) + sc58) + sc61) + sc67) ≤ MS by omega) (hE.tr hEh65) hR hS hex hq
                      · exact xb_pass hlocks (fun x hx9 => by rw [htab] at hx9; first | cases hx9 | (simp [tableOf] at hx9; rcases hx9 with rfl | rfl | rfl <;> decide)) (show (((((((((k + c5) + c8) + c17) + c24) + c31) + c38) + c51) + c58) + c61) ≤ MC by omega) (show (((((((((n + sc5) + sc8) + sc17) + sc24) + sc31) + sc38) + sc51) + sc58) + sc61) ≤ MS by omega) (hE.tr hEh59) hR hS hex hq
                    · exact False.elim hq
                  · exact False.elim hq
                · exact False.elim hq
              · exact False.elim hq
            · exact False.elim hq
          · exact False.elim hq
        · exact xb_pass hlocks (fun x hx9 => by rw [htab] at hx9; first | cases hx9 | (simp [tableOf] at hx9; rcases hx9 with rfl | rfl | rfl <;> decide)) (show (((k + c5) + c8) + c17) ≤ MC by omega) (show (((n + sc5) + sc8) + sc17) ≤ MS by omega) (hE.tr hEh15) hR hS hex hq
      · exact False.elim hq
    · exact xb_pass hlocks (fun x hx9 => by rw [htab] at hx9; first | cases hx9 | (simp [tableOf] at hx9; rcases hx9 with rfl | rfl | rfl <;> decide)) (show ((k + c5) + c8) ≤ MC by omega) (show ((n + sc5) + sc8) ≤ MS by omega) (hE.tr hEh6) hR hS hex hq
  · exact xb_pass hlocks (fun x hx9 => by rw [htab] at hx9; first | cases hx9 | (simp [tableOf] at hx9; rcases hx9 with rfl | rfl | rfl <;> decide)) (show (k + c5) ≤ MC by omega) (show (n + sc5) ≤ MS by omega) (hE.tr hEh3) hR hS hex hq

theorem m_8a7498eb : (.fieldLink "StackHost$Reader" 178 "StackHost$StackModule" "data" "LStackHost$Row;" : Cond) ∈ xt_tbl := xt_in (xt_t3 (List.mem_of_getElem? (i := 111) (by decide +kernel))) (by decide +kernel)
set_option maxRecDepth 100000 in
def T_Reader_readData : List (Nat × Instr × Nat) := [(0, .aload_n 0, 1), (1, .getfield 15, 3), (4, .getfield 178, 3), (7, .aload_n 0, 1), (8, .getfield 41, 3), (11, .i2l, 1), (12, .invokevirtual 87, 3), (15, .aload_n 0, 1), (16, .getfield 15, 3), (19, .getfield 178, 3), (22, .aload_n 0, 1), (23, .invokevirtual 70, 3), (26, .i2l, 1), (27, .ldc2_w 76, 3), (30, .land, 1), (31, .invokevirtual 87, 3), (34, .aload_n 0, 1), (35, .getfield 15, 3), (38, .getfield 178, 3), (41, .aload_n 0, 1), (42, .getfield 41, 3), (45, .i2l, 1), (46, .invokevirtual 87, 3), (49, .aload_n 0, 1), (50, .invokevirtual 166, 3), (53, .aload_n 0, 1), (54, .invokevirtual 70, 3), (57, .istore_n 1, 1), (58, .iload_n 1, 1), (59, .ifCond .lt 16, 3), (62, .iload_n 1, 1), (63, .aload_n 0, 1), (64, .getfield 30, 3), (67, .aload_n 0, 1), (68, .getfield 41, 3), (71, .isub, 1), (72, .if_icmp .le 15, 3), (75, .aload_n 0, 1), (76, .getfield 15, 3), (79, .iconst 2, 1), (80, .aload_n 0, 1), (81, .getfield 30, 3), (84, .invokevirtual 37, 3), (87, .aload_n 0, 1), (88, .getfield 15, 3), (91, .getfield 178, 3), (94, .aload_n 0, 1), (95, .getfield 41, 3), (98, .i2l, 1), (99, .invokevirtual 87, 3), (102, .aload_n 0, 1), (103, .getfield 15, 3), (106, .getfield 178, 3), (109, .iload_n 1, 1), (110, .i2l, 1), (111, .invokevirtual 87, 3), (114, .aload_n 0, 1), (115, .dup, 1), (116, .getfield 41, 3), (119, .iload_n 1, 1), (120, .iadd, 1), (121, .putfield 41, 3), (124, .return_, 1)]
theorem D_Reader_readData : ∀ q ∈ T_Reader_readData, decode b_Reader_readData q.1 = .ok (q.2.1, q.2.2) := by decide +kernel
def w_Reader_readData_L87 (Qr : xb_H → Prop) (Qt : String → xb_H → Prop) (x0 : Nat) (x1 : Int32) (h : xb_H) (bc : Nat) (bs : Nat) : Prop :=
    xb_k h x0 = 4 ∧ ∃ b2 : Nat, (xb_r h x0 0) = some b2 ∧ xb_k h b2 = 3 ∧ ∃ b4 : Nat, (xb_r h b2 13) = some b4 ∧ xb_k h b4 = 2 ∧ ∃ c8 sc8 : Nat, c8 ≤ bc ∧ sc8 ≤ bs ∧ w_Row_add b4 (Int32.toInt64 (xb_i h x0 3)) h c8 sc8 (fun (h6 : xb_H) => xb_ext h h6 → ∃ b9 : Nat, (xb_r h6 x0 0) = some b9 ∧ xb_k h6 b9 = 3 ∧ ∃ b11 : Nat, (xb_r h6 b9 13) = some b11 ∧ xb_k h6 b11 = 2 ∧ ∃ c15 sc15 : Nat, c15 ≤ (bc - c8) ∧ sc15 ≤ (bs - sc8) ∧ w_Row_add b11 (Int32.toInt64 x1) h6 c15 sc15 (fun (h13 : xb_H) => xb_ext h6 h13 → ∀ h16 : xb_H, h16 = xb_I h13 x0 3 ((xb_i h13 x0 3) + x1) → Qr h16))

def w_Reader_readData_L75 (Qr : xb_H → Prop) (Qt : String → xb_H → Prop) (x0 : Nat) (x1 : Int32) (h : xb_H) (bc : Nat) (bs : Nat) : Prop :=
    xb_k h x0 = 4 ∧ ∃ b2 : Nat, (xb_r h x0 0) = some b2 ∧ xb_k h b2 = 3 ∧ ∃ c6 sc6 : Nat, c6 ≤ bc ∧ sc6 ≤ bs ∧ w_StackModule_fail b2 2 (xb_i h x0 4) h c6 sc6 (fun (h4 : xb_H) => xb_ext h h4 → w_Reader_readData_L87 Qr Qt x0 x1 h4 (bc - c6) (bs - sc6)) Qt

def w_Reader_readData (x0 : Nat) (h : xb_H) (bc : Nat) (bs : Nat) (Qr : xb_H → Prop) (Qt : String → xb_H → Prop) : Prop :=
    xb_k h x0 = 4 ∧ ∃ b2 : Nat, (xb_r h x0 0) = some b2 ∧ xb_k h b2 = 3 ∧ ∃ b4 : Nat, (xb_r h b2 13) = some b4 ∧ xb_k h b4 = 2 ∧ ∃ c8 sc8 : Nat, c8 ≤ bc ∧ sc8 ≤ bs ∧ w_Row_add b4 (Int32.toInt64 (xb_i h x0 3)) h c8 sc8 (fun (h6 : xb_H) => xb_ext h h6 → ∃ b9 : Nat, (xb_r h6 x0 0) = some b9 ∧ xb_k h6 b9 = 3 ∧ ∃ b11 : Nat, (xb_r h6 b9 13) = some b11 ∧ ∃ c14 sc14 : Nat, c14 ≤ (bc - c8) ∧ sc14 ≤ (bs - sc8) ∧ w_Reader_count x0 h6 c14 sc14 (fun (r13 : Int32) (h12 : xb_H) => xb_ext h6 h12 → xb_k h12 b11 = 2 ∧ ∃ c18 sc18 : Nat, c18 ≤ ((bc - c8) - c14) ∧ sc18 ≤ ((bs - sc8) - sc14) ∧ w_Row_add b11 ((Int32.toInt64 r13) &&& 4294967295) h12 c18 sc18 (fun (h16 : xb_H) => xb_ext h12 h16 → ∃ b19 : Nat, (xb_r h16 x0 0) = some b19 ∧ xb_k h16 b19 = 3 ∧ ∃ b21 : Nat, (xb_r h16 b19 13) = some b21 ∧ xb_k h16 b21 = 2 ∧ ∃ c25 sc25 : Nat, c25 ≤ (((bc - c8) - c14) - c18) ∧ sc25 ≤ (((bs - sc8) - sc14) - sc18) ∧ w_Row_add b21 (Int32.toInt64 (xb_i h16 x0 3)) h16 c25 sc25 (fun (h23 : xb_H) => xb_ext h16 h23 → ∃ c28 sc28 : Nat, c28 ≤ ((((bc - c8) - c14) - c18) - c25) ∧ sc28 ≤ ((((bs - sc8) - sc14) - sc18) - sc25) ∧ w_Reader_readExpression x0 h23 c28 sc28 (fun (h26 : xb_H) => xb_ext h23 h26 → ∃ c31 sc31 : Nat, c31 ≤ (((((bc - c8) - c14) - c18) - c25) - c28) ∧ sc31 ≤ (((((bs - sc8) - sc14) - sc18) - sc25) - sc28) ∧ w_Reader_count x0 h26 c31 sc31 (fun (r30 : Int32) (h29 : xb_H) => xb_ext h26 h29 → ((r30 < (0 : Int32) → w_Reader_readData_L75 Qr Qt x0 r30 h29 ((((((bc - c8) - c14) - c18) - c25) - c28) - c31) ((((((bs - sc8) - sc14) - sc18) - sc25) - sc28) - sc31)) ∧ (¬ r30 < (0 : Int32) → ((r30 ≤ ((xb_i h29 x0 4) - (xb_i h29 x0 3)) → w_Reader_readData_L87 Qr Qt x0 r30 h29 ((((((bc - c8) - c14) - c18) - c25) - c28) - c31) ((((((bs - sc8) - sc14) - sc18) - sc25) - sc28) - sc31)) ∧ (¬ r30 ≤ ((xb_i h29 x0 4) - (xb_i h29 x0 3)) → w_Reader_readData_L75 Qr Qt x0 r30 h29 ((((((bc - c8) - c14) - c18) - c25) - c28) - c31) ((((((bs - sc8) - sc14) - sc18) - sc25) - sc28) - sc31)))))) Qt) Qt))) Qt)

set_option maxHeartbeats 4000000 in
set_option maxRecDepth 100000 in
theorem am_Reader_readData_L87 (l : Launch) (hfl : l.flags = pinnedFlags ++ [noTraceFlag]) (D : va_G) (A : Nat → Prop) (σ MC MS : Nat) (h0 : xb_H) (Qr : xb_H → Prop) (Qt : String → xb_H → Prop) (x0 : Nat) (x1 : Int32) (h : xb_H) (bc : Nat) (bs : Nat) (hw : w_Reader_readData_L87 Qr Qt x0 x1 h bc bs) : xb_am l D A σ 6 MC MS h0 (fun v h => v = none ∧ Qr h) Qt y_Reader_readData.cls y_Reader_readData.name b_Reader_readData 2 ([] : List ExceptionTableEntry) none 87 [(0, .ref x0), (1, .int x1)] [] h bc bs := by
  unfold w_Reader_readData_L87 at hw
  intro p e s m args below meth c hC H locs ls k n hE hl hR hS hk hn
  obtain ⟨hx, hb, hown, hlocks, htab, hml, hr, hB, hA, hnm⟩ := id hC
  have hts := hB.1.1.at args
  refine lv_aload_n hx hb (xb_d D_Reader_readData 43 rfl) rfl (lv_at hl 0 rfl) ?_
  obtain ⟨hk1, hw⟩ := hw
  refine xb_getP (C := R_Reader) (T := F_Reader) (N := 6) hx hb 3 0 hts fin_Reader hown hR hk1 (by decide) rfl (by decide) rfl (hts _ m_76d8349c) (fun _ h9 => h9) (xb_d D_Reader_readData 44 rfl) ?_
  obtain ⟨b2, eb2, hw⟩ := hw
  refine xb_some eb2 ?_
  obtain ⟨hk3, hw⟩ := hw
  refine xb_getP (C := R_StackModule) (T := F_StackModule) (N := 19) hx hb 2 13 hts fin_StackModule hown hR hk3 (by decide) rfl (by decide) rfl (hts _ m_8a7498eb) (fun _ h9 => h9) (xb_d D_Reader_readData 45 rfl) ?_
  obtain ⟨b4, eb4, hw⟩ := hw
  refine xb_some eb4 ?_
  refine lv_aload_n hx hb (xb_d D_Reader_readData 46 rfl) rfl (lv_at hl 0 rfl) ?_
  refine xb_getI (C := R_Reader) (T := F_Reader) (N := 6) hx hb 3 3 hts fin_Reader hown hR hk1 (by decide) rfl (by decide) rfl (hts _ m_a9b84ac2) (fun _ h9 => h9) (xb_d D_Reader_readData 47 rfl) ?_
  refine lv_i2l hx hb (xb_d D_Reader_readData 48 rfl) rfl ?_
  obtain ⟨hk5, hw⟩ := hw
  obtain ⟨c8, sc8, hlc8, hlsc8, hw⟩ := hw
  refine xb_call (D := D) (A := A) (σ := σ) (h := h) (d := 4) (mc := c8) (ms := sc8) (maxL := 3) (rest := []) (av := [.ref b4, .long (Int32.toInt64 (xb_i h x0 3))]) (fun T hT X => by obtain ⟨cb, r1, r2, r3⟩ := xb_recv (ci := 1) hR rfl hk5 (by decide); exact xt_invV X hx hown (hts _ m_da067afc) (hts _ m_7e8d081f) (hts _ m_4e47f51a) (xt_sigOf (hts _ m_4f1bdc54)) nm_Row_add (by rw [hT]; exact r1) r2 r3 (g := F0 m 99 ls [.long (Int32.toInt64 (xb_i h x0 3)), .ref b4]) rfl (argsL := [.long (Int32.toInt64 (xb_i h x0 3))]) (rest := []) rfl rfl (by rw [hb]; exact (xb_d D_Reader_readData 49 rfl))) (ok_Row_add l hfl D A σ b4 (Int32.toInt64 (xb_i h x0 3)) h c8 sc8 _ hw) (hml.trans hl.1.symm) (by rw [hb]; exact (xb_d D_Reader_readData 49 rfl)) (Nat.le_of_ble_eq_true rfl) (Nat.le_of_ble_eq_true rfl) (Nat.le_of_ble_eq_true rfl) (show k + c8 ≤ MC by omega) (show n + sc8 ≤ MS by omega) (xt_w1 hB.1 m_4f1bdc54) (xt_cdOf hB.1 m_4f1bdc54) (hts _ m_c1bef504) hB hR hS hA (fun vv h6 H locs hq hEh6 hR hS => ?_) (fun XX ax h6 H locs hq hEh6 hex hR hS => ?_)
  · obtain ⟨rfl, hw⟩ := hq
    have hw := hw hEh6
    have hE := hE.tr hEh6
    refine W.eq (g2 := F0 m 102 ls []) rfl ?_
    refine lv_aload_n hx hb (xb_d D_Reader_readData 50 rfl) rfl (lv_at hl 0 rfl) ?_
    have hk1 : xb_k h6 x0 = 4 := hEh6.k hk1
    refine xb_getP (C := R_Reader) (T := F_Reader) (N := 6) hx hb 3 0 hts fin_Reader hown hR hk1 (by decide) rfl (by decide) rfl (hts _ m_76d8349c) (fun _ h9 => h9) (xb_d D_Reader_readData 51 rfl) ?_
    obtain ⟨b9, eb9, hw⟩ := hw
    refine xb_some eb9 ?_
    obtain ⟨hk10, hw⟩ := hw
    refine xb_getP (C := R_StackModule) (T := F_StackModule) (N := 19) hx hb 2 13 hts fin_StackModule hown hR hk10 (by decide) rfl (by decide) rfl (hts _ m_8a7498eb) (fun _ h9 => h9) (xb_d D_Reader_readData 52 rfl) ?_
    obtain ⟨b11, eb11, hw⟩ := hw
    refine xb_some eb11 ?_
    refine lv_iload_n hx hb (xb_d D_Reader_readData 53 rfl) rfl (lv_at hl 1 rfl) ?_
    refine lv_i2l hx hb (xb_d D_Reader_readData 54 rfl) rfl ?_
    obtain ⟨hk12, hw⟩ := hw
    obtain ⟨c15, sc15, hlc15, hlsc15, hw⟩ := hw
    refine xb_call (D := D) (A := A) (σ := σ) (h := h6) (d := 4) (mc := c15) (ms := sc15) (maxL := 3) (rest := []) (av := [.ref b11, .long (Int32.toInt64 x1)]) (fun T hT X => by obtain ⟨cb, r1, r2, r3⟩ := xb_recv (ci := 1) hR rfl hk12 (by decide); exact xt_invV X hx hown (hts _ m_da067afc) (hts _ m_7e8d081f) (hts _ m_4e47f51a) (xt_sigOf (hts _ m_4f1bdc54)) nm_Row_add (by rw [hT]; exact r1) r2 r3 (g := F0 m 111 ls [.long (Int32.toInt64 x1), .ref b11]) rfl (argsL := [.long (Int32.toInt64 x1)]) (rest := []) rfl rfl (by rw [hb]; exact (xb_d D_Reader_readData 55 rfl))) (ok_Row_add l hfl D A σ b11 (Int32.toInt64 x1) h6 c15 sc15 _ hw) (hml.trans hl.1.symm) (by rw [hb]; exact (xb_d D_Reader_readData 55 rfl)) (Nat.le_of_ble_eq_true rfl) (Nat.le_of_ble_eq_true rfl) (Nat.le_of_ble_eq_true rfl) (show (k + c8) + c15 ≤ MC by omega) (show (n + sc8) + sc15 ≤ MS by omega) (xt_w1 hB.1 m_4f1bdc54) (xt_cdOf hB.1 m_4f1bdc54) (hts _ m_c1bef504) hB hR hS hA (fun vv h13 H locs hq hEh13 hR hS => ?_) (fun XX ax h13 H locs hq hEh13 hex hR hS => ?_)
    · obtain ⟨rfl, hw⟩ := hq
      have hw := hw hEh13
      have hE := hE.tr hEh13
      refine W.eq (g2 := F0 m 114 ls []) rfl ?_
      refine lv_aload_n hx hb (xb_d D_Reader_readData 56 rfl) rfl (lv_at hl 0 rfl) ?_
      refine lv_dup hx hb (xb_d D_Reader_readData 57 rfl) rfl ?_
      have hk1 : xb_k h13 x0 = 4 := hEh13.k hk1
      refine xb_getI (C := R_Reader) (T := F_Reader) (N := 6) hx hb 3 3 hts fin_Reader hown hR hk1 (by decide) rfl (by decide) rfl (hts _ m_a9b84ac2) (fun _ h9 => h9) (xb_d D_Reader_readData 58 rfl) ?_
      refine lv_iload_n hx hb (xb_d D_Reader_readData 59 rfl) rfl (lv_at hl 1 rfl) ?_
      refine lv_iadd hx hb (xb_d D_Reader_readData 60 rfl) ?_
      refine xb_putI (C := R_Reader) (T := F_Reader) (N := 6) (ty := .int) (x := ((xb_i h13 x0 3) + x1)) hx hb 3 3 hts fin_Reader t_Reader t_Reader_ok n_Reader hown hR hS hk1 (by decide) rfl (by decide) rfl (hts _ m_a9b84ac2) (fun _ h9 => h9) rfl (by decide +kernel) rfl rfl (xb_d D_Reader_readData 61 rfl) (fun H locs hR hS => ?_)
      obtain ⟨h16, eh16⟩ : ∃ x : xb_H, x = xb_I h13 x0 3 ((xb_i h13 x0 3) + x1) := ⟨_, rfl⟩
      rw [← eh16] at hR
      have hw := hw h16 eh16
      have hE : xb_ext h0 h16 := by rw [eh16]; exact hE
      exact xb_vret hx hb hr hlocks (show ((k + c8) + c15) ≤ MC by omega) (show ((n + sc8) + sc15) ≤ MS by omega) hE hR hS (xb_d D_Reader_readData 62 rfl) hw
    · exact False.elim hq
  · exact False.elim hq

set_option maxHeartbeats 4000000 in
set_option maxRecDepth 100000 in
theorem am_Reader_readData_L75 (l : Launch) (hfl : l.flags = pinnedFlags ++ [noTraceFlag]) (D : va_G) (A : Nat → Prop) (σ MC MS : Nat) (h0 : xb_H) (Qr : xb_H → Prop) (Qt : String → xb_H → Prop) (x0 : Nat) (x1 : Int32) (h : xb_H) (bc : Nat) (bs : Nat) (hw : w_Reader_readData_L75 Qr Qt x0 x1 h bc bs) : xb_am l D A σ 6 MC MS h0 (fun v h => v = none ∧ Qr h) Qt y_Reader_readData.cls y_Reader_readData.name b_Reader_readData 2 ([] : List ExceptionTableEntry) none 75 [(0, .ref x0), (1, .int x1)] [] h bc bs := by
  unfold w_Reader_readData_L75 at hw
  intro p e s m args below meth c hC H locs ls k n hE hl hR hS hk hn
  obtain ⟨hx, hb, hown, hlocks, htab, hml, hr, hB, hA, hnm⟩ := id hC
  have hts := hB.1.1.at args
  refine lv_aload_n hx hb (xb_d D_Reader_readData 37 rfl) rfl (lv_at hl 0 rfl) ?_
  obtain ⟨hk1, hw⟩ := hw
  refine xb_getP (C := R_Reader) (T := F_Reader) (N := 6) hx hb 3 0 hts fin_Reader hown hR hk1 (by decide) rfl (by decide) rfl (hts _ m_76d8349c) (fun _ h9 => h9) (xb_d D_Reader_readData 38 rfl) ?_
  obtain ⟨b2, eb2, hw⟩ := hw
  refine xb_some eb2 ?_
  refine lv_iconst (v := 2) hx hb (xb_d D_Reader_readData 39 rfl) (by decide) ?_
  refine lv_aload_n hx hb (xb_d D_Reader_readData 40 rfl) rfl (lv_at hl 0 rfl) ?_
  refine xb_getI (C := R_Reader) (T := F_Reader) (N := 6) hx hb 3 4 hts fin_Reader hown hR hk1 (by decide) rfl (by decide) rfl (hts _ m_49916c4b) (fun _ h9 => h9) (xb_d D_Reader_readData 41 rfl) ?_
  obtain ⟨hk3, hw⟩ := hw
  obtain ⟨c6, sc6, hlc6, hlsc6, hw⟩ := hw
  refine xb_call (D := D) (A := A) (σ := σ) (h := h) (d := 2) (mc := c6) (ms := sc6) (maxL := 3) (rest := []) (av := [.ref b2, .int 2, .int (xb_i h x0 4)]) (fun T hT X => by obtain ⟨cb, r1, r2, r3⟩ := xb_recv (ci := 2) hR rfl hk3 (by decide); exact xt_invV X hx hown (hts _ m_6fcde429) (hts _ m_865d5b07) (hts _ m_113f8f75) (xt_sigOf (hts _ m_73e65e5f)) nm_StackModule_fail (by rw [hT]; exact r1) r2 r3 (g := F0 m 84 ls [.int (xb_i h x0 4), .int 2, .ref b2]) rfl (argsL := [.int 2, .int (xb_i h x0 4)]) (rest := []) rfl rfl (by rw [hb]; exact (xb_d D_Reader_readData 42 rfl))) (ok_StackModule_fail l hfl D A σ b2 2 (xb_i h x0 4) h c6 sc6 _ _ hw) (hml.trans hl.1.symm) (by rw [hb]; exact (xb_d D_Reader_readData 42 rfl)) (Nat.le_of_ble_eq_true rfl) (Nat.le_of_ble_eq_true rfl) (Nat.le_of_ble_eq_true rfl) (show k + c6 ≤ MC by omega) (show n + sc6 ≤ MS by omega) (xt_w1 hB.1 m_73e65e5f) (xt_cdOf hB.1 m_73e65e5f) (hts _ m_9c375545) hB hR hS hA (fun vv h4 H locs hq hEh4 hR hS => ?_) (fun XX ax h4 H locs hq hEh4 hex hR hS => ?_)
  · obtain ⟨rfl, hw⟩ := hq
    have hw := hw hEh4
    have hE := hE.tr hEh4
    refine W.eq (g2 := F0 m 87 ls []) rfl ?_
    exact am_Reader_readData_L87 l hfl D A σ MC MS h0 Qr Qt x0 x1 h4 (bc - c6) (bs - sc6) hw p e s m args below meth c hC H locs ls (k + c6) (n + sc6) hE (lv_sub hl [0, 1] rfl) hR hS (by omega) (by omega)
  · exact xb_pass hlocks (fun x hx9 => by rw [htab] at hx9; first | cases hx9 | (simp [tableOf] at hx9; rcases hx9 with rfl | rfl | rfl <;> decide)) (show (k + c6) ≤ MC by omega) (show (n + sc6) ≤ MS by omega) (hE.tr hEh4) hR hS hex hq

set_option maxHeartbeats 4000000 in
set_option maxRecDepth 100000 in
theorem ok_Reader_readData (l : Launch) (hfl : l.flags = pinnedFlags ++ [noTraceFlag]) (D : va_G) (A : Nat → Prop) (σ : Nat) (x0 : Nat) (h : xb_H) (bc : Nat) (bs : Nat) (Qr : xb_H → Prop) (Qt : String → xb_H → Prop) (hw : w_Reader_readData x0 h bc bs Qr Qt) : xt_Met l y_Reader_readData [.code y_Reader_readData b_Reader_readData 2 none] (xb_rm 6 bc bs) (xb_Pc D A σ h [.ref x0]) (xb_Qc D A h (fun v h => v = none ∧ Qr h) Qt) bc bs A := by
  refine xb_ofAm (cc := b_Reader_readData) (by decide) (Nat.le_of_ble_eq_true rfl) ?_
  unfold w_Reader_readData at hw
  show xb_am l D A σ 6 bc bs h (fun v h => v = none ∧ Qr h) Qt y_Reader_readData.cls y_Reader_readData.name b_Reader_readData 2 ([] : List ExceptionTableEntry) none 0 [(0, .ref x0)] [] h bc bs
  obtain ⟨MC, hMC⟩ : ∃ x, x = bc := ⟨_, rfl⟩
  obtain ⟨MS, hMS⟩ : ∃ x, x = bs := ⟨_, rfl⟩
  rw [show xb_am l D A σ 6 bc bs = xb_am l D A σ 6 MC MS by rw [hMC, hMS]]
  obtain ⟨h0, hh0⟩ : ∃ x, x = h := ⟨_, rfl⟩
  rw [show xb_am l D A σ 6 MC MS h = xb_am l D A σ 6 MC MS h0 by rw [hh0]]
  intro p e s m args below meth c hC H locs ls k n hE hl hR hS hk hn
  obtain ⟨hx, hb, hown, hlocks, htab, hml, hr, hB, hA, hnm⟩ := id hC
  have hts := hB.1.1.at args
  refine lv_aload_n hx hb (xb_d D_Reader_readData 0 rfl) rfl (lv_at hl 0 rfl) ?_
  obtain ⟨hk1, hw⟩ := hw
  refine xb_getP (C := R_Reader) (T := F_Reader) (N := 6) hx hb 3 0 hts fin_Reader hown hR hk1 (by decide) rfl (by decide) rfl (hts _ m_76d8349c) (fun _ h9 => h9) (xb_d D_Reader_readData 1 rfl) ?_
  obtain ⟨b2, eb2, hw⟩ := hw
  refine xb_some eb2 ?_
  obtain ⟨hk3, hw⟩ := hw
  refine xb_getP (C := R_StackModule) (T := F_StackModule) (N := 19) hx hb 2 13 hts fin_StackModule hown hR hk3 (by decide) rfl (by decide) rfl (hts _ m_8a7498eb) (fun _ h9 => h9) (xb_d D_Reader_readData 2 rfl) ?_
  obtain ⟨b4, eb4, hw⟩ := hw
  refine xb_some eb4 ?_
  refine lv_aload_n hx hb (xb_d D_Reader_readData 3 rfl) rfl (lv_at hl 0 rfl) ?_
  refine xb_getI (C := R_Reader) (T := F_Reader) (N := 6) hx hb 3 3 hts fin_Reader hown hR hk1 (by decide) rfl (by decide) rfl (hts _ m_a9b84ac2) (fun _ h9 => h9) (xb_d D_Reader_readData 4 rfl) ?_
  refine lv_i2l hx hb (xb_d D_Reader_readData 5 rfl) rfl ?_
  obtain ⟨hk5, hw⟩ := hw
  obtain ⟨c8, sc8, hlc8, hlsc8, hw⟩ := hw
  refine xb_call (D := D) (A := A) (σ := σ) (h := h) (d := 4) (mc := c8) (ms := sc8) (maxL := 3) (rest := []) (av := [.ref b4, .long (Int32.toInt64 (xb_i h x0 3))]) (fun T hT X => by obtain ⟨cb, r1, r2, r3⟩ := xb_recv (ci := 1) hR rfl hk5 (by decide); exact xt_invV X hx hown (hts _ m_da067afc) (hts _ m_7e8d081f) (hts _ m_4e47f51a) (xt_sigOf (hts _ m_4f1bdc54)) nm_Row_add (by rw [hT]; exact r1) r2 r3 (g := F0 m 12 ls [.long (Int32.toInt64 (xb_i h x0 3)), .ref b4]) rfl (argsL := [.long (Int32.toInt64 (xb_i h x0 3))]) (rest := []) rfl rfl (by rw [hb]; exact (xb_d D_Reader_readData 6 rfl))) (ok_Row_add l hfl D A σ b4 (Int32.toInt64 (xb_i h x0 3)) h c8 sc8 _ hw) (hml.trans hl.1.symm) (by rw [hb]; exact (xb_d D_Reader_readData 6 rfl)) (Nat.le_of_ble_eq_true rfl) (Nat.le_of_ble_eq_true rfl) (Nat.le_of_ble_eq_true rfl) (show k + c8 ≤ MC by omega) (show n + sc8 ≤ MS by omega) (xt_w1 hB.1 m_4f1bdc54) (xt_cdOf hB.1 m_4f1bdc54) (hts _ m_c1bef504) hB hR hS hA (fun vv h6 H locs hq hEh6 hR hS => ?_) (fun XX ax h6 H locs hq hEh6 hex hR hS => ?_)
  · obtain ⟨rfl, hw⟩ := hq
    have hw := hw hEh6
    have hE := hE.tr hEh6
    refine W.eq (g2 := F0 m 15 ls []) rfl ?_
    refine lv_aload_n hx hb (xb_d D_Reader_readData 7 rfl) rfl (lv_at hl 0 rfl) ?_
    have hk1 : xb_k h6 x0 = 4 := hEh6.k hk1
    refine xb_getP (C := R_Reader) (T := F_Reader) (N := 6) hx hb 3 0 hts fin_Reader hown hR hk1 (by decide) rfl (by decide) rfl (hts _ m_76d8349c) (fun _ h9 => h9) (xb_d D_Reader_readData 8 rfl) ?_
    obtain ⟨b9, eb9, hw⟩ := hw
    refine xb_some eb9 ?_
    obtain ⟨hk10, hw⟩ := hw
    refine xb_getP (C := R_StackModule) (T := F_StackModule) (N := 19) hx hb 2 13 hts fin_StackModule hown hR hk10 (by decide) rfl (by decide) rfl (hts _ m_8a7498eb) (fun _ h9 => h9) (xb_d D_Reader_readData 9 rfl) ?_
    obtain ⟨b11, eb11, hw⟩ := hw
    refine xb_some eb11 ?_
    refine lv_aload_n hx hb (xb_d D_Reader_readData 10 rfl) rfl (lv_at hl 0 rfl) ?_
    obtain ⟨c14, sc14, hlc14, hlsc14, hw⟩ := hw
    refine xb_call (D := D) (A := A) (σ := σ) (h := h6) (d := 3) (mc := c14) (ms := sc14) (maxL := 4) (rest := [.ref b11]) (av := [.ref x0]) (fun T hT X => by obtain ⟨cb, r1, r2, r3⟩ := xb_recv (ci := 3) hR rfl hk1 (by decide); exact xt_invV X hx hown (hts _ m_2c379b4d) (hts _ m_a120e786) (hts _ m_e903c73e) (xt_sigOf (hts _ m_99690a98)) nm_Reader_count (by rw [hT]; exact r1) r2 r3 (g := F0 m 23 ls [.ref x0, .ref b11]) rfl (argsL := []) (rest := [.ref b11]) rfl rfl (by rw [hb]; exact (xb_d D_Reader_readData 11 rfl))) (ok_Reader_count l hfl D A σ x0 h6 c14 sc14 _ _ hw) (hml.trans hl.1.symm) (by rw [hb]; exact (xb_d D_Reader_readData 11 rfl)) (Nat.le_of_ble_eq_true rfl) (Nat.le_of_ble_eq_true rfl) (Nat.le_of_ble_eq_true rfl) (show (k + c8) + c14 ≤ MC by omega) (show (n + sc8) + sc14 ≤ MS by omega) (xt_w1 hB.1 m_99690a98) (xt_cdOf hB.1 m_99690a98) (hts _ m_938fcec4) hB hR hS hA (fun vv h12 H locs hq hEh12 hR hS => ?_) (fun XX ax h12 H locs hq hEh12 hex hR hS => ?_)
    · obtain ⟨r13, rfl, hw⟩ := hq
      have hw := hw hEh12
      have hE := hE.tr hEh12
      refine W.eq (g2 := F0 m 26 ls [.int r13, .ref b11]) rfl ?_
      refine lv_i2l hx hb (xb_d D_Reader_readData 12 rfl) rfl ?_
      refine lv_ldc2 (v := 4294967295) hx hb hown (hts _ m_687f726b) (xb_d D_Reader_readData 13 rfl) ?_
      refine lv_land hx hb (xb_d D_Reader_readData 14 rfl) ?_
      obtain ⟨hk15, hw⟩ := hw
      obtain ⟨c18, sc18, hlc18, hlsc18, hw⟩ := hw
      refine xb_call (D := D) (A := A) (σ := σ) (h := h12) (d := 4) (mc := c18) (ms := sc18) (maxL := 3) (rest := []) (av := [.ref b11, .long ((Int32.toInt64 r13) &&& 4294967295)]) (fun T hT X => by obtain ⟨cb, r1, r2, r3⟩ := xb_recv (ci := 1) hR rfl hk15 (by decide); exact xt_invV X hx hown (hts _ m_da067afc) (hts _ m_7e8d081f) (hts _ m_4e47f51a) (xt_sigOf (hts _ m_4f1bdc54)) nm_Row_add (by rw [hT]; exact r1) r2 r3 (g := F0 m 31 ls [.long ((Int32.toInt64 r13) &&& 4294967295), .ref b11]) rfl (argsL := [.long ((Int32.toInt64 r13) &&& 4294967295)]) (rest := []) rfl rfl (by rw [hb]; exact (xb_d D_Reader_readData 15 rfl))) (ok_Row_add l hfl D A σ b11 ((Int32.toInt64 r13) &&& 4294967295) h12 c18 sc18 _ hw) (hml.trans hl.1.symm) (by rw [hb]; exact (xb_d D_Reader_readData 15 rfl)) (Nat.le_of_ble_eq_true rfl) (Nat.le_of_ble_eq_true rfl) (Nat.le_of_ble_eq_true rfl) (show ((k + c8) + c14) + c18 ≤ MC by omega) (show ((n + sc8) + sc14) + sc18 ≤ MS by omega) (xt_w1 hB.1 m_4f1bdc54) (xt_cdOf hB.1 m_4f1bdc54) (hts _ m_c1bef504) hB hR hS hA (fun vv h16 H locs hq hEh16 hR hS => ?_) (fun XX ax h16 H locs hq hEh16 hex hR hS => ?_)
      · obtain ⟨rfl, hw⟩ := hq
        have hw := hw hEh16
        have hE := hE.tr hEh16
        refine W.eq (g2 := F0 m 34 ls []) rfl ?_
        refine lv_aload_n hx hb (xb_d D_Reader_readData 16 rfl) rfl (lv_at hl 0 rfl) ?_
        have hk1 : xb_k h12 x0 = 4 := hEh12.k hk1
        have hk1 : xb_k h16 x0 = 4 := hEh16.k hk1
        refine xb_getP (C := R_Reader) (T := F_Reader) (N := 6) hx hb 3 0 hts fin_Reader hown hR hk1 (by decide) rfl (by decide) rfl (hts _ m_76d8349c) (fun _ h9 => h9) (xb_d D_Reader_readData 17 rfl) ?_
        obtain ⟨b19, eb19, hw⟩ := hw
        refine xb_some eb19 ?_
        obtain ⟨hk20, hw⟩ := hw
        refine xb_getP (C := R_StackModule) (T := F_StackModule) (N := 19) hx hb 2 13 hts fin_StackModule hown hR hk20 (by decide) rfl (by decide) rfl (hts _ m_8a7498eb) (fun _ h9 => h9) (xb_d D_Reader_readData 18 rfl) ?_
        obtain ⟨b21, eb21, hw⟩ := hw
        refine xb_some eb21 ?_
        refine lv_aload_n hx hb (xb_d D_Reader_readData 19 rfl) rfl (lv_at hl 0 rfl) ?_
        refine xb_getI (C := R_Reader) (T := F_Reader) (N := 6) hx hb 3 3 hts fin_Reader hown hR hk1 (by decide) rfl (by decide) rfl (hts _ m_a9b84ac2) (fun _ h9 => h9) (xb_d D_Reader_readData 20 rfl) ?_
        refine lv_i2l hx hb (xb_d D_Reader_readData 21 rfl) rfl ?_
        obtain ⟨hk22, hw⟩ := hw
        obtain ⟨c25, sc25, hlc25, hlsc25, hw⟩ := hw
        refine xb_call (D := D) (A := A) (σ := σ) (h := h16) (d := 4) (mc := c25) (ms := sc25) (maxL := 3) (rest := []) (av := [.ref b21, .long (Int32.toInt64 (xb_i h16 x0 3))]) (fun T hT X => by obtain ⟨cb, r1, r2, r3⟩ := xb_recv (ci := 1) hR rfl hk22 (by decide); exact xt_invV X hx hown (hts _ m_da067afc) (hts _ m_7e8d081f) (hts _ m_4e47f51a) (xt_sigOf (hts _ m_4f1bdc54)) nm_Row_add (by rw [hT]; exact r1) r2 r3 (g := F0 m 46 ls [.long (Int32.toInt64 (xb_i h16 x0 3)), .ref b21]) rfl (argsL := [.long (Int32.toInt64 (xb_i h16 x0 3))]) (rest := []) rfl rfl (by rw [hb]; exact (xb_d D_Reader_readData 22 rfl))) (ok_Row_add l hfl D A σ b21 (Int32.toInt64 (xb_i h16 x0 3)) h16 c25 sc25 _ hw) (hml.trans hl.1.symm) (by rw [hb]; exact (xb_d D_Reader_readData 22 rfl)) (Nat.le_of_ble_eq_true rfl) (Nat.le_of_ble_eq_true rfl) (Nat.le_of_ble_eq_true rfl) (show (((k + c8) + c14) + c18) + c25 ≤ MC by omega) (show (((n + sc8) + sc14) + sc18) + sc25 ≤ MS by omega) (xt_w1 hB.1 m_4f1bdc54) (xt_cdOf hB.1 m_4f1bdc54) (hts _ m_c1bef504) hB hR hS hA (fun vv h23 H locs hq hEh23 hR hS => ?_) (fun XX ax h23 H locs hq hEh23 hex hR hS => ?_)
        · obtain ⟨rfl, hw⟩ := hq
          have hw := hw hEh23
          have hE := hE.tr hEh23
          refine W.eq (g2 := F0 m 49 ls []) rfl ?_
          refine lv_aload_n hx hb (xb_d D_Reader_readData 23 rfl) rfl (lv_at hl 0 rfl) ?_
          have hk1 : xb_k h23 x0 = 4 := hEh23.k hk1
          obtain ⟨c28, sc28, hlc28, hlsc28, hw⟩ := hw
          refine xb_call (D := D) (A := A) (σ := σ) (h := h23) (d := 5) (mc := c28) (ms := sc28) (maxL := 6) (rest := []) (av := [.ref x0]) (fun T hT X => by obtain ⟨cb, r1, r2, r3⟩ := xb_recv (ci := 3) hR rfl hk1 (by decide); exact xt_invV X hx hown (hts _ m_90e667a6) (hts _ m_02684d67) (hts _ m_97aecff3) (xt_sigOf (hts _ m_150d97f6)) nm_Reader_readExpression (by rw [hT]; exact r1) r2 r3 (g := F0 m 50 ls [.ref x0]) rfl (argsL := []) (rest := []) rfl rfl (by rw [hb]; exact (xb_d D_Reader_readData 24 rfl))) (ok_Reader_readExpression l hfl D A σ x0 h23 c28 sc28 _ _ hw) (hml.trans hl.1.symm) (by rw [hb]; exact (xb_d D_Reader_readData 24 rfl)) (Nat.le_of_ble_eq_true rfl) (Nat.le_of_ble_eq_true rfl) (Nat.le_of_ble_eq_true rfl) (show ((((k + c8) + c14) + c18) + c25) + c28 ≤ MC by omega) (show ((((n + sc8) + sc14) + sc18) + sc25) + sc28 ≤ MS by omega) (xt_w1 hB.1 m_150d97f6) (xt_cdOf hB.1 m_150d97f6) (hts _ m_938fcec4) hB hR hS hA (fun vv h26 H locs hq hEh26 hR hS => ?_) (fun XX ax h26 H locs hq hEh26 hex hR hS => ?_)
          · obtain ⟨rfl, hw⟩ := hq
            have hw := hw hEh26
            have hE := hE.tr hEh26
            refine W.eq (g2 := F0 m 53 ls []) rfl ?_
            refine lv_aload_n hx hb (xb_d D_Reader_readData 25 rfl) rfl (lv_at hl 0 rfl) ?_
            have hk1 : xb_k h26 x0 = 4 := hEh26.k hk1
            obtain ⟨c31, sc31, hlc31, hlsc31, hw⟩ := hw
            refine xb_call (D := D) (A := A) (σ := σ) (h := h26) (d := 3) (mc := c31) (ms := sc31) (maxL := 4) (rest := []) (av := [.ref x0]) (fun T hT X => by obtain ⟨cb, r1, r2, r3⟩ := xb_recv (ci := 3) hR rfl hk1 (by decide); exact xt_invV X hx hown (hts _ m_2c379b4d) (hts _ m_a120e786) (hts _ m_e903c73e) (xt_sigOf (hts _ m_99690a98)) nm_Reader_count (by rw [hT]; exact r1) r2 r3 (g := F0 m 54 ls [.ref x0]) rfl (argsL := []) (rest := []) rfl rfl (by rw [hb]; exact (xb_d D_Reader_readData 26 rfl))) (ok_Reader_count l hfl D A σ x0 h26 c31 sc31 _ _ hw) (hml.trans hl.1.symm) (by rw [hb]; exact (xb_d D_Reader_readData 26 rfl)) (Nat.le_of_ble_eq_true rfl) (Nat.le_of_ble_eq_true rfl) (Nat.le_of_ble_eq_true rfl) (show (((((k + c8) + c14) + c18) + c25) + c28) + c31 ≤ MC by omega) (show (((((n + sc8) + sc14) + sc18) + sc25) + sc28) + sc31 ≤ MS by omega) (xt_w1 hB.1 m_99690a98) (xt_cdOf hB.1 m_99690a98) (hts _ m_938fcec4) hB hR hS hA (fun vv h29 H locs hq hEh29 hR hS => ?_) (fun XX ax h29 H locs hq hEh29 hex hR hS => ?_)
            · obtain ⟨r30, rfl, hw⟩ := hq
              have hw := hw hEh29
              have hE := hE.tr hEh29
              refine W.eq (g2 := F0 m 57 ls [.int r30]) rfl ?_
              refine lv_istore_n hx hb (xb_d D_Reader_readData 27 rfl) rfl hl (by decide) rfl (fun ls hl => ?_)
              have hl : lv_has ls 2 [(1, .int r30), (0, .ref x0)] := hl
              refine lv_iload_n hx hb (xb_d D_Reader_readData 28 rfl) rfl (lv_at hl 0 rfl) ?_
              refine lv_if_lt (tgt := 75) hx hb (xb_d D_Reader_readData 29 rfl) rfl (fun hc32 => ?_) (fun hc32 => ?_)
              · have hw := hw.1 hc32
                exact am_Reader_readData_L75 l hfl D A σ MC MS h0 Qr Qt x0 r30 h29 ((((((bc - c8) - c14) - c18) - c25) - c28) - c31) ((((((bs - sc8) - sc14) - sc18) - sc25) - sc28) - sc31) hw p e s m args below meth c hC H locs ls ((((((k + c8) + c14) + c18) + c25) + c28) + c31) ((((((n + sc8) + sc14) + sc18) + sc25) + sc28) + sc31) hE (lv_sub hl [1, 0] rfl) hR hS (by omega) (by omega)
              · have hw := hw.2 hc32
                refine lv_iload_n hx hb (xb_d D_Reader_readData 30 rfl) rfl (lv_at hl 0 rfl) ?_
                refine lv_aload_n hx hb (xb_d D_Reader_readData 31 rfl) rfl (lv_at hl 1 rfl) ?_
                have hk1 : xb_k h29 x0 = 4 := hEh29.k hk1
                refine xb_getI (C := R_Reader) (T := F_Reader) (N := 6) hx hb 3 4 hts fin_Reader hown hR hk1 (by decide) rfl (by decide) rfl (hts _ m_49916c4b) (fun _ h9 => h9) (xb_d D_Reader_readData 32 rfl) ?_
                refine lv_aload_n hx hb (xb_d D_Reader_readData 33 rfl) rfl (lv_at hl 1 rfl) ?_
                refine xb_getI (C := R_Reader) (T := F_Reader) (N := 6) hx hb 3 3 hts fin_Reader hown hR hk1 (by decide) rfl (by decide) rfl (hts _ m_a9b84ac2) (fun _ h9 => h9) (xb_d D_Reader_readData 34 rfl) ?_
                refine lv_isub hx hb (xb_d D_Reader_readData 35 rfl) ?_
                refine lv_icmp_le (tgt := 87) hx hb (xb_d D_Reader_readData 36 rfl) rfl (fun hc33 => ?_) (fun hc33 => ?_)
                · have hw := hw.1 hc33
                  exact am_Reader_readData_L87 l hfl D A σ MC MS h0 Qr Qt x0 r30 h29 ((((((bc - c8) - c14) - c18) - c25) - c28) - c31) ((((((bs - sc8) - sc14) - sc18) - sc25) - sc28) - sc31) hw p e s m args below meth c hC H locs ls ((((((k + c8) + c14) + c18) + c25) + c28) + c31) ((((((n + sc8) + sc14) + sc18) + sc25) + sc28) + sc31) hE (lv_sub hl [1, 0] rfl) hR hS (by omega) (by omega)
                · have hw := hw.2 hc33
                  exact am_Reader_readData_L75 l hfl D A σ MC MS h0 Qr Qt x0 r30 h29 ((((((bc - c8) - c14) - c18) - c25) - c28) - c31) ((((((bs - sc8) - sc14) - sc18) - sc25) - sc28) - sc31) hw p e s m args below meth c hC H locs ls ((((((k + c8) + c14) + c18) + c25) + c28) + c31) ((((((n + sc8) + sc14) + sc18) + sc25) + sc28) + sc31) hE (lv_sub hl [1, 0] rfl) hR hS (by omega) (by omega)
            · exact xb_pass hlocks (fun x hx9 => by rw [htab] at hx9; first | cases hx9 | (simp [tableOf] at hx9; rcases hx9 with rfl | rfl | rfl <;> decide)) (show ((((((k + c8) + c14) + c18) + c25) + c28) + c31) ≤ MC by omega) (show ((((((n + sc8) + sc14) + sc18) + sc25) + sc28) + sc31) ≤ MS by omega) (hE.tr hEh29) hR hS hex hq
          · exact xb_pass hlocks (fun x hx9 => by rw [htab] at hx9; first | cases hx9 | (simp [tableOf] at hx9; rcases hx9 with rfl | rfl | rfl <;> decide)) (show (((((k + c8) + c14) + c18) + c25) + c28) ≤ MC by omega) (show (((((n + sc8) + sc14) + sc18) + sc25) + sc28) ≤ MS by omega) (hE.tr hEh26) hR hS hex hq
        · exact False.elim hq
      · exact False.elim hq
    · exact xb_pass hlocks (fun x hx9 => by rw [htab] at hx9; first | cases hx9 | (simp [tableOf] at hx9; rcases hx9 with rfl | rfl | rfl <;> decide)) (show ((k + c8) + c14) ≤ MC by omega) (show ((n + sc8) + sc14) ≤ MS by omega) (hE.tr hEh12) hR hS hex hq
  · exact False.elim hq

theorem m_058cb54e : (.fieldLink "StackHost$Reader" 175 "StackHost$StackModule" "listed" "LStackHost$Row;" : Cond) ∈ xt_tbl := xt_in (xt_t3 (List.mem_of_getElem? (i := 98) (by decide +kernel))) (by decide +kernel)
theorem m_b3c18b13 : (.fieldLink "StackHost$Reader" 172 "StackHost$StackModule" "elements" "LStackHost$Row;" : Cond) ∈ xt_tbl := xt_in (xt_t3 (List.mem_of_getElem? (i := 94) (by decide +kernel))) (by decide +kernel)
set_option maxRecDepth 100000 in
def T_Reader_readElements : List (Nat × Instr × Nat) := [(0, .aload_n 0, 1), (1, .getfield 15, 3), (4, .getfield 172, 3), (7, .aload_n 0, 1), (8, .getfield 41, 3), (11, .i2l, 1), (12, .invokevirtual 87, 3), (15, .aload_n 0, 1), (16, .getfield 15, 3), (19, .getfield 172, 3), (22, .aload_n 0, 1), (23, .invokevirtual 70, 3), (26, .i2l, 1), (27, .ldc2_w 76, 3), (30, .land, 1), (31, .invokevirtual 87, 3), (34, .aload_n 0, 1), (35, .getfield 15, 3), (38, .getfield 172, 3), (41, .aload_n 0, 1), (42, .getfield 41, 3), (45, .i2l, 1), (46, .invokevirtual 87, 3), (49, .aload_n 0, 1), (50, .invokevirtual 166, 3), (53, .aload_n 0, 1), (54, .invokevirtual 70, 3), (57, .i2l, 1), (58, .ldc2_w 76, 3), (61, .land, 1), (62, .lstore_n 1, 1), (63, .aload_n 0, 1), (64, .getfield 15, 3), (67, .getfield 172, 3), (70, .aload_n 0, 1), (71, .getfield 15, 3), (74, .getfield 175, 3), (77, .invokevirtual 58, 3), (80, .i2l, 1), (81, .invokevirtual 87, 3), (84, .aload_n 0, 1), (85, .getfield 15, 3), (88, .getfield 172, 3), (91, .lload_n 1, 1), (92, .invokevirtual 87, 3), (95, .lconst 0, 1), (96, .lstore_n 3, 1), (97, .lload_n 3, 1), (98, .lload_n 1, 1), (99, .lcmp, 1), (100, .ifCond .ge 44, 3), (103, .aload_n 0, 1), (104, .getfield 15, 3), (107, .getfield 175, 3), (110, .aload_n 0, 1), (111, .getfield 41, 3), (114, .i2l, 1), (115, .invokevirtual 87, 3), (118, .aload_n 0, 1), (119, .getfield 15, 3), (122, .getfield 175, 3), (125, .aload_n 0, 1), (126, .invokevirtual 70, 3), (129, .i2l, 1), (130, .ldc2_w 76, 3), (133, .land, 1), (134, .invokevirtual 87, 3), (137, .lload_n 3, 1), (138, .lconst 1, 1), (139, .ladd, 1), (140, .lstore_n 3, 1), (141, .goto (-44), 3), (144, .return_, 1)]
theorem D_Reader_readElements : ∀ q ∈ T_Reader_readElements, decode b_Reader_readElements q.1 = .ok (q.2.1, q.2.2) := by decide +kernel
def w_Reader_readElements_L97 (Qr : xb_H → Prop) (Qt : String → xb_H → Prop) : Nat → Nat → Int64 → Int64 → xb_H → Nat → Nat → Prop
  | 0, _, _, _, _, _, _ => False
  | n9 + 1, x0, x1, x3, h, bc, bs =>
    ((x1 ≤ x3 → Qr h) ∧ (¬ x1 ≤ x3 → xb_k h x0 = 4 ∧ ∃ b3 : Nat, (xb_r h x0 0) = some b3 ∧ xb_k h b3 = 3 ∧ ∃ b5 : Nat, (xb_r h b3 10) = some b5 ∧ xb_k h b5 = 2 ∧ ∃ c9 sc9 : Nat, c9 ≤ bc ∧ sc9 ≤ bs ∧ w_Row_add b5 (Int32.toInt64 (xb_i h x0 3)) h c9 sc9 (fun (h7 : xb_H) => xb_ext h h7 → ∃ b10 : Nat, (xb_r h7 x0 0) = some b10 ∧ xb_k h7 b10 = 3 ∧ ∃ b12 : Nat, (xb_r h7 b10 10) = some b12 ∧ ∃ c15 sc15 : Nat, c15 ≤ (bc - c9) ∧ sc15 ≤ (bs - sc9) ∧ w_Reader_count x0 h7 c15 sc15 (fun (r14 : Int32) (h13 : xb_H) => xb_ext h7 h13 → xb_k h13 b12 = 2 ∧ ∃ c19 sc19 : Nat, c19 ≤ ((bc - c9) - c15) ∧ sc19 ≤ ((bs - sc9) - sc15) ∧ w_Row_add b12 ((Int32.toInt64 r14) &&& 4294967295) h13 c19 sc19 (fun (h17 : xb_H) => xb_ext h13 h17 → ∀ v20 : Int64, v20 = (x3 + 1) → w_Reader_readElements_L97 Qr Qt n9 x0 x1 v20 h17 (((bc - c9) - c15) - c19) (((bs - sc9) - sc15) - sc19))) Qt)))

def w_Reader_readElements (x0 : Nat) (h : xb_H) (bc : Nat) (bs : Nat) (Qr : xb_H → Prop) (Qt : String → xb_H → Prop) : Prop :=
    xb_k h x0 = 4 ∧ ∃ b2 : Nat, (xb_r h x0 0) = some b2 ∧ xb_k h b2 = 3 ∧ ∃ b4 : Nat, (xb_r h b2 9) = some b4 ∧ xb_k h b4 = 2 ∧ ∃ c8 sc8 : Nat, c8 ≤ bc ∧ sc8 ≤ bs ∧ w_Row_add b4 (Int32.toInt64 (xb_i h x0 3)) h c8 sc8 (fun (h6 : xb_H) => xb_ext h h6 → ∃ b9 : Nat, (xb_r h6 x0 0) = some b9 ∧ xb_k h6 b9 = 3 ∧ ∃ b11 : Nat, (xb_r h6 b9 9) = some b11 ∧ ∃ c14 sc14 : Nat, c14 ≤ (bc - c8) ∧ sc14 ≤ (bs - sc8) ∧ w_Reader_count x0 h6 c14 sc14 (fun (r13 : Int32) (h12 : xb_H) => xb_ext h6 h12 → xb_k h12 b11 = 2 ∧ ∃ c18 sc18 : Nat, c18 ≤ ((bc - c8) - c14) ∧ sc18 ≤ ((bs - sc8) - sc14) ∧ w_Row_add b11 ((Int32.toInt64 r13) &&& 4294967295) h12 c18 sc18 (fun (h16 : xb_H) => xb_ext h12 h16 → ∃ b19 : Nat, (xb_r h16 x0 0) = some b19 ∧ xb_k h16 b19 = 3 ∧ ∃ b21 : Nat, (xb_r h16 b19 9) = some b21 ∧ xb_k h16 b21 = 2 ∧ ∃ c25 sc25 : Nat, c25 ≤ (((bc - c8) - c14) - c18) ∧ sc25 ≤ (((bs - sc8) - sc14) - sc18) ∧ w_Row_add b21 (Int32.toInt64 (xb_i h16 x0 3)) h16 c25 sc25 (fun (h23 : xb_H) => xb_ext h16 h23 → ∃ c28 sc28 : Nat, c28 ≤ ((((bc - c8) - c14) - c18) - c25) ∧ sc28 ≤ ((((bs - sc8) - sc14) - sc18) - sc25) ∧ w_Reader_readExpression x0 h23 c28 sc28 (fun (h26 : xb_H) => xb_ext h23 h26 → ∃ c31 sc31 : Nat, c31 ≤ (((((bc - c8) - c14) - c18) - c25) - c28) ∧ sc31 ≤ (((((bs - sc8) - sc14) - sc18) - sc25) - sc28) ∧ w_Reader_count x0 h26 c31 sc31 (fun (r30 : Int32) (h29 : xb_H) => xb_ext h26 h29 → ∀ v32 : Int64, v32 = ((Int32.toInt64 r30) &&& 4294967295) → ∃ b33 : Nat, (xb_r h29 x0 0) = some b33 ∧ xb_k h29 b33 = 3 ∧ ∃ b35 : Nat, (xb_r h29 b33 9) = some b35 ∧ ∃ b36 : Nat, (xb_r h29 x0 0) = some b36 ∧ xb_k h29 b36 = 3 ∧ ∃ b38 : Nat, (xb_r h29 b36 10) = some b38 ∧ xb_k h29 b38 = 2 ∧ w_Row_lines b38 h29 (fun (r41 : Int32) (h40 : xb_H) => xb_ext h29 h40 → xb_k h40 b35 = 2 ∧ ∃ c45 sc45 : Nat, c45 ≤ ((((((bc - c8) - c14) - c18) - c25) - c28) - c31) ∧ sc45 ≤ ((((((bs - sc8) - sc14) - sc18) - sc25) - sc28) - sc31) ∧ w_Row_add b35 (Int32.toInt64 r41) h40 c45 sc45 (fun (h43 : xb_H) => xb_ext h40 h43 → ∃ b46 : Nat, (xb_r h43 x0 0) = some b46 ∧ xb_k h43 b46 = 3 ∧ ∃ b48 : Nat, (xb_r h43 b46 9) = some b48 ∧ xb_k h43 b48 = 2 ∧ ∃ c52 sc52 : Nat, c52 ≤ (((((((bc - c8) - c14) - c18) - c25) - c28) - c31) - c45) ∧ sc52 ≤ (((((((bs - sc8) - sc14) - sc18) - sc25) - sc28) - sc31) - sc45) ∧ w_Row_add b48 v32 h43 c52 sc52 (fun (h50 : xb_H) => xb_ext h43 h50 → (∃ n8 : Nat, w_Reader_readElements_L97 Qr Qt n8 x0 v32 0 h50 ((((((((bc - c8) - c14) - c18) - c25) - c28) - c31) - c45) - c52) ((((((((bs - sc8) - sc14) - sc18) - sc25) - sc28) - sc31) - sc45) - sc52)))))) Qt) Qt))) Qt)

set_option maxHeartbeats 4000000 in
set_option maxRecDepth 100000 in
theorem am_Reader_readElements_L97 (l : Launch) (hfl : l.flags = pinnedFlags ++ [noTraceFlag]) (D : va_G) (A : Nat → Prop) (σ MC MS : Nat) (h0 : xb_H) (Qr : xb_H → Prop) (Qt : String → xb_H → Prop) (n9 : Nat) : ∀ (x0 : Nat) (x1 : Int64) (x3 : Int64) (h : xb_H) (bc : Nat) (bs : Nat), w_Reader_readElements_L97 Qr Qt n9 x0 x1 x3 h bc bs → xb_am l D A σ 6 MC MS h0 (fun v h => v = none ∧ Qr h) Qt y_Reader_readElements.cls y_Reader_readElements.name b_Reader_readElements 5 ([] : List ExceptionTableEntry) none 97 [(0, .ref x0), (1, .long x1), (3, .long x3)] [] h bc bs := by
  induction n9 with
  | zero => intro x0 x1 x3 h bc bs hw; exact False.elim hw
  | succ n9 ih =>
    intro x0 x1 x3 h bc bs hw
    unfold w_Reader_readElements_L97 at hw
    intro p e s m args below meth c hC H locs ls k n hE hl hR hS hk hn
    obtain ⟨hx, hb, hown, hlocks, htab, hml, hr, hB, hA, hnm⟩ := id hC
    have hts := hB.1.1.at args
    refine lv_lload_n hx hb (xb_d D_Reader_readElements 47 rfl) rfl (lv_at hl 2 rfl) ?_
    refine lv_lload_n hx hb (xb_d D_Reader_readElements 48 rfl) rfl (lv_at hl 1 rfl) ?_
    refine xb_lc_ge (tgt := 144) hx hb (xb_d D_Reader_readElements 49 rfl) (xb_d D_Reader_readElements 50 rfl) rfl (fun hc1 => ?_) (fun hc1 => ?_)
    · have hw := hw.1 hc1
      exact xb_vret hx hb hr hlocks (show k ≤ MC by omega) (show n ≤ MS by omega) hE hR hS (xb_d D_Reader_readElements 72 rfl) hw
    · have hw := hw.2 hc1
      refine lv_aload_n hx hb (xb_d D_Reader_readElements 51 rfl) rfl (lv_at hl 0 rfl) ?_
      obtain ⟨hk2, hw⟩ := hw
      refine xb_getP (C := R_Reader) (T := F_Reader) (N := 6) hx hb 3 0 hts fin_Reader hown hR hk2 (by decide) rfl (by decide) rfl (hts _ m_76d8349c) (fun _ h9 => h9) (xb_d D_Reader_readElements 52 rfl) ?_
      obtain ⟨b3, eb3, hw⟩ := hw
      refine xb_some eb3 ?_
      obtain ⟨hk4, hw⟩ := hw
      refine xb_getP (C := R_StackModule) (T := F_StackModule) (N := 19) hx hb 2 10 hts fin_StackModule hown hR hk4 (by decide) rfl (by decide) rfl (hts _ m_058cb54e) (fun _ h9 => h9) (xb_d D_Reader_readElements 53 rfl) ?_
      obtain ⟨b5, eb5, hw⟩ := hw
      refine xb_some eb5 ?_
      refine lv_aload_n hx hb (xb_d D_Reader_readElements 54 rfl) rfl (lv_at hl 0 rfl) ?_
      refine xb_getI (C := R_Reader) (T := F_Reader) (N := 6) hx hb 3 3 hts fin_Reader hown hR hk2 (by decide) rfl (by decide) rfl (hts _ m_a9b84ac2) (fun _ h9 => h9) (xb_d D_Reader_readElements 55 rfl) ?_
      refine lv_i2l hx hb (xb_d D_Reader_readElements 56 rfl) rfl ?_
      obtain ⟨hk6, hw⟩ := hw
      obtain ⟨c9, sc9, hlc9, hlsc9, hw⟩ := hw
      refine xb_call (D := D) (A := A) (σ := σ) (h := h) (d := 4) (mc := c9) (ms := sc9) (maxL := 3) (rest := []) (av := [.ref b5, .long (Int32.toInt64 (xb_i h x0 3))]) (fun T hT X => by obtain ⟨cb, r1, r2, r3⟩ := xb_recv (ci := 1) hR rfl hk6 (by decide); exact xt_invV X hx hown (hts _ m_da067afc) (hts _ m_7e8d081f) (hts _ m_4e47f51a) (xt_sigOf (hts _ m_4f1bdc54)) nm_Row_add (by rw [hT]; exact r1) r2 r3 (g := F0 m 115 ls [.long (Int32.toInt64 (xb_i h x0 3)), .ref b5]) rfl (argsL := [.long (Int32.toInt64 (xb_i h x0 3))]) (rest := []) rfl rfl (by rw [hb]; exact (xb_d D_Reader_readElements 57 rfl))) (ok_Row_add l hfl D A σ b5 (Int32.toInt64 (xb_i h x0 3)) h c9 sc9 _ hw) (hml.trans hl.1.symm) (by rw [hb]; exact (xb_d D_Reader_readElements 57 rfl)) (Nat.le_of_ble_eq_true rfl) (Nat.le_of_ble_eq_true rfl) (Nat.le_of_ble_eq_true rfl) (show k + c9 ≤ MC by omega) (show n + sc9 ≤ MS by omega) (xt_w1 hB.1 m_4f1bdc54) (xt_cdOf hB.1 m_4f1bdc54) (hts _ m_c1bef504) hB hR hS hA (fun vv h7 H locs hq hEh7 hR hS => ?_) (fun XX ax h7 H locs hq hEh7 hex hR hS => ?_)
      · obtain ⟨rfl, hw⟩ := hq
        have hw := hw hEh7
        have hE := hE.tr hEh7
        refine W.eq (g2 := F0 m 118 ls []) rfl ?_
        refine lv_aload_n hx hb (xb_d D_Reader_readElements 58 rfl) rfl (lv_at hl 0 rfl) ?_
        have hk2 : xb_k h7 x0 = 4 := hEh7.k hk2
        refine xb_getP (C := R_Reader) (T := F_Reader) (N := 6) hx hb 3 0 hts fin_Reader hown hR hk2 (by decide) rfl (by decide) rfl (hts _ m_76d8349c) (fun _ h9 => h9) (xb_d D_Reader_readElements 59 rfl) ?_
        obtain ⟨b10, eb10, hw⟩ := hw
        refine xb_some eb10 ?_
        obtain ⟨hk11, hw⟩ := hw
        refine xb_getP (C := R_StackModule) (T := F_StackModule) (N := 19) hx hb 2 10 hts fin_StackModule hown hR hk11 (by decide) rfl (by decide) rfl (hts _ m_058cb54e) (fun _ h9 => h9) (xb_d D_Reader_readElements 60 rfl) ?_
        obtain ⟨b12, eb12, hw⟩ := hw
        refine xb_some eb12 ?_
        refine lv_aload_n hx hb (xb_d D_Reader_readElements 61 rfl) rfl (lv_at hl 0 rfl) ?_
        obtain ⟨c15, sc15, hlc15, hlsc15, hw⟩ := hw
        refine xb_call (D := D) (A := A) (σ := σ) (h := h7) (d := 3) (mc := c15) (ms := sc15) (maxL := 4) (rest := [.ref b12]) (av := [.ref x0]) (fun T hT X => by obtain ⟨cb, r1, r2, r3⟩ := xb_recv (ci := 3) hR rfl hk2 (by decide); exact xt_invV X hx hown (hts _ m_2c379b4d) (hts _ m_a120e786) (hts _ m_e903c73e) (xt_sigOf (hts _ m_99690a98)) nm_Reader_count (by rw [hT]; exact r1) r2 r3 (g := F0 m 126 ls [.ref x0, .ref b12]) rfl (argsL := []) (rest := [.ref b12]) rfl rfl (by rw [hb]; exact (xb_d D_Reader_readElements 62 rfl))) (ok_Reader_count l hfl D A σ x0 h7 c15 sc15 _ _ hw) (hml.trans hl.1.symm) (by rw [hb]; exact (xb_d D_Reader_readElements 62 rfl)) (Nat.le_of_ble_eq_true rfl) (Nat.le_of_ble_eq_true rfl) (Nat.le_of_ble_eq_true rfl) (show (k + c9) + c15 ≤ MC by omega) (show (n + sc9) + sc15 ≤ MS by omega) (xt_w1 hB.1 m_99690a98) (xt_cdOf hB.1 m_99690a98) (hts _ m_938fcec4) hB hR hS hA (fun vv h13 H locs hq hEh13 hR hS => ?_) (fun XX ax h13 H locs hq hEh13 hex hR hS => ?_)
        · obtain ⟨r14, rfl, hw⟩ := hq
          have hw := hw hEh13
          have hE := hE.tr hEh13
          refine W.eq (g2 := F0 m 129 ls [.int r14, .ref b12]) rfl ?_
          refine lv_i2l hx hb (xb_d D_Reader_readElements 63 rfl) rfl ?_
          refine lv_ldc2 (v := 4294967295) hx hb hown (hts _ m_687f726b) (xb_d D_Reader_readElements 64 rfl) ?_
          refine lv_land hx hb (xb_d D_Reader_readElements 65 rfl) ?_
          obtain ⟨hk16, hw⟩ := hw
          obtain ⟨c19, sc19, hlc19, hlsc19, hw⟩ := hw
          refine xb_call (D := D) (A := A) (σ := σ) (h := h13) (d := 4) (mc := c19) (ms := sc19) (maxL := 3) (rest := []) (av := [.ref b12, .long ((Int32.toInt64 r14) &&& 4294967295)]) (fun T hT X => by obtain ⟨cb, r1, r2, r3⟩ := xb_recv (ci := 1) hR rfl hk16 (by decide); exact xt_invV X hx hown (hts _ m_da067afc) (hts _ m_7e8d081f) (hts _ m_4e47f51a) (xt_sigOf (hts _ m_4f1bdc54)) nm_Row_add (by rw [hT]; exact r1) r2 r3 (g := F0 m 134 ls [.long ((Int32.toInt64 r14) &&& 4294967295), .ref b12]) rfl (argsL := [.long ((Int32.toInt64 r14) &&& 4294967295)]) (rest := []) rfl rfl (by rw [hb]; exact (xb_d D_Reader_readElements 66 rfl))) (ok_Row_add l hfl D A σ b12 ((Int32.toInt64 r14) &&& 4294967295) h13 c19 sc19 _ hw) (hml.trans hl.1.symm) (by rw [hb]; exact (xb_d D_Reader_readElements 66 rfl)) (Nat.le_of_ble_eq_true rfl) (Nat.le_of_ble_eq_true rfl) (Nat.le_of_ble_eq_true rfl) (show ((k + c9) + c15) + c19 ≤ MC by omega) (show ((n + sc9) + sc15) + sc19 ≤ MS by omega) (xt_w1 hB.1 m_4f1bdc54) (xt_cdOf hB.1 m_4f1bdc54) (hts _ m_c1bef504) hB hR hS hA (fun vv h17 H locs hq hEh17 hR hS => ?_) (fun XX ax h17 H locs hq hEh17 hex hR hS => ?_)
          · obtain ⟨rfl, hw⟩ := hq
            have hw := hw hEh17
            have hE := hE.tr hEh17
            refine W.eq (g2 := F0 m 137 ls []) rfl ?_
            refine lv_lload_n hx hb (xb_d D_Reader_readElements 67 rfl) rfl (lv_at hl 2 rfl) ?_
            refine lv_lconst (v := 1) hx hb (xb_d D_Reader_readElements 68 rfl) (by decide) ?_
            refine lv_ladd hx hb (xb_d D_Reader_readElements 69 rfl) ?_
            obtain ⟨v20, ev20⟩ : ∃ x : Int64, x = (x3 + 1) := ⟨_, rfl⟩
            have hw := hw v20 ev20
            refine xt_numl (y := v20) ev20.symm ?_
            refine lv_lstore_n hx hb (xb_d D_Reader_readElements 70 rfl) rfl hl (by decide) rfl (fun ls hl => ?_)
            have hl : lv_has ls 5 [(3, .long v20), (0, .ref x0), (1, .long x1)] := hl
            refine lv_goto (tgt := 97) hx hb (xb_d D_Reader_readElements 71 rfl) rfl ?_
            exact ih x0 x1 v20 h17 (((bc - c9) - c15) - c19) (((bs - sc9) - sc15) - sc19) hw p e s m args below meth c hC H locs ls (((k + c9) + c15) + c19) (((n + sc9) + sc15) + sc19) hE (lv_sub hl [1, 2, 0] rfl) hR hS (by omega) (by omega)
          · exact False.elim hq
        · exact xb_pass hlocks (fun x hx9 => by rw [htab] at hx9; first | cases hx9 | (simp [tableOf] at hx9; rcases hx9 with rfl | rfl | rfl <;> decide)) (show ((k + c9) + c15) ≤ MC by omega) (show ((n + sc9) + sc15) ≤ MS by omega) (hE.tr hEh13) hR hS hex hq
      · exact False.elim hq

set_option maxHeartbeats 4000000 in
set_option maxRecDepth 100000 in
theorem ok_Reader_readElements (l : Launch) (hfl : l.flags = pinnedFlags ++ [noTraceFlag]) (D : va_G) (A : Nat → Prop) (σ : Nat) (x0 : Nat) (h : xb_H) (bc : Nat) (bs : Nat) (Qr : xb_H → Prop) (Qt : String → xb_H → Prop) (hw : w_Reader_readElements x0 h bc bs Qr Qt) : xt_Met l y_Reader_readElements [.code y_Reader_readElements b_Reader_readElements 5 none] (xb_rm 6 bc bs) (xb_Pc D A σ h [.ref x0]) (xb_Qc D A h (fun v h => v = none ∧ Qr h) Qt) bc bs A := by
  refine xb_ofAm (cc := b_Reader_readElements) (by decide) (Nat.le_of_ble_eq_true rfl) ?_
  unfold w_Reader_readElements at hw
  show xb_am l D A σ 6 bc bs h (fun v h => v = none ∧ Qr h) Qt y_Reader_readElements.cls y_Reader_readElements.name b_Reader_readElements 5 ([] : List ExceptionTableEntry) none 0 [(0, .ref x0)] [] h bc bs
  obtain ⟨MC, hMC⟩ : ∃ x, x = bc := ⟨_, rfl⟩
  obtain ⟨MS, hMS⟩ : ∃ x, x = bs := ⟨_, rfl⟩
  rw [show xb_am l D A σ 6 bc bs = xb_am l D A σ 6 MC MS by rw [hMC, hMS]]
  obtain ⟨h0, hh0⟩ : ∃ x, x = h := ⟨_, rfl⟩
  rw [show xb_am l D A σ 6 MC MS h = xb_am l D A σ 6 MC MS h0 by rw [hh0]]
  intro p e s m args below meth c hC H locs ls k n hE hl hR hS hk hn
  obtain ⟨hx, hb, hown, hlocks, htab, hml, hr, hB, hA, hnm⟩ := id hC
  have hts := hB.1.1.at args
  refine lv_aload_n hx hb (xb_d D_Reader_readElements 0 rfl) rfl (lv_at hl 0 rfl) ?_
  obtain ⟨hk1, hw⟩ := hw
  refine xb_getP (C := R_Reader) (T := F_Reader) (N := 6) hx hb 3 0 hts fin_Reader hown hR hk1 (by decide) rfl (by decide) rfl (hts _ m_76d8349c) (fun _ h9 => h9) (xb_d D_Reader_readElements 1 rfl) ?_
  obtain ⟨b2, eb2, hw⟩ := hw
  refine xb_some eb2 ?_
  obtain ⟨hk3, hw⟩ := hw
  refine xb_getP (C := R_StackModule) (T := F_StackModule) (N := 19) hx hb 2 9 hts fin_StackModule hown hR hk3 (by decide) rfl (by decide) rfl (hts _ m_b3c18b13) (fun _ h9 => h9) (xb_d D_Reader_readElements 2 rfl) ?_
  obtain ⟨b4, eb4, hw⟩ := hw
  refine xb_some eb4 ?_
  refine lv_aload_n hx hb (xb_d D_Reader_readElements 3 rfl) rfl (lv_at hl 0 rfl) ?_
  refine xb_getI (C := R_Reader) (T := F_Reader) (N := 6) hx hb 3 3 hts fin_Reader hown hR hk1 (by decide) rfl (by decide) rfl (hts _ m_a9b84ac2) (fun _ h9 => h9) (xb_d D_Reader_readElements 4 rfl) ?_
  refine lv_i2l hx hb (xb_d D_Reader_readElements 5 rfl) rfl ?_
  obtain ⟨hk5, hw⟩ := hw
  obtain ⟨c8, sc8, hlc8, hlsc8, hw⟩ := hw
  refine xb_call (D := D) (A := A) (σ := σ) (h := h) (d := 4) (mc := c8) (ms := sc8) (maxL := 3) (rest := []) (av := [.ref b4, .long (Int32.toInt64 (xb_i h x0 3))]) (fun T hT X => by obtain ⟨cb, r1, r2, r3⟩ := xb_recv (ci := 1) hR rfl hk5 (by decide); exact xt_invV X hx hown (hts _ m_da067afc) (hts _ m_7e8d081f) (hts _ m_4e47f51a) (xt_sigOf (hts _ m_4f1bdc54)) nm_Row_add (by rw [hT]; exact r1) r2 r3 (g := F0 m 12 ls [.long (Int32.toInt64 (xb_i h x0 3)), .ref b4]) rfl (argsL := [.long (Int32.toInt64 (xb_i h x0 3))]) (rest := []) rfl rfl (by rw [hb]; exact (xb_d D_Reader_readElements 6 rfl))) (ok_Row_add l hfl D A σ b4 (Int32.toInt64 (xb_i h x0 3)) h c8 sc8 _ hw) (hml.trans hl.1.symm) (by rw [hb]; exact (xb_d D_Reader_readElements 6 rfl)) (Nat.le_of_ble_eq_true rfl) (Nat.le_of_ble_eq_true rfl) (Nat.le_of_ble_eq_true rfl) (show k + c8 ≤ MC by omega) (show n + sc8 ≤ MS by omega) (xt_w1 hB.1 m_4f1bdc54) (xt_cdOf hB.1 m_4f1bdc54) (hts _ m_c1bef504) hB hR hS hA (fun vv h6 H locs hq hEh6 hR hS => ?_) (fun XX ax h6 H locs hq hEh6 hex hR hS => ?_)
  · obtain ⟨rfl, hw⟩ := hq
    have hw := hw hEh6
    have hE := hE.tr hEh6
    refine W.eq (g2 := F0 m 15 ls []) rfl ?_
    refine lv_aload_n hx hb (xb_d D_Reader_readElements 7 rfl) rfl (lv_at hl 0 rfl) ?_
    have hk1 : xb_k h6 x0 = 4 := hEh6.k hk1
    refine xb_getP (C := R_Reader) (T := F_Reader) (N := 6) hx hb 3 0 hts fin_Reader hown hR hk1 (by decide) rfl (by decide) rfl (hts _ m_76d8349c) (fun _ h9 => h9) (xb_d D_Reader_readElements 8 rfl) ?_
    obtain ⟨b9, eb9, hw⟩ := hw
    refine xb_some eb9 ?_
    obtain ⟨hk10, hw⟩ := hw
    refine xb_getP (C := R_StackModule) (T := F_StackModule) (N := 19) hx hb 2 9 hts fin_StackModule hown hR hk10 (by decide) rfl (by decide) rfl (hts _ m_b3c18b13) (fun _ h9 => h9) (xb_d D_Reader_readElements 9 rfl) ?_
    obtain ⟨b11, eb11, hw⟩ := hw
    refine xb_some eb11 ?_
    refine lv_aload_n hx hb (xb_d D_Reader_readElements 10 rfl) rfl (lv_at hl 0 rfl) ?_
    obtain ⟨c14, sc14, hlc14, hlsc14, hw⟩ := hw
    refine xb_call (D := D) (A := A) (σ := σ) (h := h6) (d := 3) (mc := c14) (ms := sc14) (maxL := 4) (rest := [.ref b11]) (av := [.ref x0]) (fun T hT X => by obtain ⟨cb, r1, r2, r3⟩ := xb_recv (ci := 3) hR rfl hk1 (by decide); exact xt_invV X hx hown (hts _ m_2c379b4d) (hts _ m_a120e786) (hts _ m_e903c73e) (xt_sigOf (hts _ m_99690a98)) nm_Reader_count (by rw [hT]; exact r1) r2 r3 (g := F0 m 23 ls [.ref x0, .ref b11]) rfl (argsL := []) (rest := [.ref b11]) rfl rfl (by rw [hb]; exact (xb_d D_Reader_readElements 11 rfl))) (ok_Reader_count l hfl D A σ x0 h6 c14 sc14 _ _ hw) (hml.trans hl.1.symm) (by rw [hb]; exact (xb_d D_Reader_readElements 11 rfl)) (Nat.le_of_ble_eq_true rfl) (Nat.le_of_ble_eq_true rfl) (Nat.le_of_ble_eq_true rfl) (show (k + c8) + c14 ≤ MC by omega) (show (n + sc8) + sc14 ≤ MS by omega) (xt_w1 hB.1 m_99690a98) (xt_cdOf hB.1 m_99690a98) (hts _ m_938fcec4) hB hR hS hA (fun vv h12 H locs hq hEh12 hR hS => ?_) (fun XX ax h12 H locs hq hEh12 hex hR hS => ?_)
    · obtain ⟨r13, rfl, hw⟩ := hq
      have hw := hw hEh12
      have hE := hE.tr hEh12
      refine W.eq (g2 := F0 m 26 ls [.int r13, .ref b11]) rfl ?_
      refine lv_i2l hx hb (xb_d D_Reader_readElements 12 rfl) rfl ?_
      refine lv_ldc2 (v := 4294967295) hx hb hown (hts _ m_687f726b) (xb_d D_Reader_readElements 13 rfl) ?_
      refine lv_land hx hb (xb_d D_Reader_readElements 14 rfl) ?_
      obtain ⟨hk15, hw⟩ := hw
      obtain ⟨c18, sc18, hlc18, hlsc18, hw⟩ := hw
      refine xb_call (D := D) (A := A) (σ := σ) (h := h12) (d := 4) (mc := c18) (ms := sc18) (maxL := 3) (rest := []) (av := [.ref b11, .long ((Int32.toInt64 r13) &&& 4294967295)]) (fun T hT X => by obtain ⟨cb, r1, r2, r3⟩ := xb_recv (ci := 1) hR rfl hk15 (by decide); exact xt_invV X hx hown (hts _ m_da067afc) (hts _ m_7e8d081f) (hts _ m_4e47f51a) (xt_sigOf (hts _ m_4f1bdc54)) nm_Row_add (by rw [hT]; exact r1) r2 r3 (g := F0 m 31 ls [.long ((Int32.toInt64 r13) &&& 4294967295), .ref b11]) rfl (argsL := [.long ((Int32.toInt64 r13) &&& 4294967295)]) (rest := []) rfl rfl (by rw [hb]; exact (xb_d D_Reader_readElements 15 rfl))) (ok_Row_add l hfl D A σ b11 ((Int32.toInt64 r13) &&& 4294967295) h12 c18 sc18 _ hw) (hml.trans hl.1.symm) (by rw [hb]; exact (xb_d D_Reader_readElements 15 rfl)) (Nat.le_of_ble_eq_true rfl) (Nat.le_of_ble_eq_true rfl) (Nat.le_of_ble_eq_true rfl) (show ((k + c8) + c14) + c18 ≤ MC by omega) (show ((n + sc8) + sc14) + sc18 ≤ MS by omega) (xt_w1 hB.1 m_4f1bdc54) (xt_cdOf hB.1 m_4f1bdc54) (hts _ m_c1bef504) hB hR hS hA (fun vv h16 H locs hq hEh16 hR hS => ?_) (fun XX ax h16 H locs hq hEh16 hex hR hS => ?_)
      · obtain ⟨rfl, hw⟩ := hq
        have hw := hw hEh16
        have hE := hE.tr hEh16
        refine W.eq (g2 := F0 m 34 ls []) rfl ?_
        refine lv_aload_n hx hb (xb_d D_Reader_readElements 16 rfl) rfl (lv_at hl 0 rfl) ?_
        have hk1 : xb_k h12 x0 = 4 := hEh12.k hk1
        have hk1 : xb_k h16 x0 = 4 := hEh16.k hk1
        refine xb_getP (C := R_Reader) (T := F_Reader) (N := 6) hx hb 3 0 hts fin_Reader hown hR hk1 (by decide) rfl (by decide) rfl (hts _ m_76d8349c) (fun _ h9 => h9) (xb_d D_Reader_readElements 17 rfl) ?_
        obtain ⟨b19, eb19, hw⟩ := hw
        refine xb_some eb19 ?_
        obtain ⟨hk20, hw⟩ := hw
        refine xb_getP (C := R_StackModule) (T := F_StackModule) (N := 19) hx hb 2 9 hts fin_StackModule hown hR hk20 (by decide) rfl (by decide) rfl (hts _ m_b3c18b13) (fun _ h9 => h9) (xb_d D_Reader_readElements 18 rfl) ?_
        obtain ⟨b21, eb21, hw⟩ := hw
        refine xb_some eb21 ?_
        refine lv_aload_n hx hb (xb_d D_Reader_readElements 19 rfl) rfl (lv_at hl 0 rfl) ?_
        refine xb_getI (C := R_Reader) (T := F_Reader) (N := 6) hx hb 3 3 hts fin_Reader hown hR hk1 (by decide) rfl (by decide) rfl (hts _ m_a9b84ac2) (fun _ h9 => h9) (xb_d D_Reader_readElements 20 rfl) ?_
        refine lv_i2l hx hb (xb_d D_Reader_readElements 21 rfl) rfl ?_
        obtain ⟨hk22, hw⟩ := hw
        obtain ⟨c25, sc25, hlc25, hlsc25, hw⟩ := hw
        refine xb_call (D := D) (A := A) (σ := σ) (h := h16) (d := 4) (mc := c25) (ms := sc25) (maxL := 3) (rest := []) (av := [.ref b21, .long (Int32.toInt64 (xb_i h16 x0 3))]) (fun T hT X => by obtain ⟨cb, r1, r2, r3⟩ := xb_recv (ci := 1) hR rfl hk22 (by decide); exact xt_invV X hx hown (hts _ m_da067afc) (hts _ m_7e8d081f) (hts _ m_4e47f51a) (xt_sigOf (hts _ m_4f1bdc54)) nm_Row_add (by rw [hT]; exact r1) r2 r3 (g := F0 m 46 ls [.long (Int32.toInt64 (xb_i h16 x0 3)), .ref b21]) rfl (argsL := [.long (Int32.toInt64 (xb_i h16 x0 3))]) (rest := []) rfl rfl (by rw [hb]; exact (xb_d D_Reader_readElements 22 rfl))) (ok_Row_add l hfl D A σ b21 (Int32.toInt64 (xb_i h16 x0 3)) h16 c25 sc25 _ hw) (hml.trans hl.1.symm) (by rw [hb]; exact (xb_d D_Reader_readElements 22 rfl)) (Nat.le_of_ble_eq_true rfl) (Nat.le_of_ble_eq_true rfl) (Nat.le_of_ble_eq_true rfl) (show (((k + c8) + c14) + c18) + c25 ≤ MC by omega) (show (((n + sc8) + sc14) + sc18) + sc25 ≤ MS by omega) (xt_w1 hB.1 m_4f1bdc54) (xt_cdOf hB.1 m_4f1bdc54) (hts _ m_c1bef504) hB hR hS hA (fun vv h23 H locs hq hEh23 hR hS => ?_) (fun XX ax h23 H locs hq hEh23 hex hR hS => ?_)
        · obtain ⟨rfl, hw⟩ := hq
          have hw := hw hEh23
          have hE := hE.tr hEh23
          refine W.eq (g2 := F0 m 49 ls []) rfl ?_
          refine lv_aload_n hx hb (xb_d D_Reader_readElements 23 rfl) rfl (lv_at hl 0 rfl) ?_
          have hk1 : xb_k h23 x0 = 4 := hEh23.k hk1
          obtain ⟨c28, sc28, hlc28, hlsc28, hw⟩ := hw
          refine xb_call (D := D) (A := A) (σ := σ) (h := h23) (d := 5) (mc := c28) (ms := sc28) (maxL := 6) (rest := []) (av := [.ref x0]) (fun T hT X => by obtain ⟨cb, r1, r2, r3⟩ := xb_recv (ci := 3) hR rfl hk1 (by decide); exact xt_invV X hx hown (hts _ m_90e667a6) (hts _ m_02684d67) (hts _ m_97aecff3) (xt_sigOf (hts _ m_150d97f6)) nm_Reader_readExpression (by rw [hT]; exact r1) r2 r3 (g := F0 m 50 ls [.ref x0]) rfl (argsL := []) (rest := []) rfl rfl (by rw [hb]; exact (xb_d D_Reader_readElements 24 rfl))) (ok_Reader_readExpression l hfl D A σ x0 h23 c28 sc28 _ _ hw) (hml.trans hl.1.symm) (by rw [hb]; exact (xb_d D_Reader_readElements 24 rfl)) (Nat.le_of_ble_eq_true rfl) (Nat.le_of_ble_eq_true rfl) (Nat.le_of_ble_eq_true rfl) (show ((((k + c8) + c14) + c18) + c25) + c28 ≤ MC by omega) (show ((((n + sc8) + sc14) + sc18) + sc25) + sc28 ≤ MS by omega) (xt_w1 hB.1 m_150d97f6) (xt_cdOf hB.1 m_150d97f6) (hts _ m_938fcec4) hB hR hS hA (fun vv h26 H locs hq hEh26 hR hS => ?_) (fun XX ax h26 H locs hq hEh26 hex hR hS => ?_)
          · obtain ⟨rfl, hw⟩ := hq
            have hw := hw hEh26
            have hE := hE.tr hEh26
            refine W.eq (g2 := F0 m 53 ls []) rfl ?_
            refine lv_aload_n hx hb (xb_d D_Reader_readElements 25 rfl) rfl (lv_at hl 0 rfl) ?_
            have hk1 : xb_k h26 x0 = 4 := hEh26.k hk1
            obtain ⟨c31, sc31, hlc31, hlsc31, hw⟩ := hw
            refine xb_call (D := D) (A := A) (σ := σ) (h := h26) (d := 3) (mc := c31) (ms := sc31) (maxL := 4) (rest := []) (av := [.ref x0]) (fun T hT X => by obtain ⟨cb, r1, r2, r3⟩ := xb_recv (ci := 3) hR rfl hk1 (by decide); exact xt_invV X hx hown (hts _ m_2c379b4d) (hts _ m_a120e786) (hts _ m_e903c73e) (xt_sigOf (hts _ m_99690a98)) nm_Reader_count (by rw [hT]; exact r1) r2 r3 (g := F0 m 54 ls [.ref x0]) rfl (argsL := []) (rest := []) rfl rfl (by rw [hb]; exact (xb_d D_Reader_readElements 26 rfl))) (ok_Reader_count l hfl D A σ x0 h26 c31 sc31 _ _ hw) (hml.trans hl.1.symm) (by rw [hb]; exact (xb_d D_Reader_readElements 26 rfl)) (Nat.le_of_ble_eq_true rfl) (Nat.le_of_ble_eq_true rfl) (Nat.le_of_ble_eq_true rfl) (show (((((k + c8) + c14) + c18) + c25) + c28) + c31 ≤ MC by omega) (show (((((n + sc8) + sc14) + sc18) + sc25) + sc28) + sc31 ≤ MS by omega) (xt_w1 hB.1 m_99690a98) (xt_cdOf hB.1 m_99690a98) (hts _ m_938fcec4) hB hR hS hA (fun vv h29 H locs hq hEh29 hR hS => ?_) (fun XX ax h29 H locs hq hEh29 hex hR hS => ?_)
            · obtain ⟨r30, rfl, hw⟩ := hq
              have hw := hw hEh29
              have hE := hE.tr hEh29
              refine W.eq (g2 := F0 m 57 ls [.int r30]) rfl ?_
              refine lv_i2l hx hb (xb_d D_Reader_readElements 27 rfl) rfl ?_
              refine lv_ldc2 (v := 4294967295) hx hb hown (hts _ m_687f726b) (xb_d D_Reader_readElements 28 rfl) ?_
              refine lv_land hx hb (xb_d D_Reader_readElements 29 rfl) ?_
              obtain ⟨v32, ev32⟩ : ∃ x : Int64, x = ((Int32.toInt64 r30) &&& 4294967295) := ⟨_, rfl⟩
              have hw := hw v32 ev32
              refine xt_numl (y := v32) ev32.symm ?_
              refine lv_lstore_n hx hb (xb_d D_Reader_readElements 30 rfl) rfl hl (by decide) rfl (fun ls hl => ?_)
              have hl : lv_has ls 5 [(1, .long v32), (0, .ref x0)] := hl
              refine lv_aload_n hx hb (xb_d D_Reader_readElements 31 rfl) rfl (lv_at hl 1 rfl) ?_
              have hk1 : xb_k h29 x0 = 4 := hEh29.k hk1
              refine xb_getP (C := R_Reader) (T := F_Reader) (N := 6) hx hb 3 0 hts fin_Reader hown hR hk1 (by decide) rfl (by decide) rfl (hts _ m_76d8349c) (fun _ h9 => h9) (xb_d D_Reader_readElements 32 rfl) ?_
              obtain ⟨b33, eb33, hw⟩ := hw
              refine xb_some eb33 ?_
              obtain ⟨hk34, hw⟩ := hw
              refine xb_getP (C := R_StackModule) (T := F_StackModule) (N := 19) hx hb 2 9 hts fin_StackModule hown hR hk34 (by decide) rfl (by decide) rfl (hts _ m_b3c18b13) (fun _ h9 => h9) (xb_d D_Reader_readElements 33 rfl) ?_
              obtain ⟨b35, eb35, hw⟩ := hw
              refine xb_some eb35 ?_
              refine lv_aload_n hx hb (xb_d D_Reader_readElements 34 rfl) rfl (lv_at hl 1 rfl) ?_
              refine xb_getP (C := R_Reader) (T := F_Reader) (N := 6) hx hb 3 0 hts fin_Reader hown hR hk1 (by decide) rfl (by decide) rfl (hts _ m_76d8349c) (fun _ h9 => h9) (xb_d D_Reader_readElements 35 rfl) ?_
              obtain ⟨b36, eb36, hw⟩ := hw
              refine xb_some eb36 ?_
              obtain ⟨hk37, hw⟩ := hw
              refine xb_getP (C := R_StackModule) (T := F_StackModule) (N := 19) hx hb 2 10 hts fin_StackModule hown hR hk37 (by decide) rfl (by decide) rfl (hts _ m_058cb54e) (fun _ h9 => h9) (xb_d D_Reader_readElements 36 rfl) ?_
              obtain ⟨b38, eb38, hw⟩ := hw
              refine xb_some eb38 ?_
              obtain ⟨hk39, hw⟩ := hw
              refine xb_call (D := D) (A := A) (σ := σ) (h := h29) (d := 2) (mc := 0) (ms := 0) (maxL := 1) (rest := [.ref b35]) (av := [.ref b38]) (fun T hT X => by obtain ⟨cb, r1, r2, r3⟩ := xb_recv (ci := 1) hR rfl hk39 (by decide); exact xt_invV X hx hown (hts _ m_d5d63d05) (hts _ m_ded65609) (hts _ m_a4161156) (xt_sigOf (hts _ m_83ba3721)) nm_Row_lines (by rw [hT]; exact r1) r2 r3 (g := F0 m 77 ls [.ref b38, .ref b35]) rfl (argsL := []) (rest := [.ref b35]) rfl rfl (by rw [hb]; exact (xb_d D_Reader_readElements 37 rfl))) (ok_Row_lines l hfl D A σ b38 h29 _ hw) (hml.trans hl.1.symm) (by rw [hb]; exact (xb_d D_Reader_readElements 37 rfl)) (Nat.le_of_ble_eq_true rfl) (Nat.le_of_ble_eq_true rfl) (Nat.le_of_ble_eq_true rfl) (show ((((((k + c8) + c14) + c18) + c25) + c28) + c31) + 0 ≤ MC by omega) (show ((((((n + sc8) + sc14) + sc18) + sc25) + sc28) + sc31) + 0 ≤ MS by omega) (xt_w1 hB.1 m_83ba3721) (xt_cdOf hB.1 m_83ba3721) (hts _ m_c1bef504) hB hR hS hA (fun vv h40 H locs hq hEh40 hR hS => ?_) (fun XX ax h40 H locs hq hEh40 hex hR hS => ?_)
              · obtain ⟨r41, rfl, hw⟩ := hq
                have hw := hw hEh40
                have hE := hE.tr hEh40
                refine W.eq (g2 := F0 m 80 ls [.int r41, .ref b35]) rfl ?_
                refine lv_i2l hx hb (xb_d D_Reader_readElements 38 rfl) rfl ?_
                obtain ⟨hk42, hw⟩ := hw
                obtain ⟨c45, sc45, hlc45, hlsc45, hw⟩ := hw
                refine xb_call (D := D) (A := A) (σ := σ) (h := h40) (d := 4) (mc := c45) (ms := sc45) (maxL := 3) (rest := []) (av := [.ref b35, .long (Int32.toInt64 r41)]) (fun T hT X => by obtain ⟨cb, r1, r2, r3⟩ := xb_recv (ci := 1) hR rfl hk42 (by decide); exact xt_invV X hx hown (hts _ m_da067afc) (hts _ m_7e8d081f) (hts _ m_4e47f51a) (xt_sigOf (hts _ m_4f1bdc54)) nm_Row_add (by rw [hT]; exact r1) r2 r3 (g := F0 m 81 ls [.long (Int32.toInt64 r41), .ref b35]) rfl (argsL := [.long (Int32.toInt64 r41)]) (rest := []) rfl rfl (by rw [hb]; exact (xb_d D_Reader_readElements 39 rfl))) (ok_Row_add l hfl D A σ b35 (Int32.toInt64 r41) h40 c45 sc45 _ hw) (hml.trans hl.1.symm) (by rw [hb]; exact (xb_d D_Reader_readElements 39 rfl)) (Nat.le_of_ble_eq_true rfl) (Nat.le_of_ble_eq_true rfl) (Nat.le_of_ble_eq_true rfl) (show ((((((k + c8) + c14) + c18) + c25) + c28) + c31) + c45 ≤ MC by omega) (show ((((((n + sc8) + sc14) + sc18) + sc25) + sc28) + sc31) + sc45 ≤ MS by omega) (xt_w1 hB.1 m_4f1bdc54) (xt_cdOf hB.1 m_4f1bdc54) (hts _ m_c1bef504) hB hR hS hA (fun vv h43 H locs hq hEh43 hR hS => ?_) (fun XX ax h43 H locs hq hEh43 hex hR hS => ?_)
                · obtain ⟨rfl, hw⟩ := hq
                  have hw := hw hEh43
                  have hE := hE.tr hEh43
                  refine W.eq (g2 := F0 m 84 ls []) rfl ?_
                  refine lv_aload_n hx hb (xb_d D_Reader_readElements 40 rfl) rfl (lv_at hl 1 rfl) ?_
                  have hk1 : xb_k h40 x0 = 4 := hEh40.k hk1
                  have hk1 : xb_k h43 x0 = 4 := hEh43.k hk1
                  refine xb_getP (C := R_Reader) (T := F_Reader) (N := 6) hx hb 3 0 hts fin_Reader hown hR hk1 (by decide) rfl (by decide) rfl (hts _ m_76d8349c) (fun _ h9 => h9) (xb_d D_Reader_readElements 41 rfl) ?_
                  obtain ⟨b46, eb46, hw⟩ := hw
                  refine xb_some eb46 ?_
                  obtain ⟨hk47, hw⟩ := hw
                  refine xb_getP (C := R_StackModule) (T := F_StackModule) (N := 19) hx hb 2 9 hts fin_StackModule hown hR hk47 (by decide) rfl (by decide) rfl (hts _ m_b3c18b13) (fun _ h9 => h9) (xb_d D_Reader_readElements 42 rfl) ?_
                  obtain ⟨b48, eb48, hw⟩ := hw
                  refine xb_some eb48 ?_
                  refine lv_lload_n hx hb (xb_d D_Reader_readElements 43 rfl) rfl (lv_at hl 0 rfl) ?_
                  obtain ⟨hk49, hw⟩ := hw
                  obtain ⟨c52, sc52, hlc52, hlsc52, hw⟩ := hw
                  refine xb_call (D := D) (A := A) (σ := σ) (h := h43) (d := 4) (mc := c52) (ms := sc52) (maxL := 3) (rest := []) (av := [.ref b48, .long v32]) (fun T hT X => by obtain ⟨cb, r1, r2, r3⟩ := xb_recv (ci := 1) hR rfl hk49 (by decide); exact xt_invV X hx hown (hts _ m_da067afc) (hts _ m_7e8d081f) (hts _ m_4e47f51a) (xt_sigOf (hts _ m_4f1bdc54)) nm_Row_add (by rw [hT]; exact r1) r2 r3 (g := F0 m 92 ls [.long v32, .ref b48]) rfl (argsL := [.long v32]) (rest := []) rfl rfl (by rw [hb]; exact (xb_d D_Reader_readElements 44 rfl))) (ok_Row_add l hfl D A σ b48 v32 h43 c52 sc52 _ hw) (hml.trans hl.1.symm) (by rw [hb]; exact (xb_d D_Reader_readElements 44 rfl)) (Nat.le_of_ble_eq_true rfl) (Nat.le_of_ble_eq_true rfl) (Nat.le_of_ble_eq_true rfl) (show (((((((k + c8) + c14) + c18) + c25) + c28) + c31) + c45) + c52 ≤ MC by omega) (show (((((((n + sc8) + sc14) + sc18) + sc25) + sc28) + sc31) + sc45) + sc52 ≤ MS by omega) (xt_w1 hB.1 m_4f1bdc54) (xt_cdOf hB.1 m_4f1bdc54) (hts _ m_c1bef504) hB hR hS hA (fun vv h50 H locs hq hEh50 hR hS => ?_) (fun XX ax h50 H locs hq hEh50 hex hR hS => ?_)
                  · obtain ⟨rfl, hw⟩ := hq
                    have hw := hw hEh50
                    have hE := hE.tr hEh50
                    refine W.eq (g2 := F0 m 95 ls []) rfl ?_
                    refine lv_lconst (v := 0) hx hb (xb_d D_Reader_readElements 45 rfl) (by decide) ?_
                    refine lv_lstore_n hx hb (xb_d D_Reader_readElements 46 rfl) rfl hl (by decide) rfl (fun ls hl => ?_)
                    have hl : lv_has ls 5 [(3, .long 0), (1, .long v32), (0, .ref x0)] := hl
                    obtain ⟨n8, hw⟩ := hw
                    exact am_Reader_readElements_L97 l hfl D A σ MC MS h0 Qr Qt n8 x0 v32 0 h50 ((((((((bc - c8) - c14) - c18) - c25) - c28) - c31) - c45) - c52) ((((((((bs - sc8) - sc14) - sc18) - sc25) - sc28) - sc31) - sc45) - sc52) hw p e s m args below meth c hC H locs ls ((((((((k + c8) + c14) + c18) + c25) + c28) + c31) + c45) + c52) ((((((((n + sc8) + sc14) + sc18) + sc25) + sc28) + sc31) + sc45) + sc52) hE (lv_sub hl [2, 1, 0] rfl) hR hS (by omega) (by omega)
                  · exact False.elim hq
                · exact False.elim hq
              · exact False.elim hq
            · exact xb_pass hlocks (fun x hx9 => by rw [htab] at hx9; first | cases hx9 | (simp [tableOf] at hx9; rcases hx9 with rfl | rfl | rfl <;> decide)) (show ((((((k + c8) + c14) + c18) + c25) + c28) + c31) ≤ MC by omega) (show ((((((n + sc8) + sc14) + sc18) + sc25) + sc28) + sc31) ≤ MS by omega) (hE.tr hEh29) hR hS hex hq
          · exact xb_pass hlocks (fun x hx9 => by rw [htab] at hx9; first | cases hx9 | (simp [tableOf] at hx9; rcases hx9 with rfl | rfl | rfl <;> decide)) (show (((((k + c8) + c14) + c18) + c25) + c28) ≤ MC by omega) (show (((((n + sc8) + sc14) + sc18) + sc25) + sc28) ≤ MS by omega) (hE.tr hEh26) hR hS hex hq
        · exact False.elim hq
      · exact False.elim hq
    · exact xb_pass hlocks (fun x hx9 => by rw [htab] at hx9; first | cases hx9 | (simp [tableOf] at hx9; rcases hx9 with rfl | rfl | rfl <;> decide)) (show ((k + c8) + c14) ≤ MC by omega) (show ((n + sc8) + sc14) ≤ MS by omega) (hE.tr hEh12) hR hS hex hq
  · exact False.elim hq

