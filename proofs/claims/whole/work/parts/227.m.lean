theorem m_b25766a4 : (.fieldLink "StackHost$Reader" 181 "StackHost$StackModule" "groups" "LStackHost$Row;" : Cond) ∈ xt_tbl := xt_in (xt_t3 (List.mem_of_getElem? (i := 106) (by decide +kernel))) (by decide +kernel)
theorem m_860b3013 : (.methodLink "StackHost$Reader" 145 y_Reader_valueType : Cond) ∈ xt_tbl := xt_in (xt_t3 (List.mem_of_getElem? (i := 216) (by decide +kernel))) (by decide +kernel)
theorem m_24779024 : (.instanceMethod y_Reader_valueType : Cond) ∈ xt_tbl := xt_in (xt_t3 (List.mem_of_getElem? (i := 218) (by decide +kernel))) (by decide +kernel)
theorem m_7ecd5fa4 : (.selects "StackHost$Reader" y_Reader_valueType y_Reader_valueType : Cond) ∈ xt_tbl := xt_in (xt_v1 (q := (⟨"StackHost$Reader", "valueType", "()I"⟩, 6)) (List.mem_of_getElem? (i := 11) (by decide +kernel))) (by decide +kernel)
theorem m_0827f54b : (.code y_Reader_valueType b_Reader_valueType 2 (some .int) : Cond) ∈ xt_tbl := xt_in (xt_t3 (List.mem_of_getElem? (i := 219) (by decide +kernel))) (by decide +kernel)
theorem m_7a55d359 : (.constantLong "StackHost$Reader" 187 1000 : Cond) ∈ xt_tbl := xt_in (xt_t4 (List.mem_of_getElem? (i := 86) (by decide +kernel))) (by decide +kernel)
theorem nm_Reader_valueType : xt_nm y_Reader_valueType 0 := ⟨by decide +kernel, by decide +kernel⟩
set_option maxRecDepth 100000 in
def T_Reader_readLocals : List (Nat × Instr × Nat) := [(0, .aload_n 0, 1), (1, .invokevirtual 70, 3), (4, .i2l, 1), (5, .ldc2_w 76, 3), (8, .land, 1), (9, .lstore_n 1, 1), (10, .lconst 0, 1), (11, .lstore_n 3, 1), (12, .lconst 0, 1), (13, .lstore 5, 2), (15, .lload 5, 2), (17, .lload_n 1, 1), (18, .lcmp, 1), (19, .ifCond .ge 80, 3), (22, .aload_n 0, 1), (23, .getfield 41, 3), (26, .istore 7, 2), (28, .aload_n 0, 1), (29, .invokevirtual 70, 3), (32, .i2l, 1), (33, .ldc2_w 76, 3), (36, .land, 1), (37, .lstore 8, 2), (39, .lload_n 3, 1), (40, .lload 8, 2), (42, .ladd, 1), (43, .lstore_n 3, 1), (44, .lload_n 3, 1), (45, .ldc2_w 187, 3), (48, .lcmp, 1), (49, .ifCond .le 14, 3), (52, .aload_n 0, 1), (53, .getfield 15, 3), (56, .bipush 9, 2), (58, .iload 7, 2), (60, .invokevirtual 37, 3), (63, .aload_n 0, 1), (64, .getfield 15, 3), (67, .getfield 181, 3), (70, .lload 8, 2), (72, .invokevirtual 87, 3), (75, .aload_n 0, 1), (76, .getfield 15, 3), (79, .getfield 181, 3), (82, .aload_n 0, 1), (83, .invokevirtual 145, 3), (86, .i2l, 1), (87, .invokevirtual 87, 3), (90, .lload 5, 2), (92, .lconst 1, 1), (93, .ladd, 1), (94, .lstore 5, 2), (96, .goto (-81), 3), (99, .lload_n 3, 1), (100, .l2i, 1), (101, .ireturn, 1)]
theorem D_Reader_readLocals : ∀ q ∈ T_Reader_readLocals, decode b_Reader_readLocals q.1 = .ok (q.2.1, q.2.2) := by decide +kernel

set_option maxHeartbeats 4000000 in
set_option maxRecDepth 100000 in
theorem am_Reader_readLocals_L63 (l : Launch) (hfl : l.flags = pinnedFlags ++ [noTraceFlag]) (D : va_G) (A : Nat → Prop) (σ MC MS : Nat) (h0 : xb_H) (Qr : Int32 → xb_H → Nat → Nat → Prop) (Qt : String → xb_H → Nat → Nat → Prop) (K15 : Nat → Int64 → Int64 → Int64 → xb_H → Nat → Nat → Prop) (hK15 : ∀ (x0 : Nat) (x1 : Int64) (x3 : Int64) (x5 : Int64) (h : xb_H) (bc : Nat) (bs : Nat), K15 x0 x1 x3 x5 h bc bs → xb_am l D A σ 5 MC MS h0 (fun v h bc bs => ∃ r, v = some (.int r) ∧ Qr r h bc bs) Qt y_Reader_readLocals.cls y_Reader_readLocals.name b_Reader_readLocals 10 ([] : List ExceptionTableEntry) (some .int) 15 [(0, .ref x0), (1, .long x1), (3, .long x3), (5, .long x5)] [] h bc bs) (x0 : Nat) (x1 : Int64) (x3 : Int64) (x5 : Int64) (x8 : Int64) (h : xb_H) (bc : Nat) (bs : Nat) (hw : w_Reader_readLocals_L63 K15 Qr Qt x0 x1 x3 x5 x8 h bc bs) : xb_am l D A σ 5 MC MS h0 (fun v h bc bs => ∃ r, v = some (.int r) ∧ Qr r h bc bs) Qt y_Reader_readLocals.cls y_Reader_readLocals.name b_Reader_readLocals 10 ([] : List ExceptionTableEntry) (some .int) 63 [(0, .ref x0), (1, .long x1), (3, .long x3), (5, .long x5), (8, .long x8)] [] h bc bs := by
  unfold w_Reader_readLocals_L63 at hw
  intro p e s m args below meth c hC H locs ls k n hE hl hR hS hk hn
  obtain ⟨hx, hb, hown, hlocks, htab, hml, hr, hB, hA, hnm⟩ := id hC
  have hts := hB.1.1.at args
  refine lv_aload_n hx hb (xb_d D_Reader_readLocals 36 rfl) rfl (lv_at hl 0 rfl) ?_
  obtain ⟨hk1, hw⟩ := hw
  refine xb_getP (C := R_Reader) (T := F_Reader) (N := 6) hx hb 3 0 hts fin_Reader hown hR hk1 (by decide) rfl (by decide) rfl (hts _ m_76d8349c) (fun _ h9 => h9) (xb_d D_Reader_readLocals 37 rfl) ?_
  obtain ⟨b2, eb2, hw⟩ := hw
  refine xb_some eb2 ?_
  obtain ⟨hk3, hw⟩ := hw
  refine xb_getP (C := R_StackModule) (T := F_StackModule) (N := 19) hx hb 2 12 hts fin_StackModule hown hR hk3 (by decide) rfl (by decide) rfl (hts _ m_b25766a4) (fun _ h9 => h9) (xb_d D_Reader_readLocals 38 rfl) ?_
  obtain ⟨b4, eb4, hw⟩ := hw
  refine xb_some eb4 ?_
  refine lv_lload hx hb (xb_d D_Reader_readLocals 39 rfl) (lv_at hl 4 rfl) ?_
  obtain ⟨hk5, hw⟩ := hw
  refine xb_call (D := D) (A := A) (σ := σ) (h := h) (d := 4) (mc := bc) (ms := bs) (maxL := 3) (rest := []) (av := [.ref b4, .long x8]) (fun T hT X => by obtain ⟨cb9, ra9, rb9, rc9⟩ := xb_recv (ci := 1) hR rfl hk5 (by decide); exact xt_invV X hx hown (hts _ m_da067afc) (hts _ m_7e8d081f) (hts _ m_4e47f51a) (xt_sigOf (hts _ m_4f1bdc54)) nm_Row_add (by rw [hT]; exact ra9) rb9 rc9 (g := F0 m 72 ls [.long x8, .ref b4]) rfl (argsL := [.long x8]) (rest := []) rfl rfl (by rw [hb]; exact (xb_d D_Reader_readLocals 40 rfl))) (ok_Row_add l hfl D A σ b4 x8 h bc bs _ hw) (hml.trans hl.1.symm) (by rw [hb]; exact (xb_d D_Reader_readLocals 40 rfl)) (Nat.le_of_ble_eq_true rfl) (Nat.le_of_ble_eq_true rfl) (Nat.le_of_ble_eq_true rfl) (show k + bc ≤ MC by omega) (show n + bs ≤ MS by omega) (xt_w1 hB.1 m_4f1bdc54) (xt_cdOf hB.1 m_4f1bdc54) (hts _ m_c1bef504) hB hR hS hA (fun vv h6 bc7 bs7 kk7 nn7 H locs hk7 hn7 hq hEh6 hR hS => ?_) (fun XX ax h6 bc7 bs7 kk7 nn7 H locs hk7 hn7 hq hEh6 hex hR hS => ?_)
  · obtain ⟨rfl, hw⟩ := hq
    have hw := hw hEh6
    have hE := hE.tr hEh6
    refine W.eq (g2 := F0 m 75 ls []) rfl ?_
    refine lv_aload_n hx hb (xb_d D_Reader_readLocals 41 rfl) rfl (lv_at hl 0 rfl) ?_
    have hk1 : xb_k h6 x0 = 4 := hEh6.k hk1
    refine xb_getP (C := R_Reader) (T := F_Reader) (N := 6) hx hb 3 0 hts fin_Reader hown hR hk1 (by decide) rfl (by decide) rfl (hts _ m_76d8349c) (fun _ h9 => h9) (xb_d D_Reader_readLocals 42 rfl) ?_
    obtain ⟨b8, eb8, hw⟩ := hw
    refine xb_some eb8 ?_
    obtain ⟨hk9, hw⟩ := hw
    refine xb_getP (C := R_StackModule) (T := F_StackModule) (N := 19) hx hb 2 12 hts fin_StackModule hown hR hk9 (by decide) rfl (by decide) rfl (hts _ m_b25766a4) (fun _ h9 => h9) (xb_d D_Reader_readLocals 43 rfl) ?_
    obtain ⟨b10, eb10, hw⟩ := hw
    refine xb_some eb10 ?_
    refine lv_aload_n hx hb (xb_d D_Reader_readLocals 44 rfl) rfl (lv_at hl 0 rfl) ?_
    refine xb_call (D := D) (A := A) (σ := σ) (h := h6) (d := 4) (mc := bc7) (ms := bs7) (maxL := 2) (rest := [.ref b10]) (av := [.ref x0]) (fun T hT X => by obtain ⟨cb9, ra9, rb9, rc9⟩ := xb_recv (ci := 3) hR rfl hk1 (by decide); exact xt_invV X hx hown (hts _ m_860b3013) (hts _ m_24779024) (hts _ m_7ecd5fa4) (xt_sigOf (hts _ m_0827f54b)) nm_Reader_valueType (by rw [hT]; exact ra9) rb9 rc9 (g := F0 m 83 ls [.ref x0, .ref b10]) rfl (argsL := []) (rest := [.ref b10]) rfl rfl (by rw [hb]; exact (xb_d D_Reader_readLocals 45 rfl))) (ok_Reader_valueType l hfl D A σ x0 h6 bc7 bs7 _ _ hw) (hml.trans hl.1.symm) (by rw [hb]; exact (xb_d D_Reader_readLocals 45 rfl)) (Nat.le_of_ble_eq_true rfl) (Nat.le_of_ble_eq_true rfl) (Nat.le_of_ble_eq_true rfl) (show (k + kk7) + bc7 ≤ MC by omega) (show (n + nn7) + bs7 ≤ MS by omega) (xt_w1 hB.1 m_0827f54b) (xt_cdOf hB.1 m_0827f54b) (hts _ m_938fcec4) hB hR hS hA (fun vv h11 bc12 bs12 kk12 nn12 H locs hk12 hn12 hq hEh11 hR hS => ?_) (fun XX ax h11 bc12 bs12 kk12 nn12 H locs hk12 hn12 hq hEh11 hex hR hS => ?_)
    · obtain ⟨r12, rfl, hw⟩ := hq
      have hw := hw hEh11
      have hE := hE.tr hEh11
      refine W.eq (g2 := F0 m 86 ls [.int r12, .ref b10]) rfl ?_
      refine lv_i2l hx hb (xb_d D_Reader_readLocals 46 rfl) rfl ?_
      obtain ⟨hk13, hw⟩ := hw
      refine xb_call (D := D) (A := A) (σ := σ) (h := h11) (d := 4) (mc := bc12) (ms := bs12) (maxL := 3) (rest := []) (av := [.ref b10, .long (Int32.toInt64 r12)]) (fun T hT X => by obtain ⟨cb9, ra9, rb9, rc9⟩ := xb_recv (ci := 1) hR rfl hk13 (by decide); exact xt_invV X hx hown (hts _ m_da067afc) (hts _ m_7e8d081f) (hts _ m_4e47f51a) (xt_sigOf (hts _ m_4f1bdc54)) nm_Row_add (by rw [hT]; exact ra9) rb9 rc9 (g := F0 m 87 ls [.long (Int32.toInt64 r12), .ref b10]) rfl (argsL := [.long (Int32.toInt64 r12)]) (rest := []) rfl rfl (by rw [hb]; exact (xb_d D_Reader_readLocals 47 rfl))) (ok_Row_add l hfl D A σ b10 (Int32.toInt64 r12) h11 bc12 bs12 _ hw) (hml.trans hl.1.symm) (by rw [hb]; exact (xb_d D_Reader_readLocals 47 rfl)) (Nat.le_of_ble_eq_true rfl) (Nat.le_of_ble_eq_true rfl) (Nat.le_of_ble_eq_true rfl) (show ((k + kk7) + kk12) + bc12 ≤ MC by omega) (show ((n + nn7) + nn12) + bs12 ≤ MS by omega) (xt_w1 hB.1 m_4f1bdc54) (xt_cdOf hB.1 m_4f1bdc54) (hts _ m_c1bef504) hB hR hS hA (fun vv h14 bc15 bs15 kk15 nn15 H locs hk15 hn15 hq hEh14 hR hS => ?_) (fun XX ax h14 bc15 bs15 kk15 nn15 H locs hk15 hn15 hq hEh14 hex hR hS => ?_)
      · obtain ⟨rfl, hw⟩ := hq
        have hw := hw hEh14
        have hE := hE.tr hEh14
        refine W.eq (g2 := F0 m 90 ls []) rfl ?_
        refine lv_lload hx hb (xb_d D_Reader_readLocals 48 rfl) (lv_at hl 3 rfl) ?_
        refine lv_lconst (v := 1) hx hb (xb_d D_Reader_readLocals 49 rfl) (by decide) ?_
        refine lv_ladd hx hb (xb_d D_Reader_readLocals 50 rfl) ?_
        obtain ⟨v16, ev16⟩ : ∃ x : Int64, x = (x5 + 1) := ⟨_, rfl⟩
        have hw := hw v16 ev16
        refine xt_numl (y := v16) ev16.symm ?_
        refine lv_lstore hx hb (xb_d D_Reader_readLocals 51 rfl) hl (by decide) rfl (fun ls hl => ?_)
        have hl : lv_has ls 10 [(5, .long v16), (0, .ref x0), (1, .long x1), (3, .long x3), (8, .long x8)] := hl
        refine lv_goto (tgt := 15) hx hb (xb_d D_Reader_readLocals 52 rfl) rfl ?_
        exact hK15 x0 x1 x3 v16 h14 bc15 bs15 hw p e s m args below meth c hC H locs ls (((k + kk7) + kk12) + kk15) (((n + nn7) + nn12) + nn15) hE (lv_sub hl [1, 2, 3, 0] rfl) hR hS (by omega) (by omega)
      · exact False.elim hq
    · exact xb_pass hlocks (fun x hx9 => by rw [htab] at hx9; first | (cases hx9; done) | (simp [tableOf] at hx9; subst hx9; decide) | (simp [tableOf] at hx9; rcases hx9 with rfl | rfl <;> decide) | (simp [tableOf] at hx9; rcases hx9 with rfl | rfl | rfl <;> decide)) (show ((k + kk7) + kk12) + bc12 ≤ MC by omega) (show ((n + nn7) + nn12) + bs12 ≤ MS by omega) (hE.tr hEh11) hR hS hex hq
  · exact False.elim hq

set_option maxHeartbeats 4000000 in
set_option maxRecDepth 100000 in
theorem am_Reader_readLocals_L15 (l : Launch) (hfl : l.flags = pinnedFlags ++ [noTraceFlag]) (D : va_G) (A : Nat → Prop) (σ MC MS : Nat) (h0 : xb_H) (Qr : Int32 → xb_H → Nat → Nat → Prop) (Qt : String → xb_H → Nat → Nat → Prop) (n9 : Nat) : ∀ (x0 : Nat) (x1 : Int64) (x3 : Int64) (x5 : Int64) (h : xb_H) (bc : Nat) (bs : Nat), w_Reader_readLocals_L15 Qr Qt n9 x0 x1 x3 x5 h bc bs → xb_am l D A σ 5 MC MS h0 (fun v h bc bs => ∃ r, v = some (.int r) ∧ Qr r h bc bs) Qt y_Reader_readLocals.cls y_Reader_readLocals.name b_Reader_readLocals 10 ([] : List ExceptionTableEntry) (some .int) 15 [(0, .ref x0), (1, .long x1), (3, .long x3), (5, .long x5)] [] h bc bs := by
  induction n9 with
  | zero => intro x0 x1 x3 x5 h bc bs hw; exact False.elim hw
  | succ n9 ih =>
    intro x0 x1 x3 x5 h bc bs hw
    unfold w_Reader_readLocals_L15 at hw
    intro p e s m args below meth c hC H locs ls k n hE hl hR hS hk hn
    obtain ⟨hx, hb, hown, hlocks, htab, hml, hr, hB, hA, hnm⟩ := id hC
    have hts := hB.1.1.at args
    refine lv_lload hx hb (xb_d D_Reader_readLocals 10 rfl) (lv_at hl 3 rfl) ?_
    refine lv_lload_n hx hb (xb_d D_Reader_readLocals 11 rfl) rfl (lv_at hl 1 rfl) ?_
    refine xb_lc_ge (tgt := 99) hx hb (xb_d D_Reader_readLocals 12 rfl) (xb_d D_Reader_readLocals 13 rfl) rfl (fun hc1 => ?_) (fun hc1 => ?_)
    · have hw := hw.1 hc1
      refine lv_lload_n hx hb (xb_d D_Reader_readLocals 53 rfl) rfl (lv_at hl 2 rfl) ?_
      refine lv_l2i hx hb (xb_d D_Reader_readLocals 54 rfl) rfl ?_
      exact xb_iret bc bs hx hb hr hlocks (show k + bc ≤ MC by omega) (show n + bs ≤ MS by omega) hE hR hS (xb_d D_Reader_readLocals 55 rfl) hw
    · have hw := hw.2 hc1
      refine lv_aload_n hx hb (xb_d D_Reader_readLocals 14 rfl) rfl (lv_at hl 0 rfl) ?_
      obtain ⟨hk2, hw⟩ := hw
      refine xb_getI (C := R_Reader) (T := F_Reader) (N := 6) hx hb 3 3 hts fin_Reader hown hR hk2 (by decide) rfl (by decide) rfl (hts _ m_a9b84ac2) (fun _ h9 => h9) (xb_d D_Reader_readLocals 15 rfl) ?_
      obtain ⟨v3, ev3⟩ : ∃ x : Int32, x = (xb_i h x0 3) := ⟨_, rfl⟩
      have hw := hw v3 ev3
      refine xt_numi (y := v3) ev3.symm ?_
      refine lv_istore hx hb (xb_d D_Reader_readLocals 16 rfl) hl (by decide) rfl (fun ls hl => ?_)
      have hl : lv_has ls 10 [(7, .int v3), (0, .ref x0), (1, .long x1), (3, .long x3), (5, .long x5)] := hl
      refine lv_aload_n hx hb (xb_d D_Reader_readLocals 17 rfl) rfl (lv_at hl 1 rfl) ?_
      refine xb_call (D := D) (A := A) (σ := σ) (h := h) (d := 3) (mc := bc) (ms := bs) (maxL := 4) (rest := []) (av := [.ref x0]) (fun T hT X => by obtain ⟨cb9, ra9, rb9, rc9⟩ := xb_recv (ci := 3) hR rfl hk2 (by decide); exact xt_invV X hx hown (hts _ m_2c379b4d) (hts _ m_a120e786) (hts _ m_e903c73e) (xt_sigOf (hts _ m_99690a98)) nm_Reader_count (by rw [hT]; exact ra9) rb9 rc9 (g := F0 m 29 ls [.ref x0]) rfl (argsL := []) (rest := []) rfl rfl (by rw [hb]; exact (xb_d D_Reader_readLocals 18 rfl))) (ok_Reader_count l hfl D A σ x0 h bc bs _ _ hw) (hml.trans hl.1.symm) (by rw [hb]; exact (xb_d D_Reader_readLocals 18 rfl)) (Nat.le_of_ble_eq_true rfl) (Nat.le_of_ble_eq_true rfl) (Nat.le_of_ble_eq_true rfl) (show k + bc ≤ MC by omega) (show n + bs ≤ MS by omega) (xt_w1 hB.1 m_99690a98) (xt_cdOf hB.1 m_99690a98) (hts _ m_938fcec4) hB hR hS hA (fun vv h4 bc5 bs5 kk5 nn5 H locs hk5 hn5 hq hEh4 hR hS => ?_) (fun XX ax h4 bc5 bs5 kk5 nn5 H locs hk5 hn5 hq hEh4 hex hR hS => ?_)
      · obtain ⟨r5, rfl, hw⟩ := hq
        have hw := hw hEh4
        have hE := hE.tr hEh4
        refine W.eq (g2 := F0 m 32 ls [.int r5]) rfl ?_
        refine lv_i2l hx hb (xb_d D_Reader_readLocals 19 rfl) rfl ?_
        refine lv_ldc2 (v := 4294967295) hx hb hown (hts _ m_687f726b) (xb_d D_Reader_readLocals 20 rfl) ?_
        refine lv_land hx hb (xb_d D_Reader_readLocals 21 rfl) ?_
        obtain ⟨v6, ev6⟩ : ∃ x : Int64, x = ((Int32.toInt64 r5) &&& 4294967295) := ⟨_, rfl⟩
        have hw := hw v6 ev6
        refine xt_numl (y := v6) ev6.symm ?_
        refine lv_lstore hx hb (xb_d D_Reader_readLocals 22 rfl) hl (by decide) rfl (fun ls hl => ?_)
        have hl : lv_has ls 10 [(8, .long v6), (7, .int v3), (0, .ref x0), (1, .long x1), (3, .long x3), (5, .long x5)] := hl
        refine lv_lload_n hx hb (xb_d D_Reader_readLocals 23 rfl) rfl (lv_at hl 4 rfl) ?_
        refine lv_lload hx hb (xb_d D_Reader_readLocals 24 rfl) (lv_at hl 0 rfl) ?_
        refine lv_ladd hx hb (xb_d D_Reader_readLocals 25 rfl) ?_
        obtain ⟨v7, ev7⟩ : ∃ x : Int64, x = (x3 + v6) := ⟨_, rfl⟩
        have hw := hw v7 ev7
        refine xt_numl (y := v7) ev7.symm ?_
        refine lv_lstore_n hx hb (xb_d D_Reader_readLocals 26 rfl) rfl hl (by decide) rfl (fun ls hl => ?_)
        have hl : lv_has ls 10 [(3, .long v7), (8, .long v6), (7, .int v3), (0, .ref x0), (1, .long x1), (5, .long x5)] := hl
        refine lv_lload_n hx hb (xb_d D_Reader_readLocals 27 rfl) rfl (lv_at hl 0 rfl) ?_
        refine lv_ldc2 (v := 1000) hx hb hown (hts _ m_7a55d359) (xb_d D_Reader_readLocals 28 rfl) ?_
        refine xb_lc_le (tgt := 63) hx hb (xb_d D_Reader_readLocals 29 rfl) (xb_d D_Reader_readLocals 30 rfl) rfl (fun hc8 => ?_) (fun hc8 => ?_)
        · have hw := hw.1 hc8
          exact am_Reader_readLocals_L63 l hfl D A σ MC MS h0 Qr Qt (w_Reader_readLocals_L15 Qr Qt n9) ih x0 x1 v7 x5 v6 h4 bc5 bs5 hw p e s m args below meth c hC H locs ls (k + kk5) (n + nn5) hE (lv_sub hl [3, 4, 0, 5, 1] rfl) hR hS (by omega) (by omega)
        · have hw := hw.2 hc8
          refine lv_aload_n hx hb (xb_d D_Reader_readLocals 31 rfl) rfl (lv_at hl 3 rfl) ?_
          have hk2 : xb_k h4 x0 = 4 := hEh4.k hk2
          refine xb_getP (C := R_Reader) (T := F_Reader) (N := 6) hx hb 3 0 hts fin_Reader hown hR hk2 (by decide) rfl (by decide) rfl (hts _ m_76d8349c) (fun _ h9 => h9) (xb_d D_Reader_readLocals 32 rfl) ?_
          obtain ⟨b9, eb9, hw⟩ := hw
          refine xb_some eb9 ?_
          refine lv_bipush (v := 9) hx hb (xb_d D_Reader_readLocals 33 rfl) (by decide) ?_
          refine lv_iload hx hb (xb_d D_Reader_readLocals 34 rfl) (lv_at hl 2 rfl) ?_
          obtain ⟨hk10, hw⟩ := hw
          refine xb_call (D := D) (A := A) (σ := σ) (h := h4) (d := 2) (mc := bc5) (ms := bs5) (maxL := 3) (rest := []) (av := [.ref b9, .int 9, .int v3]) (fun T hT X => by obtain ⟨cb9, ra9, rb9, rc9⟩ := xb_recv (ci := 2) hR rfl hk10 (by decide); exact xt_invV X hx hown (hts _ m_6fcde429) (hts _ m_865d5b07) (hts _ m_113f8f75) (xt_sigOf (hts _ m_73e65e5f)) nm_StackModule_fail (by rw [hT]; exact ra9) rb9 rc9 (g := F0 m 60 ls [.int v3, .int 9, .ref b9]) rfl (argsL := [.int 9, .int v3]) (rest := []) rfl rfl (by rw [hb]; exact (xb_d D_Reader_readLocals 35 rfl))) (ok_StackModule_fail l hfl D A σ b9 9 v3 h4 bc5 bs5 _ _ hw) (hml.trans hl.1.symm) (by rw [hb]; exact (xb_d D_Reader_readLocals 35 rfl)) (Nat.le_of_ble_eq_true rfl) (Nat.le_of_ble_eq_true rfl) (Nat.le_of_ble_eq_true rfl) (show (k + kk5) + bc5 ≤ MC by omega) (show (n + nn5) + bs5 ≤ MS by omega) (xt_w1 hB.1 m_73e65e5f) (xt_cdOf hB.1 m_73e65e5f) (hts _ m_9c375545) hB hR hS hA (fun vv h11 bc12 bs12 kk12 nn12 H locs hk12 hn12 hq hEh11 hR hS => ?_) (fun XX ax h11 bc12 bs12 kk12 nn12 H locs hk12 hn12 hq hEh11 hex hR hS => ?_)
          · obtain ⟨rfl, hw⟩ := hq
            have hw := hw hEh11
            have hE := hE.tr hEh11
            refine W.eq (g2 := F0 m 63 ls []) rfl ?_
            exact am_Reader_readLocals_L63 l hfl D A σ MC MS h0 Qr Qt (w_Reader_readLocals_L15 Qr Qt n9) ih x0 x1 v7 x5 v6 h11 bc12 bs12 hw p e s m args below meth c hC H locs ls ((k + kk5) + kk12) ((n + nn5) + nn12) hE (lv_sub hl [3, 4, 0, 5, 1] rfl) hR hS (by omega) (by omega)
          · exact xb_pass hlocks (fun x hx9 => by rw [htab] at hx9; first | (cases hx9; done) | (simp [tableOf] at hx9; subst hx9; decide) | (simp [tableOf] at hx9; rcases hx9 with rfl | rfl <;> decide) | (simp [tableOf] at hx9; rcases hx9 with rfl | rfl | rfl <;> decide)) (show ((k + kk5) + kk12) + bc12 ≤ MC by omega) (show ((n + nn5) + nn12) + bs12 ≤ MS by omega) (hE.tr hEh11) hR hS hex hq
      · exact xb_pass hlocks (fun x hx9 => by rw [htab] at hx9; first | (cases hx9; done) | (simp [tableOf] at hx9; subst hx9; decide) | (simp [tableOf] at hx9; rcases hx9 with rfl | rfl <;> decide) | (simp [tableOf] at hx9; rcases hx9 with rfl | rfl | rfl <;> decide)) (show (k + kk5) + bc5 ≤ MC by omega) (show (n + nn5) + bs5 ≤ MS by omega) (hE.tr hEh4) hR hS hex hq

set_option maxHeartbeats 4000000 in
set_option maxRecDepth 100000 in
theorem ok_Reader_readLocals (l : Launch) (hfl : l.flags = pinnedFlags ++ [noTraceFlag]) (D : va_G) (A : Nat → Prop) (σ : Nat) (x0 : Nat) (h : xb_H) (bc : Nat) (bs : Nat) (Qr : Int32 → xb_H → Nat → Nat → Prop) (Qt : String → xb_H → Nat → Nat → Prop) (hw : w_Reader_readLocals x0 h bc bs Qr Qt) : xb_Met l y_Reader_readLocals [.code y_Reader_readLocals b_Reader_readLocals 10 (some .int)] (xb_rm 5 bc bs) (xb_Pc D A σ h [.ref x0]) (xb_Qc D A h bc bs (fun v h bc bs => ∃ r, v = some (.int r) ∧ Qr r h bc bs) Qt) A := by
  refine xb_ofAm (cc := b_Reader_readLocals) (by decide) (Nat.le_of_ble_eq_true rfl) ?_
  unfold w_Reader_readLocals at hw
  show xb_am l D A σ 5 bc bs h (fun v h bc bs => ∃ r, v = some (.int r) ∧ Qr r h bc bs) Qt y_Reader_readLocals.cls y_Reader_readLocals.name b_Reader_readLocals 10 ([] : List ExceptionTableEntry) (some .int) 0 [(0, .ref x0)] [] h bc bs
  obtain ⟨MC, hMC⟩ : ∃ x, x = bc := ⟨_, rfl⟩
  obtain ⟨MS, hMS⟩ : ∃ x, x = bs := ⟨_, rfl⟩
  rw [show xb_am l D A σ 5 bc bs = xb_am l D A σ 5 MC MS by rw [hMC, hMS]]
  obtain ⟨h0, hh0⟩ : ∃ x, x = h := ⟨_, rfl⟩
  rw [show xb_am l D A σ 5 MC MS h = xb_am l D A σ 5 MC MS h0 by rw [hh0]]
  intro p e s m args below meth c hC H locs ls k n hE hl hR hS hk hn
  obtain ⟨hx, hb, hown, hlocks, htab, hml, hr, hB, hA, hnm⟩ := id hC
  have hts := hB.1.1.at args
  refine lv_aload_n hx hb (xb_d D_Reader_readLocals 0 rfl) rfl (lv_at hl 0 rfl) ?_
  obtain ⟨hk1, hw⟩ := hw
  refine xb_call (D := D) (A := A) (σ := σ) (h := h) (d := 3) (mc := bc) (ms := bs) (maxL := 4) (rest := []) (av := [.ref x0]) (fun T hT X => by obtain ⟨cb9, ra9, rb9, rc9⟩ := xb_recv (ci := 3) hR rfl hk1 (by decide); exact xt_invV X hx hown (hts _ m_2c379b4d) (hts _ m_a120e786) (hts _ m_e903c73e) (xt_sigOf (hts _ m_99690a98)) nm_Reader_count (by rw [hT]; exact ra9) rb9 rc9 (g := F0 m 1 ls [.ref x0]) rfl (argsL := []) (rest := []) rfl rfl (by rw [hb]; exact (xb_d D_Reader_readLocals 1 rfl))) (ok_Reader_count l hfl D A σ x0 h bc bs _ _ hw) (hml.trans hl.1.symm) (by rw [hb]; exact (xb_d D_Reader_readLocals 1 rfl)) (Nat.le_of_ble_eq_true rfl) (Nat.le_of_ble_eq_true rfl) (Nat.le_of_ble_eq_true rfl) (show k + bc ≤ MC by omega) (show n + bs ≤ MS by omega) (xt_w1 hB.1 m_99690a98) (xt_cdOf hB.1 m_99690a98) (hts _ m_938fcec4) hB hR hS hA (fun vv h2 bc3 bs3 kk3 nn3 H locs hk3 hn3 hq hEh2 hR hS => ?_) (fun XX ax h2 bc3 bs3 kk3 nn3 H locs hk3 hn3 hq hEh2 hex hR hS => ?_)
  · obtain ⟨r3, rfl, hw⟩ := hq
    have hw := hw hEh2
    have hE := hE.tr hEh2
    refine W.eq (g2 := F0 m 4 ls [.int r3]) rfl ?_
    refine lv_i2l hx hb (xb_d D_Reader_readLocals 2 rfl) rfl ?_
    refine lv_ldc2 (v := 4294967295) hx hb hown (hts _ m_687f726b) (xb_d D_Reader_readLocals 3 rfl) ?_
    refine lv_land hx hb (xb_d D_Reader_readLocals 4 rfl) ?_
    obtain ⟨v4, ev4⟩ : ∃ x : Int64, x = ((Int32.toInt64 r3) &&& 4294967295) := ⟨_, rfl⟩
    have hw := hw v4 ev4
    refine xt_numl (y := v4) ev4.symm ?_
    refine lv_lstore_n hx hb (xb_d D_Reader_readLocals 5 rfl) rfl hl (by decide) rfl (fun ls hl => ?_)
    have hl : lv_has ls 10 [(1, .long v4), (0, .ref x0)] := hl
    refine lv_lconst (v := 0) hx hb (xb_d D_Reader_readLocals 6 rfl) (by decide) ?_
    refine lv_lstore_n hx hb (xb_d D_Reader_readLocals 7 rfl) rfl hl (by decide) rfl (fun ls hl => ?_)
    have hl : lv_has ls 10 [(3, .long 0), (1, .long v4), (0, .ref x0)] := hl
    refine lv_lconst (v := 0) hx hb (xb_d D_Reader_readLocals 8 rfl) (by decide) ?_
    refine lv_lstore hx hb (xb_d D_Reader_readLocals 9 rfl) hl (by decide) rfl (fun ls hl => ?_)
    have hl : lv_has ls 10 [(5, .long 0), (3, .long 0), (1, .long v4), (0, .ref x0)] := hl
    obtain ⟨n8, hw⟩ := hw
    exact am_Reader_readLocals_L15 l hfl D A σ MC MS h0 Qr Qt n8 x0 v4 0 0 h2 bc3 bs3 hw p e s m args below meth c hC H locs ls (k + kk3) (n + nn3) hE (lv_sub hl [3, 2, 1, 0] rfl) hR hS (by omega) (by omega)
  · exact xb_pass hlocks (fun x hx9 => by rw [htab] at hx9; first | (cases hx9; done) | (simp [tableOf] at hx9; subst hx9; decide) | (simp [tableOf] at hx9; rcases hx9 with rfl | rfl <;> decide) | (simp [tableOf] at hx9; rcases hx9 with rfl | rfl | rfl <;> decide)) (show (k + kk3) + bc3 ≤ MC by omega) (show (n + nn3) + bs3 ≤ MS by omega) (hE.tr hEh2) hR hS hex hq

set_option maxRecDepth 100000 in
def T_Reader_readTypes : List (Nat × Instr × Nat) := [(0, .aload_n 0, 1), (1, .invokevirtual 70, 3), (4, .i2l, 1), (5, .ldc2_w 76, 3), (8, .land, 1), (9, .lstore_n 1, 1), (10, .aload_n 0, 1), (11, .getfield 41, 3), (14, .istore_n 3, 1), (15, .lconst 0, 1), (16, .lstore 4, 2), (18, .lload 4, 2), (20, .lload_n 1, 1), (21, .lcmp, 1), (22, .ifCond .ge 17, 3), (25, .aload_n 0, 1), (26, .invokevirtual 145, 3), (29, .pop, 1), (30, .lload 4, 2), (32, .lconst 1, 1), (33, .ladd, 1), (34, .lstore 4, 2), (36, .goto (-18), 3), (39, .aload_n 0, 1), (40, .getfield 41, 3), (43, .iload_n 3, 1), (44, .isub, 1), (45, .ireturn, 1)]
theorem D_Reader_readTypes : ∀ q ∈ T_Reader_readTypes, decode b_Reader_readTypes q.1 = .ok (q.2.1, q.2.2) := by decide +kernel

set_option maxHeartbeats 4000000 in
set_option maxRecDepth 100000 in
theorem am_Reader_readTypes_L18 (l : Launch) (hfl : l.flags = pinnedFlags ++ [noTraceFlag]) (D : va_G) (A : Nat → Prop) (σ MC MS : Nat) (h0 : xb_H) (Qr : Int32 → xb_H → Nat → Nat → Prop) (Qt : String → xb_H → Nat → Nat → Prop) (n9 : Nat) : ∀ (x0 : Nat) (x1 : Int64) (x3 : Int32) (x4 : Int64) (h : xb_H) (bc : Nat) (bs : Nat), w_Reader_readTypes_L18 Qr Qt n9 x0 x1 x3 x4 h bc bs → xb_am l D A σ 5 MC MS h0 (fun v h bc bs => ∃ r, v = some (.int r) ∧ Qr r h bc bs) Qt y_Reader_readTypes.cls y_Reader_readTypes.name b_Reader_readTypes 6 ([] : List ExceptionTableEntry) (some .int) 18 [(0, .ref x0), (1, .long x1), (3, .int x3), (4, .long x4)] [] h bc bs := by
  induction n9 with
  | zero => intro x0 x1 x3 x4 h bc bs hw; exact False.elim hw
  | succ n9 ih =>
    intro x0 x1 x3 x4 h bc bs hw
    unfold w_Reader_readTypes_L18 at hw
    intro p e s m args below meth c hC H locs ls k n hE hl hR hS hk hn
    obtain ⟨hx, hb, hown, hlocks, htab, hml, hr, hB, hA, hnm⟩ := id hC
    have hts := hB.1.1.at args
    refine lv_lload hx hb (xb_d D_Reader_readTypes 11 rfl) (lv_at hl 3 rfl) ?_
    refine lv_lload_n hx hb (xb_d D_Reader_readTypes 12 rfl) rfl (lv_at hl 1 rfl) ?_
    refine xb_lc_ge (tgt := 39) hx hb (xb_d D_Reader_readTypes 13 rfl) (xb_d D_Reader_readTypes 14 rfl) rfl (fun hc1 => ?_) (fun hc1 => ?_)
    · have hw := hw.1 hc1
      refine lv_aload_n hx hb (xb_d D_Reader_readTypes 23 rfl) rfl (lv_at hl 0 rfl) ?_
      obtain ⟨hk2, hw⟩ := hw
      refine xb_getI (C := R_Reader) (T := F_Reader) (N := 6) hx hb 3 3 hts fin_Reader hown hR hk2 (by decide) rfl (by decide) rfl (hts _ m_a9b84ac2) (fun _ h9 => h9) (xb_d D_Reader_readTypes 24 rfl) ?_
      refine lv_iload_n hx hb (xb_d D_Reader_readTypes 25 rfl) rfl (lv_at hl 2 rfl) ?_
      refine lv_isub hx hb (xb_d D_Reader_readTypes 26 rfl) ?_
      exact xb_iret bc bs hx hb hr hlocks (show k + bc ≤ MC by omega) (show n + bs ≤ MS by omega) hE hR hS (xb_d D_Reader_readTypes 27 rfl) hw
    · have hw := hw.2 hc1
      refine lv_aload_n hx hb (xb_d D_Reader_readTypes 15 rfl) rfl (lv_at hl 0 rfl) ?_
      obtain ⟨hk3, hw⟩ := hw
      refine xb_call (D := D) (A := A) (σ := σ) (h := h) (d := 4) (mc := bc) (ms := bs) (maxL := 2) (rest := []) (av := [.ref x0]) (fun T hT X => by obtain ⟨cb9, ra9, rb9, rc9⟩ := xb_recv (ci := 3) hR rfl hk3 (by decide); exact xt_invV X hx hown (hts _ m_860b3013) (hts _ m_24779024) (hts _ m_7ecd5fa4) (xt_sigOf (hts _ m_0827f54b)) nm_Reader_valueType (by rw [hT]; exact ra9) rb9 rc9 (g := F0 m 26 ls [.ref x0]) rfl (argsL := []) (rest := []) rfl rfl (by rw [hb]; exact (xb_d D_Reader_readTypes 16 rfl))) (ok_Reader_valueType l hfl D A σ x0 h bc bs _ _ hw) (hml.trans hl.1.symm) (by rw [hb]; exact (xb_d D_Reader_readTypes 16 rfl)) (Nat.le_of_ble_eq_true rfl) (Nat.le_of_ble_eq_true rfl) (Nat.le_of_ble_eq_true rfl) (show k + bc ≤ MC by omega) (show n + bs ≤ MS by omega) (xt_w1 hB.1 m_0827f54b) (xt_cdOf hB.1 m_0827f54b) (hts _ m_938fcec4) hB hR hS hA (fun vv h4 bc5 bs5 kk5 nn5 H locs hk5 hn5 hq hEh4 hR hS => ?_) (fun XX ax h4 bc5 bs5 kk5 nn5 H locs hk5 hn5 hq hEh4 hex hR hS => ?_)
      · obtain ⟨r5, rfl, hw⟩ := hq
        have hw := hw hEh4
        have hE := hE.tr hEh4
        refine W.eq (g2 := F0 m 29 ls [.int r5]) rfl ?_
        refine lv_pop hx hb (xb_d D_Reader_readTypes 17 rfl) rfl ?_
        refine lv_lload hx hb (xb_d D_Reader_readTypes 18 rfl) (lv_at hl 3 rfl) ?_
        refine lv_lconst (v := 1) hx hb (xb_d D_Reader_readTypes 19 rfl) (by decide) ?_
        refine lv_ladd hx hb (xb_d D_Reader_readTypes 20 rfl) ?_
        obtain ⟨v6, ev6⟩ : ∃ x : Int64, x = (x4 + 1) := ⟨_, rfl⟩
        have hw := hw v6 ev6
        refine xt_numl (y := v6) ev6.symm ?_
        refine lv_lstore hx hb (xb_d D_Reader_readTypes 21 rfl) hl (by decide) rfl (fun ls hl => ?_)
        have hl : lv_has ls 6 [(4, .long v6), (0, .ref x0), (1, .long x1), (3, .int x3)] := hl
        refine lv_goto (tgt := 18) hx hb (xb_d D_Reader_readTypes 22 rfl) rfl ?_
        exact ih x0 x1 x3 v6 h4 bc5 bs5 hw p e s m args below meth c hC H locs ls (k + kk5) (n + nn5) hE (lv_sub hl [1, 2, 3, 0] rfl) hR hS (by omega) (by omega)
      · exact xb_pass hlocks (fun x hx9 => by rw [htab] at hx9; first | (cases hx9; done) | (simp [tableOf] at hx9; subst hx9; decide) | (simp [tableOf] at hx9; rcases hx9 with rfl | rfl <;> decide) | (simp [tableOf] at hx9; rcases hx9 with rfl | rfl | rfl <;> decide)) (show (k + kk5) + bc5 ≤ MC by omega) (show (n + nn5) + bs5 ≤ MS by omega) (hE.tr hEh4) hR hS hex hq

set_option maxHeartbeats 4000000 in
set_option maxRecDepth 100000 in
theorem ok_Reader_readTypes (l : Launch) (hfl : l.flags = pinnedFlags ++ [noTraceFlag]) (D : va_G) (A : Nat → Prop) (σ : Nat) (x0 : Nat) (h : xb_H) (bc : Nat) (bs : Nat) (Qr : Int32 → xb_H → Nat → Nat → Prop) (Qt : String → xb_H → Nat → Nat → Prop) (hw : w_Reader_readTypes x0 h bc bs Qr Qt) : xb_Met l y_Reader_readTypes [.code y_Reader_readTypes b_Reader_readTypes 6 (some .int)] (xb_rm 5 bc bs) (xb_Pc D A σ h [.ref x0]) (xb_Qc D A h bc bs (fun v h bc bs => ∃ r, v = some (.int r) ∧ Qr r h bc bs) Qt) A := by
  refine xb_ofAm (cc := b_Reader_readTypes) (by decide) (Nat.le_of_ble_eq_true rfl) ?_
  unfold w_Reader_readTypes at hw
  show xb_am l D A σ 5 bc bs h (fun v h bc bs => ∃ r, v = some (.int r) ∧ Qr r h bc bs) Qt y_Reader_readTypes.cls y_Reader_readTypes.name b_Reader_readTypes 6 ([] : List ExceptionTableEntry) (some .int) 0 [(0, .ref x0)] [] h bc bs
  obtain ⟨MC, hMC⟩ : ∃ x, x = bc := ⟨_, rfl⟩
  obtain ⟨MS, hMS⟩ : ∃ x, x = bs := ⟨_, rfl⟩
  rw [show xb_am l D A σ 5 bc bs = xb_am l D A σ 5 MC MS by rw [hMC, hMS]]
  obtain ⟨h0, hh0⟩ : ∃ x, x = h := ⟨_, rfl⟩
  rw [show xb_am l D A σ 5 MC MS h = xb_am l D A σ 5 MC MS h0 by rw [hh0]]
  intro p e s m args below meth c hC H locs ls k n hE hl hR hS hk hn
  obtain ⟨hx, hb, hown, hlocks, htab, hml, hr, hB, hA, hnm⟩ := id hC
  have hts := hB.1.1.at args
  refine lv_aload_n hx hb (xb_d D_Reader_readTypes 0 rfl) rfl (lv_at hl 0 rfl) ?_
  obtain ⟨hk1, hw⟩ := hw
  refine xb_call (D := D) (A := A) (σ := σ) (h := h) (d := 3) (mc := bc) (ms := bs) (maxL := 4) (rest := []) (av := [.ref x0]) (fun T hT X => by obtain ⟨cb9, ra9, rb9, rc9⟩ := xb_recv (ci := 3) hR rfl hk1 (by decide); exact xt_invV X hx hown (hts _ m_2c379b4d) (hts _ m_a120e786) (hts _ m_e903c73e) (xt_sigOf (hts _ m_99690a98)) nm_Reader_count (by rw [hT]; exact ra9) rb9 rc9 (g := F0 m 1 ls [.ref x0]) rfl (argsL := []) (rest := []) rfl rfl (by rw [hb]; exact (xb_d D_Reader_readTypes 1 rfl))) (ok_Reader_count l hfl D A σ x0 h bc bs _ _ hw) (hml.trans hl.1.symm) (by rw [hb]; exact (xb_d D_Reader_readTypes 1 rfl)) (Nat.le_of_ble_eq_true rfl) (Nat.le_of_ble_eq_true rfl) (Nat.le_of_ble_eq_true rfl) (show k + bc ≤ MC by omega) (show n + bs ≤ MS by omega) (xt_w1 hB.1 m_99690a98) (xt_cdOf hB.1 m_99690a98) (hts _ m_938fcec4) hB hR hS hA (fun vv h2 bc3 bs3 kk3 nn3 H locs hk3 hn3 hq hEh2 hR hS => ?_) (fun XX ax h2 bc3 bs3 kk3 nn3 H locs hk3 hn3 hq hEh2 hex hR hS => ?_)
  · obtain ⟨r3, rfl, hw⟩ := hq
    have hw := hw hEh2
    have hE := hE.tr hEh2
    refine W.eq (g2 := F0 m 4 ls [.int r3]) rfl ?_
    refine lv_i2l hx hb (xb_d D_Reader_readTypes 2 rfl) rfl ?_
    refine lv_ldc2 (v := 4294967295) hx hb hown (hts _ m_687f726b) (xb_d D_Reader_readTypes 3 rfl) ?_
    refine lv_land hx hb (xb_d D_Reader_readTypes 4 rfl) ?_
    obtain ⟨v4, ev4⟩ : ∃ x : Int64, x = ((Int32.toInt64 r3) &&& 4294967295) := ⟨_, rfl⟩
    have hw := hw v4 ev4
    refine xt_numl (y := v4) ev4.symm ?_
    refine lv_lstore_n hx hb (xb_d D_Reader_readTypes 5 rfl) rfl hl (by decide) rfl (fun ls hl => ?_)
    have hl : lv_has ls 6 [(1, .long v4), (0, .ref x0)] := hl
    refine lv_aload_n hx hb (xb_d D_Reader_readTypes 6 rfl) rfl (lv_at hl 1 rfl) ?_
    have hk1 : xb_k h2 x0 = 4 := hEh2.k hk1
    refine xb_getI (C := R_Reader) (T := F_Reader) (N := 6) hx hb 3 3 hts fin_Reader hown hR hk1 (by decide) rfl (by decide) rfl (hts _ m_a9b84ac2) (fun _ h9 => h9) (xb_d D_Reader_readTypes 7 rfl) ?_
    obtain ⟨v5, ev5⟩ : ∃ x : Int32, x = (xb_i h2 x0 3) := ⟨_, rfl⟩
    have hw := hw v5 ev5
    refine xt_numi (y := v5) ev5.symm ?_
    refine lv_istore_n hx hb (xb_d D_Reader_readTypes 8 rfl) rfl hl (by decide) rfl (fun ls hl => ?_)
    have hl : lv_has ls 6 [(3, .int v5), (1, .long v4), (0, .ref x0)] := hl
    refine lv_lconst (v := 0) hx hb (xb_d D_Reader_readTypes 9 rfl) (by decide) ?_
    refine lv_lstore hx hb (xb_d D_Reader_readTypes 10 rfl) hl (by decide) rfl (fun ls hl => ?_)
    have hl : lv_has ls 6 [(4, .long 0), (3, .int v5), (1, .long v4), (0, .ref x0)] := hl
    obtain ⟨n8, hw⟩ := hw
    exact am_Reader_readTypes_L18 l hfl D A σ MC MS h0 Qr Qt n8 x0 v4 v5 0 h2 bc3 bs3 hw p e s m args below meth c hC H locs ls (k + kk3) (n + nn3) hE (lv_sub hl [3, 2, 1, 0] rfl) hR hS (by omega) (by omega)
  · exact xb_pass hlocks (fun x hx9 => by rw [htab] at hx9; first | (cases hx9; done) | (simp [tableOf] at hx9; subst hx9; decide) | (simp [tableOf] at hx9; rcases hx9 with rfl | rfl <;> decide) | (simp [tableOf] at hx9; rcases hx9 with rfl | rfl | rfl <;> decide)) (show (k + kk3) + bc3 ≤ MC by omega) (show (n + nn3) + bs3 ≤ MS by omega) (hE.tr hEh2) hR hS hex hq

theorem m_040d1f1f : (.fieldLink "StackHost$Reader" 161 "StackHost$StackModule" "variables" "LStackHost$Row;" : Cond) ∈ xt_tbl := xt_in (xt_t3 (List.mem_of_getElem? (i := 84) (by decide +kernel))) (by decide +kernel)
set_option maxRecDepth 100000 in
def T_Reader_readVariableType : List (Nat × Instr × Nat) := [(0, .aload_n 0, 1), (1, .getfield 15, 3), (4, .getfield 161, 3), (7, .iload_n 1, 1), (8, .i2l, 1), (9, .invokevirtual 87, 3), (12, .aload_n 0, 1), (13, .getfield 15, 3), (16, .getfield 161, 3), (19, .aload_n 0, 1), (20, .invokevirtual 145, 3), (23, .i2l, 1), (24, .invokevirtual 87, 3), (27, .aload_n 0, 1), (28, .getfield 15, 3), (31, .getfield 161, 3), (34, .aload_n 0, 1), (35, .iconst 1, 1), (36, .invokevirtual 148, 3), (39, .i2l, 1), (40, .invokevirtual 87, 3), (43, .return_, 1)]
theorem D_Reader_readVariableType : ∀ q ∈ T_Reader_readVariableType, decode b_Reader_readVariableType q.1 = .ok (q.2.1, q.2.2) := by decide +kernel

set_option maxHeartbeats 4000000 in
set_option maxRecDepth 100000 in
theorem ok_Reader_readVariableType (l : Launch) (hfl : l.flags = pinnedFlags ++ [noTraceFlag]) (D : va_G) (A : Nat → Prop) (σ : Nat) (x0 : Nat) (x1 : Int32) (h : xb_H) (bc : Nat) (bs : Nat) (Qr : xb_H → Nat → Nat → Prop) (Qt : String → xb_H → Nat → Nat → Prop) (hw : w_Reader_readVariableType x0 x1 h bc bs Qr Qt) : xb_Met l y_Reader_readVariableType [.code y_Reader_readVariableType b_Reader_readVariableType 2 none] (xb_rm 5 bc bs) (xb_Pc D A σ h [.ref x0, .int x1]) (xb_Qc D A h bc bs (fun v h bc bs => v = none ∧ Qr h bc bs) Qt) A := by
  refine xb_ofAm (cc := b_Reader_readVariableType) (by decide) (Nat.le_of_ble_eq_true rfl) ?_
  unfold w_Reader_readVariableType at hw
  show xb_am l D A σ 5 bc bs h (fun v h bc bs => v = none ∧ Qr h bc bs) Qt y_Reader_readVariableType.cls y_Reader_readVariableType.name b_Reader_readVariableType 2 ([] : List ExceptionTableEntry) none 0 [(0, .ref x0), (1, .int x1)] [] h bc bs
  obtain ⟨MC, hMC⟩ : ∃ x, x = bc := ⟨_, rfl⟩
  obtain ⟨MS, hMS⟩ : ∃ x, x = bs := ⟨_, rfl⟩
  rw [show xb_am l D A σ 5 bc bs = xb_am l D A σ 5 MC MS by rw [hMC, hMS]]
  obtain ⟨h0, hh0⟩ : ∃ x, x = h := ⟨_, rfl⟩
  rw [show xb_am l D A σ 5 MC MS h = xb_am l D A σ 5 MC MS h0 by rw [hh0]]
  intro p e s m args below meth c hC H locs ls k n hE hl hR hS hk hn
  obtain ⟨hx, hb, hown, hlocks, htab, hml, hr, hB, hA, hnm⟩ := id hC
  have hts := hB.1.1.at args
  refine lv_aload_n hx hb (xb_d D_Reader_readVariableType 0 rfl) rfl (lv_at hl 0 rfl) ?_
  obtain ⟨hk1, hw⟩ := hw
  refine xb_getP (C := R_Reader) (T := F_Reader) (N := 6) hx hb 3 0 hts fin_Reader hown hR hk1 (by decide) rfl (by decide) rfl (hts _ m_76d8349c) (fun _ h9 => h9) (xb_d D_Reader_readVariableType 1 rfl) ?_
  obtain ⟨b2, eb2, hw⟩ := hw
  refine xb_some eb2 ?_
  obtain ⟨hk3, hw⟩ := hw
  refine xb_getP (C := R_StackModule) (T := F_StackModule) (N := 19) hx hb 2 7 hts fin_StackModule hown hR hk3 (by decide) rfl (by decide) rfl (hts _ m_040d1f1f) (fun _ h9 => h9) (xb_d D_Reader_readVariableType 2 rfl) ?_
  obtain ⟨b4, eb4, hw⟩ := hw
  refine xb_some eb4 ?_
  refine lv_iload_n hx hb (xb_d D_Reader_readVariableType 3 rfl) rfl (lv_at hl 1 rfl) ?_
  refine lv_i2l hx hb (xb_d D_Reader_readVariableType 4 rfl) rfl ?_
  obtain ⟨hk5, hw⟩ := hw
  refine xb_call (D := D) (A := A) (σ := σ) (h := h) (d := 4) (mc := bc) (ms := bs) (maxL := 3) (rest := []) (av := [.ref b4, .long (Int32.toInt64 x1)]) (fun T hT X => by obtain ⟨cb9, ra9, rb9, rc9⟩ := xb_recv (ci := 1) hR rfl hk5 (by decide); exact xt_invV X hx hown (hts _ m_da067afc) (hts _ m_7e8d081f) (hts _ m_4e47f51a) (xt_sigOf (hts _ m_4f1bdc54)) nm_Row_add (by rw [hT]; exact ra9) rb9 rc9 (g := F0 m 9 ls [.long (Int32.toInt64 x1), .ref b4]) rfl (argsL := [.long (Int32.toInt64 x1)]) (rest := []) rfl rfl (by rw [hb]; exact (xb_d D_Reader_readVariableType 5 rfl))) (ok_Row_add l hfl D A σ b4 (Int32.toInt64 x1) h bc bs _ hw) (hml.trans hl.1.symm) (by rw [hb]; exact (xb_d D_Reader_readVariableType 5 rfl)) (Nat.le_of_ble_eq_true rfl) (Nat.le_of_ble_eq_true rfl) (Nat.le_of_ble_eq_true rfl) (show k + bc ≤ MC by omega) (show n + bs ≤ MS by omega) (xt_w1 hB.1 m_4f1bdc54) (xt_cdOf hB.1 m_4f1bdc54) (hts _ m_c1bef504) hB hR hS hA (fun vv h6 bc7 bs7 kk7 nn7 H locs hk7 hn7 hq hEh6 hR hS => ?_) (fun XX ax h6 bc7 bs7 kk7 nn7 H locs hk7 hn7 hq hEh6 hex hR hS => ?_)
  · obtain ⟨rfl, hw⟩ := hq
    have hw := hw hEh6
    have hE := hE.tr hEh6
    refine W.eq (g2 := F0 m 12 ls []) rfl ?_
    refine lv_aload_n hx hb (xb_d D_Reader_readVariableType 6 rfl) rfl (lv_at hl 0 rfl) ?_
    have hk1 : xb_k h6 x0 = 4 := hEh6.k hk1
    refine xb_getP (C := R_Reader) (T := F_Reader) (N := 6) hx hb 3 0 hts fin_Reader hown hR hk1 (by decide) rfl (by decide) rfl (hts _ m_76d8349c) (fun _ h9 => h9) (xb_d D_Reader_readVariableType 7 rfl) ?_
    obtain ⟨b8, eb8, hw⟩ := hw
    refine xb_some eb8 ?_
    obtain ⟨hk9, hw⟩ := hw
    refine xb_getP (C := R_StackModule) (T := F_StackModule) (N := 19) hx hb 2 7 hts fin_StackModule hown hR hk9 (by decide) rfl (by decide) rfl (hts _ m_040d1f1f) (fun _ h9 => h9) (xb_d D_Reader_readVariableType 8 rfl) ?_
    obtain ⟨b10, eb10, hw⟩ := hw
    refine xb_some eb10 ?_
    refine lv_aload_n hx hb (xb_d D_Reader_readVariableType 9 rfl) rfl (lv_at hl 0 rfl) ?_
    refine xb_call (D := D) (A := A) (σ := σ) (h := h6) (d := 4) (mc := bc7) (ms := bs7) (maxL := 2) (rest := [.ref b10]) (av := [.ref x0]) (fun T hT X => by obtain ⟨cb9, ra9, rb9, rc9⟩ := xb_recv (ci := 3) hR rfl hk1 (by decide); exact xt_invV X hx hown (hts _ m_860b3013) (hts _ m_24779024) (hts _ m_7ecd5fa4) (xt_sigOf (hts _ m_0827f54b)) nm_Reader_valueType (by rw [hT]; exact ra9) rb9 rc9 (g := F0 m 20 ls [.ref x0, .ref b10]) rfl (argsL := []) (rest := [.ref b10]) rfl rfl (by rw [hb]; exact (xb_d D_Reader_readVariableType 10 rfl))) (ok_Reader_valueType l hfl D A σ x0 h6 bc7 bs7 _ _ hw) (hml.trans hl.1.symm) (by rw [hb]; exact (xb_d D_Reader_readVariableType 10 rfl)) (Nat.le_of_ble_eq_true rfl) (Nat.le_of_ble_eq_true rfl) (Nat.le_of_ble_eq_true rfl) (show (k + kk7) + bc7 ≤ MC by omega) (show (n + nn7) + bs7 ≤ MS by omega) (xt_w1 hB.1 m_0827f54b) (xt_cdOf hB.1 m_0827f54b) (hts _ m_938fcec4) hB hR hS hA (fun vv h11 bc12 bs12 kk12 nn12 H locs hk12 hn12 hq hEh11 hR hS => ?_) (fun XX ax h11 bc12 bs12 kk12 nn12 H locs hk12 hn12 hq hEh11 hex hR hS => ?_)
    · obtain ⟨r12, rfl, hw⟩ := hq
      have hw := hw hEh11
      have hE := hE.tr hEh11
      refine W.eq (g2 := F0 m 23 ls [.int r12, .ref b10]) rfl ?_
      refine lv_i2l hx hb (xb_d D_Reader_readVariableType 11 rfl) rfl ?_
      obtain ⟨hk13, hw⟩ := hw
      refine xb_call (D := D) (A := A) (σ := σ) (h := h11) (d := 4) (mc := bc12) (ms := bs12) (maxL := 3) (rest := []) (av := [.ref b10, .long (Int32.toInt64 r12)]) (fun T hT X => by obtain ⟨cb9, ra9, rb9, rc9⟩ := xb_recv (ci := 1) hR rfl hk13 (by decide); exact xt_invV X hx hown (hts _ m_da067afc) (hts _ m_7e8d081f) (hts _ m_4e47f51a) (xt_sigOf (hts _ m_4f1bdc54)) nm_Row_add (by rw [hT]; exact ra9) rb9 rc9 (g := F0 m 24 ls [.long (Int32.toInt64 r12), .ref b10]) rfl (argsL := [.long (Int32.toInt64 r12)]) (rest := []) rfl rfl (by rw [hb]; exact (xb_d D_Reader_readVariableType 12 rfl))) (ok_Row_add l hfl D A σ b10 (Int32.toInt64 r12) h11 bc12 bs12 _ hw) (hml.trans hl.1.symm) (by rw [hb]; exact (xb_d D_Reader_readVariableType 12 rfl)) (Nat.le_of_ble_eq_true rfl) (Nat.le_of_ble_eq_true rfl) (Nat.le_of_ble_eq_true rfl) (show ((k + kk7) + kk12) + bc12 ≤ MC by omega) (show ((n + nn7) + nn12) + bs12 ≤ MS by omega) (xt_w1 hB.1 m_4f1bdc54) (xt_cdOf hB.1 m_4f1bdc54) (hts _ m_c1bef504) hB hR hS hA (fun vv h14 bc15 bs15 kk15 nn15 H locs hk15 hn15 hq hEh14 hR hS => ?_) (fun XX ax h14 bc15 bs15 kk15 nn15 H locs hk15 hn15 hq hEh14 hex hR hS => ?_)
      · obtain ⟨rfl, hw⟩ := hq
        have hw := hw hEh14
        have hE := hE.tr hEh14
        refine W.eq (g2 := F0 m 27 ls []) rfl ?_
        refine lv_aload_n hx hb (xb_d D_Reader_readVariableType 13 rfl) rfl (lv_at hl 0 rfl) ?_
        have hk1 : xb_k h11 x0 = 4 := hEh11.k hk1
        have hk1 : xb_k h14 x0 = 4 := hEh14.k hk1
        refine xb_getP (C := R_Reader) (T := F_Reader) (N := 6) hx hb 3 0 hts fin_Reader hown hR hk1 (by decide) rfl (by decide) rfl (hts _ m_76d8349c) (fun _ h9 => h9) (xb_d D_Reader_readVariableType 14 rfl) ?_
        obtain ⟨b16, eb16, hw⟩ := hw
        refine xb_some eb16 ?_
        obtain ⟨hk17, hw⟩ := hw
        refine xb_getP (C := R_StackModule) (T := F_StackModule) (N := 19) hx hb 2 7 hts fin_StackModule hown hR hk17 (by decide) rfl (by decide) rfl (hts _ m_040d1f1f) (fun _ h9 => h9) (xb_d D_Reader_readVariableType 15 rfl) ?_
        obtain ⟨b18, eb18, hw⟩ := hw
        refine xb_some eb18 ?_
        refine lv_aload_n hx hb (xb_d D_Reader_readVariableType 16 rfl) rfl (lv_at hl 0 rfl) ?_
        refine lv_iconst (v := 1) hx hb (xb_d D_Reader_readVariableType 17 rfl) (by decide) ?_
        refine xb_call (D := D) (A := A) (σ := σ) (h := h14) (d := 4) (mc := bc15) (ms := bs15) (maxL := 3) (rest := [.ref b18]) (av := [.ref x0, .int 1]) (fun T hT X => by obtain ⟨cb9, ra9, rb9, rc9⟩ := xb_recv (ci := 3) hR rfl hk1 (by decide); exact xt_invV X hx hown (hts _ m_13cda130) (hts _ m_a9ff337d) (hts _ m_af3157e6) (xt_sigOf (hts _ m_8a19f6ff)) nm_Reader_byteUpTo (by rw [hT]; exact ra9) rb9 rc9 (g := F0 m 36 ls [.int 1, .ref x0, .ref b18]) rfl (argsL := [.int 1]) (rest := [.ref b18]) rfl rfl (by rw [hb]; exact (xb_d D_Reader_readVariableType 18 rfl))) (ok_Reader_byteUpTo l hfl D A σ x0 1 h14 bc15 bs15 _ _ hw) (hml.trans hl.1.symm) (by rw [hb]; exact (xb_d D_Reader_readVariableType 18 rfl)) (Nat.le_of_ble_eq_true rfl) (Nat.le_of_ble_eq_true rfl) (Nat.le_of_ble_eq_true rfl) (show (((k + kk7) + kk12) + kk15) + bc15 ≤ MC by omega) (show (((n + nn7) + nn12) + nn15) + bs15 ≤ MS by omega) (xt_w1 hB.1 m_8a19f6ff) (xt_cdOf hB.1 m_8a19f6ff) (hts _ m_938fcec4) hB hR hS hA (fun vv h19 bc20 bs20 kk20 nn20 H locs hk20 hn20 hq hEh19 hR hS => ?_) (fun XX ax h19 bc20 bs20 kk20 nn20 H locs hk20 hn20 hq hEh19 hex hR hS => ?_)
        · obtain ⟨r20, rfl, hw⟩ := hq
          have hw := hw hEh19
          have hE := hE.tr hEh19
          refine W.eq (g2 := F0 m 39 ls [.int r20, .ref b18]) rfl ?_
          refine lv_i2l hx hb (xb_d D_Reader_readVariableType 19 rfl) rfl ?_
          obtain ⟨hk21, hw⟩ := hw
          refine xb_call (D := D) (A := A) (σ := σ) (h := h19) (d := 4) (mc := bc20) (ms := bs20) (maxL := 3) (rest := []) (av := [.ref b18, .long (Int32.toInt64 r20)]) (fun T hT X => by obtain ⟨cb9, ra9, rb9, rc9⟩ := xb_recv (ci := 1) hR rfl hk21 (by decide); exact xt_invV X hx hown (hts _ m_da067afc) (hts _ m_7e8d081f) (hts _ m_4e47f51a) (xt_sigOf (hts _ m_4f1bdc54)) nm_Row_add (by rw [hT]; exact ra9) rb9 rc9 (g := F0 m 40 ls [.long (Int32.toInt64 r20), .ref b18]) rfl (argsL := [.long (Int32.toInt64 r20)]) (rest := []) rfl rfl (by rw [hb]; exact (xb_d D_Reader_readVariableType 20 rfl))) (ok_Row_add l hfl D A σ b18 (Int32.toInt64 r20) h19 bc20 bs20 _ hw) (hml.trans hl.1.symm) (by rw [hb]; exact (xb_d D_Reader_readVariableType 20 rfl)) (Nat.le_of_ble_eq_true rfl) (Nat.le_of_ble_eq_true rfl) (Nat.le_of_ble_eq_true rfl) (show ((((k + kk7) + kk12) + kk15) + kk20) + bc20 ≤ MC by omega) (show ((((n + nn7) + nn12) + nn15) + nn20) + bs20 ≤ MS by omega) (xt_w1 hB.1 m_4f1bdc54) (xt_cdOf hB.1 m_4f1bdc54) (hts _ m_c1bef504) hB hR hS hA (fun vv h22 bc23 bs23 kk23 nn23 H locs hk23 hn23 hq hEh22 hR hS => ?_) (fun XX ax h22 bc23 bs23 kk23 nn23 H locs hk23 hn23 hq hEh22 hex hR hS => ?_)
          · obtain ⟨rfl, hw⟩ := hq
            have hw := hw hEh22
            have hE := hE.tr hEh22
            refine W.eq (g2 := F0 m 43 ls []) rfl ?_
            exact xb_vret bc23 bs23 hx hb hr hlocks (show (((((k + kk7) + kk12) + kk15) + kk20) + kk23) + bc23 ≤ MC by omega) (show (((((n + nn7) + nn12) + nn15) + nn20) + nn23) + bs23 ≤ MS by omega) hE hR hS (xb_d D_Reader_readVariableType 21 rfl) hw
          · exact False.elim hq
        · exact xb_pass hlocks (fun x hx9 => by rw [htab] at hx9; first | (cases hx9; done) | (simp [tableOf] at hx9; subst hx9; decide) | (simp [tableOf] at hx9; rcases hx9 with rfl | rfl <;> decide) | (simp [tableOf] at hx9; rcases hx9 with rfl | rfl | rfl <;> decide)) (show ((((k + kk7) + kk12) + kk15) + kk20) + bc20 ≤ MC by omega) (show ((((n + nn7) + nn12) + nn15) + nn20) + bs20 ≤ MS by omega) (hE.tr hEh19) hR hS hex hq
      · exact False.elim hq
    · exact xb_pass hlocks (fun x hx9 => by rw [htab] at hx9; first | (cases hx9; done) | (simp [tableOf] at hx9; subst hx9; decide) | (simp [tableOf] at hx9; rcases hx9 with rfl | rfl <;> decide) | (simp [tableOf] at hx9; rcases hx9 with rfl | rfl | rfl <;> decide)) (show ((k + kk7) + kk12) + bc12 ≤ MC by omega) (show ((n + nn7) + nn12) + bs12 ≤ MS by omega) (hE.tr hEh11) hR hS hex hq
  · exact False.elim hq

theorem m_7744ae49 : (.fieldLink "StackHost$World" 55 "StackHost$World" "nameSize" "I" : Cond) ∈ xt_tbl := xt_in (xt_t1 (List.mem_of_getElem? (i := 188) (by decide +kernel))) (by decide +kernel)
theorem m_def6f83e : (.methodLink "StackHost$World" 65 arraycopyName : Cond) ∈ xt_tbl := xt_in (xt_t7 (List.mem_of_getElem? (i := 137) (by decide +kernel))) (by decide +kernel)
theorem m_6ab0aa52 : (.methodLink "StackHost$World" 71 y_Row_add : Cond) ∈ xt_tbl := xt_in (xt_t6 (List.mem_of_getElem? (i := 151) (by decide +kernel))) (by decide +kernel)
theorem m_33252dfa : (.methodLink "StackHost$World" 59 y_Arrays_copyOf0 : Cond) ∈ xt_tbl := xt_in (xt_t7 (List.mem_of_getElem? (i := 136) (by decide +kernel))) (by decide +kernel)
set_option maxRecDepth 100000 in
def T_World_addName : List (Nat × Instr × Nat) := [(0, .aload_n 0, 1), (1, .getfield 55, 3), (4, .iload_n 3, 1), (5, .iadd, 1), (6, .aload_n 0, 1), (7, .getfield 41, 3), (10, .arraylength, 1), (11, .if_icmp .le 22, 3), (14, .aload_n 0, 1), (15, .aload_n 0, 1), (16, .getfield 41, 3), (19, .iconst 2, 1), (20, .aload_n 0, 1), (21, .getfield 55, 3), (24, .iload_n 3, 1), (25, .iadd, 1), (26, .imul, 1), (27, .invokestatic 59, 3), (30, .putfield 41, 3), (33, .aload_n 2, 1), (34, .iconst 0, 1), (35, .aload_n 0, 1), (36, .getfield 41, 3), (39, .aload_n 0, 1), (40, .getfield 55, 3), (43, .iload_n 3, 1), (44, .invokestatic 65, 3), (47, .aload_n 0, 1), (48, .getfield 38, 3), (51, .aload_n 0, 1), (52, .getfield 55, 3), (55, .i2l, 1), (56, .invokevirtual 71, 3), (59, .aload_n 0, 1), (60, .getfield 38, 3), (63, .iload_n 3, 1), (64, .i2l, 1), (65, .invokevirtual 71, 3), (68, .aload_n 0, 1), (69, .getfield 38, 3), (72, .iload_n 1, 1), (73, .i2l, 1), (74, .invokevirtual 71, 3), (77, .aload_n 0, 1), (78, .dup, 1), (79, .getfield 55, 3), (82, .iload_n 3, 1), (83, .iadd, 1), (84, .putfield 55, 3), (87, .return_, 1)]
theorem D_World_addName : ∀ q ∈ T_World_addName, decode b_World_addName q.1 = .ok (q.2.1, q.2.2) := by decide +kernel

set_option maxHeartbeats 4000000 in
set_option maxRecDepth 100000 in
theorem am_World_addName_L33 (l : Launch) (hfl : l.flags = pinnedFlags ++ [noTraceFlag]) (D : va_G) (A : Nat → Prop) (σ MC MS : Nat) (h0 : xb_H) (Qr : xb_H → Nat → Nat → Prop) (x0 : Nat) (x1 : Int32) (x2 : Nat) (x3 : Int32) (h : xb_H) (bc : Nat) (bs : Nat) (hw : w_World_addName_L33 Qr x0 x1 x2 x3 h bc bs) : xb_am l D A σ 5 MC MS h0 (fun v h bc bs => v = none ∧ Qr h bc bs) (fun _ _ _ _ => False) y_World_addName.cls y_World_addName.name b_World_addName 4 ([] : List ExceptionTableEntry) none 33 [(0, .ref x0), (1, .int x1), (2, .ref x2), (3, .int x3)] [] h bc bs := by
  unfold w_World_addName_L33 at hw
  intro p e s m args below meth c hC H locs ls k n hE hl hR hS hk hn
  obtain ⟨hx, hb, hown, hlocks, htab, hml, hr, hB, hA, hnm⟩ := id hC
  have hts := hB.1.1.at args
  refine lv_aload_n hx hb (xb_d D_World_addName 19 rfl) rfl (lv_at hl 2 rfl) ?_
  refine lv_iconst (v := 0) hx hb (xb_d D_World_addName 20 rfl) (by decide) ?_
  refine lv_aload_n hx hb (xb_d D_World_addName 21 rfl) rfl (lv_at hl 0 rfl) ?_
  obtain ⟨hk1, hw⟩ := hw
  refine xb_getP (C := R_World) (T := F_World) (N := 16) hx hb 6 10 hts fin_World hown hR hk1 (by decide) rfl (by decide) rfl (hts _ m_fb6c2688) (fun _ h9 => h9) (xb_d D_World_addName 22 rfl) ?_
  obtain ⟨b2, eb2, hw⟩ := hw
  refine xb_some eb2 ?_
  refine lv_aload_n hx hb (xb_d D_World_addName 23 rfl) rfl (lv_at hl 0 rfl) ?_
  refine xb_getI (C := R_World) (T := F_World) (N := 16) hx hb 6 11 hts fin_World hown hR hk1 (by decide) rfl (by decide) rfl (hts _ m_7744ae49) (fun _ h9 => h9) (xb_d D_World_addName 24 rfl) ?_
  refine lv_iload_n hx hb (xb_d D_World_addName 25 rfl) rfl (lv_at hl 3 rfl) ?_
  obtain ⟨hk3, hw⟩ := hw
  obtain ⟨hk4, hw⟩ := hw
  obtain ⟨ha5, hw⟩ := hw
  refine xb_copy_b hx hb (hml.trans hl.1.symm) hown (hts _ m_def6f83e) (hts _ m_a648c8f7) (hts _ m_410d49e2) (hts _ m_4260ffab) hR hS hk3 hk4 ha5.1 ha5.2.1 ha5.2.2.1 ha5.2.2.2.1 ha5.2.2.2.2 (by show 1 ≤ 8 + _; omega) (Nat.le_trans (Nat.le_of_ble_eq_true rfl : _ ≤ 60) (by show 60 ≤ 120 + _; omega)) (xb_d D_World_addName 26 rfl) (fun H locs hR hS => ?_)
  obtain ⟨h6, eh6⟩ : ∃ x : xb_H, x = xb_Ia h b2 (va_cpy (xb_i h x2) (xb_i h b2) (Int32.toNatClampNeg 0) (Int32.toNatClampNeg (xb_i h x0 11)) (Int32.toNatClampNeg x3)) := ⟨_, rfl⟩
  rw [← eh6] at hR
  have hw := hw h6 eh6
  have hE : xb_ext h0 h6 := by rw [eh6]; exact hE
  refine lv_aload_n hx hb (xb_d D_World_addName 27 rfl) rfl (lv_at hl 0 rfl) ?_
  have hk1 : xb_k h6 x0 = 7 := by rw [eh6]; exact hk1
  refine xb_getP (C := R_World) (T := F_World) (N := 16) hx hb 6 9 hts fin_World hown hR hk1 (by decide) rfl (by decide) rfl (hts _ m_99b823f6) (fun _ h9 => h9) (xb_d D_World_addName 28 rfl) ?_
  obtain ⟨b7, eb7, hw⟩ := hw
  refine xb_some eb7 ?_
  refine lv_aload_n hx hb (xb_d D_World_addName 29 rfl) rfl (lv_at hl 0 rfl) ?_
  refine xb_getI (C := R_World) (T := F_World) (N := 16) hx hb 6 11 hts fin_World hown hR hk1 (by decide) rfl (by decide) rfl (hts _ m_7744ae49) (fun _ h9 => h9) (xb_d D_World_addName 30 rfl) ?_
  refine lv_i2l hx hb (xb_d D_World_addName 31 rfl) rfl ?_
  obtain ⟨hk8, hw⟩ := hw
  refine xb_call (D := D) (A := A) (σ := σ) (h := h6) (d := 4) (mc := bc) (ms := bs) (maxL := 3) (rest := []) (av := [.ref b7, .long (Int32.toInt64 (xb_i h6 x0 11))]) (fun T hT X => by obtain ⟨cb9, ra9, rb9, rc9⟩ := xb_recv (ci := 1) hR rfl hk8 (by decide); exact xt_invV X hx hown (hts _ m_6ab0aa52) (hts _ m_7e8d081f) (hts _ m_4e47f51a) (xt_sigOf (hts _ m_4f1bdc54)) nm_Row_add (by rw [hT]; exact ra9) rb9 rc9 (g := F0 m 56 ls [.long (Int32.toInt64 (xb_i h6 x0 11)), .ref b7]) rfl (argsL := [.long (Int32.toInt64 (xb_i h6 x0 11))]) (rest := []) rfl rfl (by rw [hb]; exact (xb_d D_World_addName 32 rfl))) (ok_Row_add l hfl D A σ b7 (Int32.toInt64 (xb_i h6 x0 11)) h6 bc bs _ hw) (hml.trans hl.1.symm) (by rw [hb]; exact (xb_d D_World_addName 32 rfl)) (Nat.le_of_ble_eq_true rfl) (Nat.le_of_ble_eq_true rfl) (Nat.le_of_ble_eq_true rfl) (show k + bc ≤ MC by omega) (show n + bs ≤ MS by omega) (xt_w1 hB.1 m_4f1bdc54) (xt_cdOf hB.1 m_4f1bdc54) (hts _ m_c1bef504) hB hR hS hA (fun vv h9 bc10 bs10 kk10 nn10 H locs hk10 hn10 hq hEh9 hR hS => ?_) (fun XX ax h9 bc10 bs10 kk10 nn10 H locs hk10 hn10 hq hEh9 hex hR hS => ?_)
  · obtain ⟨rfl, hw⟩ := hq
    have hw := hw hEh9
    have hE := hE.tr hEh9
    refine W.eq (g2 := F0 m 59 ls []) rfl ?_
    refine lv_aload_n hx hb (xb_d D_World_addName 33 rfl) rfl (lv_at hl 0 rfl) ?_
    have hk1 : xb_k h9 x0 = 7 := hEh9.k hk1
    refine xb_getP (C := R_World) (T := F_World) (N := 16) hx hb 6 9 hts fin_World hown hR hk1 (by decide) rfl (by decide) rfl (hts _ m_99b823f6) (fun _ h9 => h9) (xb_d D_World_addName 34 rfl) ?_
    obtain ⟨b11, eb11, hw⟩ := hw
    refine xb_some eb11 ?_
    refine lv_iload_n hx hb (xb_d D_World_addName 35 rfl) rfl (lv_at hl 3 rfl) ?_
    refine lv_i2l hx hb (xb_d D_World_addName 36 rfl) rfl ?_
    obtain ⟨hk12, hw⟩ := hw
    refine xb_call (D := D) (A := A) (σ := σ) (h := h9) (d := 4) (mc := bc10) (ms := bs10) (maxL := 3) (rest := []) (av := [.ref b11, .long (Int32.toInt64 x3)]) (fun T hT X => by obtain ⟨cb9, ra9, rb9, rc9⟩ := xb_recv (ci := 1) hR rfl hk12 (by decide); exact xt_invV X hx hown (hts _ m_6ab0aa52) (hts _ m_7e8d081f) (hts _ m_4e47f51a) (xt_sigOf (hts _ m_4f1bdc54)) nm_Row_add (by rw [hT]; exact ra9) rb9 rc9 (g := F0 m 65 ls [.long (Int32.toInt64 x3), .ref b11]) rfl (argsL := [.long (Int32.toInt64 x3)]) (rest := []) rfl rfl (by rw [hb]; exact (xb_d D_World_addName 37 rfl))) (ok_Row_add l hfl D A σ b11 (Int32.toInt64 x3) h9 bc10 bs10 _ hw) (hml.trans hl.1.symm) (by rw [hb]; exact (xb_d D_World_addName 37 rfl)) (Nat.le_of_ble_eq_true rfl) (Nat.le_of_ble_eq_true rfl) (Nat.le_of_ble_eq_true rfl) (show (k + kk10) + bc10 ≤ MC by omega) (show (n + nn10) + bs10 ≤ MS by omega) (xt_w1 hB.1 m_4f1bdc54) (xt_cdOf hB.1 m_4f1bdc54) (hts _ m_c1bef504) hB hR hS hA (fun vv h13 bc14 bs14 kk14 nn14 H locs hk14 hn14 hq hEh13 hR hS => ?_) (fun XX ax h13 bc14 bs14 kk14 nn14 H locs hk14 hn14 hq hEh13 hex hR hS => ?_)
    · obtain ⟨rfl, hw⟩ := hq
      have hw := hw hEh13
      have hE := hE.tr hEh13
      refine W.eq (g2 := F0 m 68 ls []) rfl ?_
      refine lv_aload_n hx hb (xb_d D_World_addName 38 rfl) rfl (lv_at hl 0 rfl) ?_
      have hk1 : xb_k h13 x0 = 7 := hEh13.k hk1
      refine xb_getP (C := R_World) (T := F_World) (N := 16) hx hb 6 9 hts fin_World hown hR hk1 (by decide) rfl (by decide) rfl (hts _ m_99b823f6) (fun _ h9 => h9) (xb_d D_World_addName 39 rfl) ?_
      obtain ⟨b15, eb15, hw⟩ := hw
      refine xb_some eb15 ?_
      refine lv_iload_n hx hb (xb_d D_World_addName 40 rfl) rfl (lv_at hl 1 rfl) ?_
      refine lv_i2l hx hb (xb_d D_World_addName 41 rfl) rfl ?_
      obtain ⟨hk16, hw⟩ := hw
      refine xb_call (D := D) (A := A) (σ := σ) (h := h13) (d := 4) (mc := bc14) (ms := bs14) (maxL := 3) (rest := []) (av := [.ref b15, .long (Int32.toInt64 x1)]) (fun T hT X => by obtain ⟨cb9, ra9, rb9, rc9⟩ := xb_recv (ci := 1) hR rfl hk16 (by decide); exact xt_invV X hx hown (hts _ m_6ab0aa52) (hts _ m_7e8d081f) (hts _ m_4e47f51a) (xt_sigOf (hts _ m_4f1bdc54)) nm_Row_add (by rw [hT]; exact ra9) rb9 rc9 (g := F0 m 74 ls [.long (Int32.toInt64 x1), .ref b15]) rfl (argsL := [.long (Int32.toInt64 x1)]) (rest := []) rfl rfl (by rw [hb]; exact (xb_d D_World_addName 42 rfl))) (ok_Row_add l hfl D A σ b15 (Int32.toInt64 x1) h13 bc14 bs14 _ hw) (hml.trans hl.1.symm) (by rw [hb]; exact (xb_d D_World_addName 42 rfl)) (Nat.le_of_ble_eq_true rfl) (Nat.le_of_ble_eq_true rfl) (Nat.le_of_ble_eq_true rfl) (show ((k + kk10) + kk14) + bc14 ≤ MC by omega) (show ((n + nn10) + nn14) + bs14 ≤ MS by omega) (xt_w1 hB.1 m_4f1bdc54) (xt_cdOf hB.1 m_4f1bdc54) (hts _ m_c1bef504) hB hR hS hA (fun vv h17 bc18 bs18 kk18 nn18 H locs hk18 hn18 hq hEh17 hR hS => ?_) (fun XX ax h17 bc18 bs18 kk18 nn18 H locs hk18 hn18 hq hEh17 hex hR hS => ?_)
      · obtain ⟨rfl, hw⟩ := hq
        have hw := hw hEh17
        have hE := hE.tr hEh17
        refine W.eq (g2 := F0 m 77 ls []) rfl ?_
        refine lv_aload_n hx hb (xb_d D_World_addName 43 rfl) rfl (lv_at hl 0 rfl) ?_
        refine lv_dup hx hb (xb_d D_World_addName 44 rfl) rfl ?_
        have hk1 : xb_k h17 x0 = 7 := hEh17.k hk1
        refine xb_getI (C := R_World) (T := F_World) (N := 16) hx hb 6 11 hts fin_World hown hR hk1 (by decide) rfl (by decide) rfl (hts _ m_7744ae49) (fun _ h9 => h9) (xb_d D_World_addName 45 rfl) ?_
        refine lv_iload_n hx hb (xb_d D_World_addName 46 rfl) rfl (lv_at hl 3 rfl) ?_
        refine lv_iadd hx hb (xb_d D_World_addName 47 rfl) ?_
        refine xb_putI (C := R_World) (T := F_World) (N := 16) (ty := .int) (x := ((xb_i h17 x0 11) + x3)) hx hb 6 11 hts fin_World t_World t_World_ok n_World hown hR hS hk1 (by decide) rfl (by decide) rfl (hts _ m_7744ae49) (fun _ h9 => h9) rfl (by decide +kernel) rfl rfl (xb_d D_World_addName 48 rfl) (fun H locs hR hS => ?_)
        obtain ⟨h19, eh19⟩ : ∃ x : xb_H, x = xb_I h17 x0 11 ((xb_i h17 x0 11) + x3) := ⟨_, rfl⟩
        rw [← eh19] at hR
        have hw := hw h19 eh19
        have hE : xb_ext h0 h19 := by rw [eh19]; exact hE
        exact xb_vret bc18 bs18 hx hb hr hlocks (show (((k + kk10) + kk14) + kk18) + bc18 ≤ MC by omega) (show (((n + nn10) + nn14) + nn18) + bs18 ≤ MS by omega) hE hR hS (xb_d D_World_addName 49 rfl) hw
      · exact False.elim hq
    · exact False.elim hq
  · exact False.elim hq

set_option maxHeartbeats 4000000 in
set_option maxRecDepth 100000 in
theorem ok_World_addName (l : Launch) (hfl : l.flags = pinnedFlags ++ [noTraceFlag]) (D : va_G) (A : Nat → Prop) (σ : Nat) (x0 : Nat) (x1 : Int32) (x2 : Nat) (x3 : Int32) (h : xb_H) (bc : Nat) (bs : Nat) (Qr : xb_H → Nat → Nat → Prop) (hw : w_World_addName x0 x1 x2 x3 h bc bs Qr) : xb_Met l y_World_addName [.code y_World_addName b_World_addName 4 none] (xb_rm 5 bc bs) (xb_Pc D A σ h [.ref x0, .int x1, .ref x2, .int x3]) (xb_Qc D A h bc bs (fun v h bc bs => v = none ∧ Qr h bc bs) (fun _ _ _ _ => False)) A := by
  refine xb_ofAm (cc := b_World_addName) (by decide) (Nat.le_of_ble_eq_true rfl) ?_
  unfold w_World_addName at hw
  show xb_am l D A σ 5 bc bs h (fun v h bc bs => v = none ∧ Qr h bc bs) (fun _ _ _ _ => False) y_World_addName.cls y_World_addName.name b_World_addName 4 ([] : List ExceptionTableEntry) none 0 [(0, .ref x0), (1, .int x1), (2, .ref x2), (3, .int x3)] [] h bc bs
  obtain ⟨MC, hMC⟩ : ∃ x, x = bc := ⟨_, rfl⟩
  obtain ⟨MS, hMS⟩ : ∃ x, x = bs := ⟨_, rfl⟩
  rw [show xb_am l D A σ 5 bc bs = xb_am l D A σ 5 MC MS by rw [hMC, hMS]]
  obtain ⟨h0, hh0⟩ : ∃ x, x = h := ⟨_, rfl⟩
  rw [show xb_am l D A σ 5 MC MS h = xb_am l D A σ 5 MC MS h0 by rw [hh0]]
  intro p e s m args below meth c hC H locs ls k n hE hl hR hS hk hn
  obtain ⟨hx, hb, hown, hlocks, htab, hml, hr, hB, hA, hnm⟩ := id hC
  have hts := hB.1.1.at args
  refine lv_aload_n hx hb (xb_d D_World_addName 0 rfl) rfl (lv_at hl 0 rfl) ?_
  obtain ⟨hk1, hw⟩ := hw
  refine xb_getI (C := R_World) (T := F_World) (N := 16) hx hb 6 11 hts fin_World hown hR hk1 (by decide) rfl (by decide) rfl (hts _ m_7744ae49) (fun _ h9 => h9) (xb_d D_World_addName 1 rfl) ?_
  refine lv_iload_n hx hb (xb_d D_World_addName 2 rfl) rfl (lv_at hl 3 rfl) ?_
  refine lv_iadd hx hb (xb_d D_World_addName 3 rfl) ?_
  refine lv_aload_n hx hb (xb_d D_World_addName 4 rfl) rfl (lv_at hl 0 rfl) ?_
  refine xb_getP (C := R_World) (T := F_World) (N := 16) hx hb 6 10 hts fin_World hown hR hk1 (by decide) rfl (by decide) rfl (hts _ m_fb6c2688) (fun _ h9 => h9) (xb_d D_World_addName 5 rfl) ?_
  obtain ⟨b2, eb2, hw⟩ := hw
  refine xb_some eb2 ?_
  obtain ⟨hk3, hw⟩ := hw
  refine xb_alen hx hb hR hk3 (by decide) (xb_d D_World_addName 6 rfl) ?_
  refine lv_icmp_le (tgt := 33) hx hb (xb_d D_World_addName 7 rfl) rfl (fun hc4 => ?_) (fun hc4 => ?_)
  · have hw := hw.1 hc4
    exact am_World_addName_L33 l hfl D A σ MC MS h0 Qr x0 x1 x2 x3 h bc bs hw p e s m args below meth c hC H locs ls k n hE (lv_sub hl [0, 1, 2, 3] rfl) hR hS (by omega) (by omega)
  · have hw := hw.2 hc4
    refine lv_aload_n hx hb (xb_d D_World_addName 8 rfl) rfl (lv_at hl 0 rfl) ?_
    refine lv_aload_n hx hb (xb_d D_World_addName 9 rfl) rfl (lv_at hl 0 rfl) ?_
    refine xb_getP (C := R_World) (T := F_World) (N := 16) hx hb 6 10 hts fin_World hown hR hk1 (by decide) rfl (by decide) rfl (hts _ m_fb6c2688) (fun _ h9 => h9) (xb_d D_World_addName 10 rfl) ?_
    obtain ⟨b5, eb5, hw⟩ := hw
    refine xb_some eb5 ?_
    refine lv_iconst (v := 2) hx hb (xb_d D_World_addName 11 rfl) (by decide) ?_
    refine lv_aload_n hx hb (xb_d D_World_addName 12 rfl) rfl (lv_at hl 0 rfl) ?_
    refine xb_getI (C := R_World) (T := F_World) (N := 16) hx hb 6 11 hts fin_World hown hR hk1 (by decide) rfl (by decide) rfl (hts _ m_7744ae49) (fun _ h9 => h9) (xb_d D_World_addName 13 rfl) ?_
    refine lv_iload_n hx hb (xb_d D_World_addName 14 rfl) rfl (lv_at hl 3 rfl) ?_
    refine lv_iadd hx hb (xb_d D_World_addName 15 rfl) ?_
    refine lv_imul hx hb (xb_d D_World_addName 16 rfl) ?_
    refine xb_call (D := D) (A := A) (σ := σ) (h := h) (d := 2) (mc := bc) (ms := bs) (maxL := 3) (rest := [.ref x0]) (av := [.ref b5, .int (2 * ((xb_i h x0 11) + x3))]) (fun T hT X => xt_invS X hx hown (hts _ m_33252dfa) (hts _ m_16c212e6) (hts _ m_b999e92a) (xt_sgS (hts _ m_d6a3543a)).1 (xt_sgS (hts _ m_d6a3543a)).2 nm_Arrays_copyOf0 (g := F0 m 27 ls [.int (2 * ((xb_i h x0 11) + x3)), .ref b5, .ref x0]) rfl (argsL := [.ref b5, .int (2 * ((xb_i h x0 11) + x3))]) (rest := [.ref x0]) rfl rfl (by rw [hb]; exact (xb_d D_World_addName 17 rfl))) (ok_Arrays_copyOf0 l hfl D A σ b5 (2 * ((xb_i h x0 11) + x3)) h bc bs _ hw) (hml.trans hl.1.symm) (by rw [hb]; exact (xb_d D_World_addName 17 rfl)) (Nat.le_of_ble_eq_true rfl) (Nat.le_of_ble_eq_true rfl) (Nat.le_of_ble_eq_true rfl) (show k + bc ≤ MC by omega) (show n + bs ≤ MS by omega) (xt_w1 hB.1 m_d6a3543a) (xt_cdOf hB.1 m_d6a3543a) (hts _ m_b999e92a) hB hR hS hA (fun vv h6 bc7 bs7 kk7 nn7 H locs hk7 hn7 hq hEh6 hR hS => ?_) (fun XX ax h6 bc7 bs7 kk7 nn7 H locs hk7 hn7 hq hEh6 hex hR hS => ?_)
    · obtain ⟨r7, rfl, hw⟩ := hq
      have hw := hw hEh6
      have hE := hE.tr hEh6
      refine W.eq (g2 := F0 m 30 ls [.ref r7, .ref x0]) rfl ?_
      have hk1 : xb_k h6 x0 = 7 := hEh6.k hk1
      refine xb_putP (C := R_World) (T := F_World) (N := 16) (ty := .array .byte) (x := (some r7)) hx hb 6 10 hts fin_World t_World t_World_ok n_World hown hR hS hk1 (by decide) rfl (by decide) rfl (hts _ m_fb6c2688) (fun _ h9 => h9) rfl (by decide +kernel) (xb_pnA _ _).1 (xb_pnA _ _).2 (xb_d D_World_addName 18 rfl) (fun H locs hR hS => ?_)
      obtain ⟨h8, eh8⟩ : ∃ x : xb_H, x = xb_P h6 x0 10 (some r7) := ⟨_, rfl⟩
      rw [← eh8] at hR
      have hw := hw h8 eh8
      have hE : xb_ext h0 h8 := by rw [eh8]; exact hE
      exact am_World_addName_L33 l hfl D A σ MC MS h0 Qr x0 x1 x2 x3 h8 bc7 bs7 hw p e s m args below meth c hC H locs ls (k + kk7) (n + nn7) hE (lv_sub hl [0, 1, 2, 3] rfl) hR hS (by omega) (by omega)
    · exact False.elim hq

theorem m_727b55dc : (.fieldLink "StackHost$World" 219 "StackHost$Memory" "pageCount" "I" : Cond) ∈ xt_tbl := xt_in (xt_t7 (List.mem_of_getElem? (i := 79) (by decide +kernel))) (by decide +kernel)
theorem m_0e98c8f6 : (.fieldLink "StackHost$World" 313 "StackHost$Memory" "slots" "[I" : Cond) ∈ xt_tbl := xt_in (xt_t7 (List.mem_of_getElem? (i := 77) (by decide +kernel))) (by decide +kernel)
theorem m_45c8cab3 : (.methodLink "StackHost$World" 289 y_Row_addMany : Cond) ∈ xt_tbl := xt_in (xt_t7 (List.mem_of_getElem? (i := 37) (by decide +kernel))) (by decide +kernel)
theorem m_c1872bd8 : (.instanceMethod y_Row_addMany : Cond) ∈ xt_tbl := xt_in (xt_t7 (List.mem_of_getElem? (i := 38) (by decide +kernel))) (by decide +kernel)
theorem m_3e031f92 : (.selects "StackHost$Row" y_Row_addMany y_Row_addMany : Cond) ∈ xt_tbl := xt_in (xt_t7 (List.mem_of_getElem? (i := 39) (by decide +kernel))) (by decide +kernel)
theorem m_c5b9ceaf : (.code y_Row_addMany b_Row_addMany 4 none : Cond) ∈ xt_tbl := xt_in (xt_t7 (List.mem_of_getElem? (i := 40) (by decide +kernel))) (by decide +kernel)
theorem m_13c2b590 : (.methodLink "StackHost$World" 310 y_Row_makeRoom : Cond) ∈ xt_tbl := xt_in (xt_t7 (List.mem_of_getElem? (i := 95) (by decide +kernel))) (by decide +kernel)
theorem m_0c6c8267 : (.fieldLink "StackHost$World" 224 "StackHost$Memory" "most" "J" : Cond) ∈ xt_tbl := xt_in (xt_t7 (List.mem_of_getElem? (i := 75) (by decide +kernel))) (by decide +kernel)
theorem nm_Row_addMany : xt_nm y_Row_addMany 2 := ⟨by decide +kernel, by decide +kernel⟩
set_option maxRecDepth 100000 in
def T_World_grow : List (Nat × Instr × Nat) := [(0, .aload_n 1, 1), (1, .getfield 224, 3), (4, .ldc2_w 236, 3), (7, .lcmp, 1), (8, .ifCond .ne 9, 3), (11, .ldc2_w 263, 3), (14, .goto 7, 3), (17, .aload_n 1, 1), (18, .getfield 224, 3), (21, .lstore 4, 2), (23, .aload_n 1, 1), (24, .getfield 219, 3), (27, .i2l, 1), (28, .lload_n 2, 1), (29, .ladd, 1), (30, .lload 4, 2), (32, .lcmp, 1), (33, .ifCond .gt 17, 3), (36, .aload_n 0, 1), (37, .invokevirtual 255, 3), (40, .i2l, 1), (41, .lload_n 2, 1), (42, .ladd, 1), (43, .ldc2_w 258, 3), (46, .lcmp, 1), (47, .ifCond .le 5, 3), (50, .iconst (-1), 1), (51, .ireturn, 1), (52, .aload_n 1, 1), (53, .getfield 219, 3), (56, .istore 6, 2), (58, .aload_n 0, 1), (59, .getfield 32, 3), (62, .aload_n 0, 1), (63, .getfield 32, 3), (66, .getfield 91, 3), (69, .lload_n 2, 1), (70, .l2i, 1), (71, .sipush 8192, 3), (74, .imul, 1), (75, .iadd, 1), (76, .invokevirtual 310, 3), (79, .iconst 0, 1), (80, .istore 7, 2), (82, .iload 7, 2), (84, .i2l, 1), (85, .lload_n 2, 1), (86, .lcmp, 1), (87, .ifCond .ge 34, 3), (90, .aload_n 1, 1), (91, .getfield 313, 3), (94, .iload 6, 2), (96, .iload 7, 2), (98, .iadd, 1), (99, .aload_n 0, 1), (100, .invokevirtual 255, 3), (103, .iastore, 1), (104, .aload_n 0, 1), (105, .getfield 32, 3), (108, .sipush 8192, 3), (111, .lconst 0, 1), (112, .invokevirtual 289, 3), (115, .iinc 7 1, 3), (118, .goto (-36), 3), (121, .aload_n 1, 1), (122, .iload 6, 2), (124, .lload_n 2, 1), (125, .l2i, 1), (126, .iadd, 1), (127, .putfield 219, 3), (130, .iload 6, 2), (132, .ireturn, 1)]
theorem D_World_grow : ∀ q ∈ T_World_grow, decode b_World_grow q.1 = .ok (q.2.1, q.2.2) := by decide +kernel

set_option maxHeartbeats 4000000 in
set_option maxRecDepth 100000 in
theorem am_World_grow_L82 (l : Launch) (hfl : l.flags = pinnedFlags ++ [noTraceFlag]) (D : va_G) (A : Nat → Prop) (σ MC MS : Nat) (h0 : xb_H) (Qr : Int32 → xb_H → Nat → Nat → Prop) (n9 : Nat) : ∀ (x0 : Nat) (x1 : Nat) (x2 : Int64) (x6 : Int32) (x7 : Int32) (h : xb_H) (bc : Nat) (bs : Nat), w_World_grow_L82 Qr n9 x0 x1 x2 x6 x7 h bc bs → xb_am l D A σ 5 MC MS h0 (fun v h bc bs => ∃ r, v = some (.int r) ∧ Qr r h bc bs) (fun _ _ _ _ => False) y_World_grow.cls y_World_grow.name b_World_grow 8 ([] : List ExceptionTableEntry) (some .int) 82 [(0, .ref x0), (1, .ref x1), (2, .long x2), (6, .int x6), (7, .int x7)] [] h bc bs := by
  induction n9 with
  | zero => intro x0 x1 x2 x6 x7 h bc bs hw; exact False.elim hw
  | succ n9 ih =>
    intro x0 x1 x2 x6 x7 h bc bs hw
    unfold w_World_grow_L82 at hw
    intro p e s m args below meth c hC H locs ls k n hE hl hR hS hk hn
    obtain ⟨hx, hb, hown, hlocks, htab, hml, hr, hB, hA, hnm⟩ := id hC
    have hts := hB.1.1.at args
    refine lv_iload hx hb (xb_d D_World_grow 44 rfl) (lv_at hl 4 rfl) ?_
    refine lv_i2l hx hb (xb_d D_World_grow 45 rfl) rfl ?_
    refine lv_lload_n hx hb (xb_d D_World_grow 46 rfl) rfl (lv_at hl 2 rfl) ?_
    refine xb_lc_ge (tgt := 121) hx hb (xb_d D_World_grow 47 rfl) (xb_d D_World_grow 48 rfl) rfl (fun hc1 => ?_) (fun hc1 => ?_)
    · have hw := hw.1 hc1
      refine lv_aload_n hx hb (xb_d D_World_grow 64 rfl) rfl (lv_at hl 1 rfl) ?_
      refine lv_iload hx hb (xb_d D_World_grow 65 rfl) (lv_at hl 3 rfl) ?_
      refine lv_lload_n hx hb (xb_d D_World_grow 66 rfl) rfl (lv_at hl 2 rfl) ?_
      refine lv_l2i hx hb (xb_d D_World_grow 67 rfl) rfl ?_
      refine lv_iadd hx hb (xb_d D_World_grow 68 rfl) ?_
      obtain ⟨hk2, hw⟩ := hw
      refine xb_putI (C := R_Memory) (T := F_Memory) (N := 4) (ty := .int) (x := (x6 + (Int64.toInt32 x2))) hx hb 12 3 hts fin_Memory t_Memory t_Memory_ok n_Memory hown hR hS hk2 (by decide) rfl (by decide) rfl (hts _ m_727b55dc) (fun _ h9 => h9) rfl (by decide +kernel) rfl rfl (xb_d D_World_grow 69 rfl) (fun H locs hR hS => ?_)
      obtain ⟨h3, eh3⟩ : ∃ x : xb_H, x = xb_I h x1 3 (x6 + (Int64.toInt32 x2)) := ⟨_, rfl⟩
      rw [← eh3] at hR
      have hw := hw h3 eh3
      have hE : xb_ext h0 h3 := by rw [eh3]; exact hE
      refine lv_iload hx hb (xb_d D_World_grow 70 rfl) (lv_at hl 3 rfl) ?_
      exact xb_iret bc bs hx hb hr hlocks (show k + bc ≤ MC by omega) (show n + bs ≤ MS by omega) hE hR hS (xb_d D_World_grow 71 rfl) hw
    · have hw := hw.2 hc1
      refine lv_aload_n hx hb (xb_d D_World_grow 49 rfl) rfl (lv_at hl 1 rfl) ?_
      obtain ⟨hk4, hw⟩ := hw
      refine xb_getP (C := R_Memory) (T := F_Memory) (N := 4) hx hb 12 2 hts fin_Memory hown hR hk4 (by decide) rfl (by decide) rfl (hts _ m_0e98c8f6) (fun _ h9 => h9) (xb_d D_World_grow 50 rfl) ?_
      obtain ⟨b5, eb5, hw⟩ := hw
      refine xb_some eb5 ?_
      refine lv_iload hx hb (xb_d D_World_grow 51 rfl) (lv_at hl 3 rfl) ?_
      refine lv_iload hx hb (xb_d D_World_grow 52 rfl) (lv_at hl 4 rfl) ?_
      refine lv_iadd hx hb (xb_d D_World_grow 53 rfl) ?_
      refine lv_aload_n hx hb (xb_d D_World_grow 54 rfl) rfl (lv_at hl 0 rfl) ?_
      obtain ⟨hk6, hw⟩ := hw
      refine xb_call0 (D := D) (A := A) (σ := σ) (h := h) (d := 2) (maxL := 1) (rest := [.int (x6 + x7), .ref b5]) (av := [.ref x0]) (fun T hT X => by obtain ⟨cb9, ra9, rb9, rc9⟩ := xb_recv (ci := 6) hR rfl hk6 (by decide); exact xt_invV X hx hown (hts _ m_c49dc661) (hts _ m_18ec7f73) (hts _ m_0533db1f) (xt_sigOf (hts _ m_a760c7b9)) nm_World_usedPages (by rw [hT]; exact ra9) rb9 rc9 (g := F0 m 100 ls [.ref x0, .int (x6 + x7), .ref b5]) rfl (argsL := []) (rest := [.int (x6 + x7), .ref b5]) rfl rfl (by rw [hb]; exact (xb_d D_World_grow 55 rfl))) (ok_World_usedPages l hfl D A σ x0 h _ hw) (hml.trans hl.1.symm) (by rw [hb]; exact (xb_d D_World_grow 55 rfl)) (Nat.le_of_ble_eq_true rfl) (Nat.le_of_ble_eq_true rfl) (Nat.le_of_ble_eq_true rfl) (show k ≤ MC by omega) (show n ≤ MS by omega) (xt_w1 hB.1 m_a760c7b9) (xt_cdOf hB.1 m_a760c7b9) (hts _ m_4534b440) hB hR hS hA (fun vv h7 H locs hq hEh7 hR hS => ?_)
      obtain ⟨r8, rfl, hw⟩ := hq
      have hw := hw hEh7
      have hE := hE.tr hEh7
      refine W.eq (g2 := F0 m 103 ls [.int r8, .int (x6 + x7), .ref b5]) rfl ?_
      obtain ⟨hk9, hw⟩ := hw
      obtain ⟨hi10, hw⟩ := hw
      refine xb_iast hx hb hR hS hk9 hi10 (xb_d D_World_grow 56 rfl) (fun H locs hR hS => ?_)
      obtain ⟨h11, eh11⟩ : ∃ x : xb_H, x = xb_I h7 b5 (Int32.toNatClampNeg (x6 + x7)) r8 := ⟨_, rfl⟩
      rw [← eh11] at hR
      have hw := hw h11 eh11
      have hE : xb_ext h0 h11 := by rw [eh11]; exact hE
      refine lv_aload_n hx hb (xb_d D_World_grow 57 rfl) rfl (lv_at hl 0 rfl) ?_
      have hk6 : xb_k h7 x0 = 7 := hEh7.k hk6
      have hk6 : xb_k h11 x0 = 7 := by rw [eh11]; exact hk6
      refine xb_getP (C := R_World) (T := F_World) (N := 16) hx hb 6 5 hts fin_World hown hR hk6 (by decide) rfl (by decide) rfl (hts _ m_fb5d2326) (fun _ h9 => h9) (xb_d D_World_grow 58 rfl) ?_
      obtain ⟨b12, eb12, hw⟩ := hw
      refine xb_some eb12 ?_
      refine lv_sipush (v := 8192) hx hb (xb_d D_World_grow 59 rfl) (by decide) ?_
      refine lv_lconst (v := 0) hx hb (xb_d D_World_grow 60 rfl) (by decide) ?_
      obtain ⟨hk13, hw⟩ := hw
      refine xb_call (D := D) (A := A) (σ := σ) (h := h11) (d := 4) (mc := bc) (ms := bs) (maxL := 4) (rest := []) (av := [.ref b12, .int 8192, .long 0]) (fun T hT X => by obtain ⟨cb9, ra9, rb9, rc9⟩ := xb_recv (ci := 1) hR rfl hk13 (by decide); exact xt_invV X hx hown (hts _ m_45c8cab3) (hts _ m_c1872bd8) (hts _ m_3e031f92) (xt_sigOf (hts _ m_c5b9ceaf)) nm_Row_addMany (by rw [hT]; exact ra9) rb9 rc9 (g := F0 m 112 ls [.long 0, .int 8192, .ref b12]) rfl (argsL := [.int 8192, .long 0]) (rest := []) rfl rfl (by rw [hb]; exact (xb_d D_World_grow 61 rfl))) (ok_Row_addMany l hfl D A σ b12 8192 0 h11 bc bs _ hw) (hml.trans hl.1.symm) (by rw [hb]; exact (xb_d D_World_grow 61 rfl)) (Nat.le_of_ble_eq_true rfl) (Nat.le_of_ble_eq_true rfl) (Nat.le_of_ble_eq_true rfl) (show k + bc ≤ MC by omega) (show n + bs ≤ MS by omega) (xt_w1 hB.1 m_c5b9ceaf) (xt_cdOf hB.1 m_c5b9ceaf) (hts _ m_c1bef504) hB hR hS hA (fun vv h14 bc15 bs15 kk15 nn15 H locs hk15 hn15 hq hEh14 hR hS => ?_) (fun XX ax h14 bc15 bs15 kk15 nn15 H locs hk15 hn15 hq hEh14 hex hR hS => ?_)
      · obtain ⟨rfl, hw⟩ := hq
        have hw := hw hEh14
        have hE := hE.tr hEh14
        refine W.eq (g2 := F0 m 115 ls []) rfl ?_
        refine lv_iinc (v := (x7 + 1)) (k := 4) hx hb (xb_d D_World_grow 62 rfl) hl rfl (by first | rfl | decide) (by decide) rfl (fun ls hl => ?_)
        have hl : lv_has ls 8 [(7, .int (x7 + 1)), (0, .ref x0), (1, .ref x1), (2, .long x2), (6, .int x6)] := hl
        refine lv_goto (tgt := 82) hx hb (xb_d D_World_grow 63 rfl) rfl ?_
        exact ih x0 x1 x2 x6 (x7 + 1) h14 bc15 bs15 hw p e s m args below meth c hC H locs ls (k + kk15) (n + nn15) hE (lv_sub hl [1, 2, 3, 4, 0] rfl) hR hS (by omega) (by omega)
      · exact False.elim hq

set_option maxHeartbeats 4000000 in
set_option maxRecDepth 100000 in
theorem am_World_grow_L50 (l : Launch) (hfl : l.flags = pinnedFlags ++ [noTraceFlag]) (D : va_G) (A : Nat → Prop) (σ MC MS : Nat) (h0 : xb_H) (Qr : Int32 → xb_H → Nat → Nat → Prop) (h : xb_H) (bc : Nat) (bs : Nat) (hw : w_World_grow_L50 Qr h bc bs) : xb_am l D A σ 5 MC MS h0 (fun v h bc bs => ∃ r, v = some (.int r) ∧ Qr r h bc bs) (fun _ _ _ _ => False) y_World_grow.cls y_World_grow.name b_World_grow 8 ([] : List ExceptionTableEntry) (some .int) 50 [] [] h bc bs := by
  unfold w_World_grow_L50 at hw
  intro p e s m args below meth c hC H locs ls k n hE hl hR hS hk hn
  obtain ⟨hx, hb, hown, hlocks, htab, hml, hr, hB, hA, hnm⟩ := id hC
  have hts := hB.1.1.at args
  refine lv_iconst (v := (-1)) hx hb (xb_d D_World_grow 26 rfl) (by decide) ?_
  exact xb_iret bc bs hx hb hr hlocks (show k + bc ≤ MC by omega) (show n + bs ≤ MS by omega) hE hR hS (xb_d D_World_grow 27 rfl) hw

set_option maxHeartbeats 4000000 in
set_option maxRecDepth 100000 in
theorem am_World_grow_L21 (l : Launch) (hfl : l.flags = pinnedFlags ++ [noTraceFlag]) (D : va_G) (A : Nat → Prop) (σ MC MS : Nat) (h0 : xb_H) (Qr : Int32 → xb_H → Nat → Nat → Prop) (x0 : Nat) (x1 : Nat) (x2 : Int64) (y0 : Int64) (h : xb_H) (bc : Nat) (bs : Nat) (hw : w_World_grow_L21 Qr x0 x1 x2 y0 h bc bs) : xb_am l D A σ 5 MC MS h0 (fun v h bc bs => ∃ r, v = some (.int r) ∧ Qr r h bc bs) (fun _ _ _ _ => False) y_World_grow.cls y_World_grow.name b_World_grow 8 ([] : List ExceptionTableEntry) (some .int) 21 [(0, .ref x0), (1, .ref x1), (2, .long x2)] [.long y0] h bc bs := by
  unfold w_World_grow_L21 at hw
  intro p e s m args below meth c hC H locs ls k n hE hl hR hS hk hn
  obtain ⟨hx, hb, hown, hlocks, htab, hml, hr, hB, hA, hnm⟩ := id hC
  have hts := hB.1.1.at args
  refine lv_lstore hx hb (xb_d D_World_grow 9 rfl) hl (by decide) rfl (fun ls hl => ?_)
  have hl : lv_has ls 8 [(4, .long y0), (0, .ref x0), (1, .ref x1), (2, .long x2)] := hl
  refine lv_aload_n hx hb (xb_d D_World_grow 10 rfl) rfl (lv_at hl 2 rfl) ?_
  obtain ⟨hk1, hw⟩ := hw
  refine xb_getI (C := R_Memory) (T := F_Memory) (N := 4) hx hb 12 3 hts fin_Memory hown hR hk1 (by decide) rfl (by decide) rfl (hts _ m_727b55dc) (fun _ h9 => h9) (xb_d D_World_grow 11 rfl) ?_
  refine lv_i2l hx hb (xb_d D_World_grow 12 rfl) rfl ?_
  refine lv_lload_n hx hb (xb_d D_World_grow 13 rfl) rfl (lv_at hl 3 rfl) ?_
  refine lv_ladd hx hb (xb_d D_World_grow 14 rfl) ?_
  refine lv_lload hx hb (xb_d D_World_grow 15 rfl) (lv_at hl 0 rfl) ?_
  refine xb_lc_gt (tgt := 50) hx hb (xb_d D_World_grow 16 rfl) (xb_d D_World_grow 17 rfl) rfl (fun hc2 => ?_) (fun hc2 => ?_)
  · have hw := hw.1 hc2
    exact am_World_grow_L50 l hfl D A σ MC MS h0 Qr h bc bs hw p e s m args below meth c hC H locs ls k n hE (lv_sub hl [] rfl) hR hS (by omega) (by omega)
  · have hw := hw.2 hc2
    refine lv_aload_n hx hb (xb_d D_World_grow 18 rfl) rfl (lv_at hl 1 rfl) ?_
    obtain ⟨hk3, hw⟩ := hw
    refine xb_call0 (D := D) (A := A) (σ := σ) (h := h) (d := 2) (maxL := 1) (rest := []) (av := [.ref x0]) (fun T hT X => by obtain ⟨cb9, ra9, rb9, rc9⟩ := xb_recv (ci := 6) hR rfl hk3 (by decide); exact xt_invV X hx hown (hts _ m_c49dc661) (hts _ m_18ec7f73) (hts _ m_0533db1f) (xt_sigOf (hts _ m_a760c7b9)) nm_World_usedPages (by rw [hT]; exact ra9) rb9 rc9 (g := F0 m 37 ls [.ref x0]) rfl (argsL := []) (rest := []) rfl rfl (by rw [hb]; exact (xb_d D_World_grow 19 rfl))) (ok_World_usedPages l hfl D A σ x0 h _ hw) (hml.trans hl.1.symm) (by rw [hb]; exact (xb_d D_World_grow 19 rfl)) (Nat.le_of_ble_eq_true rfl) (Nat.le_of_ble_eq_true rfl) (Nat.le_of_ble_eq_true rfl) (show k ≤ MC by omega) (show n ≤ MS by omega) (xt_w1 hB.1 m_a760c7b9) (xt_cdOf hB.1 m_a760c7b9) (hts _ m_4534b440) hB hR hS hA (fun vv h4 H locs hq hEh4 hR hS => ?_)
    obtain ⟨r5, rfl, hw⟩ := hq
    have hw := hw hEh4
    have hE := hE.tr hEh4
    refine W.eq (g2 := F0 m 40 ls [.int r5]) rfl ?_
    refine lv_i2l hx hb (xb_d D_World_grow 20 rfl) rfl ?_
    refine lv_lload_n hx hb (xb_d D_World_grow 21 rfl) rfl (lv_at hl 3 rfl) ?_
    refine lv_ladd hx hb (xb_d D_World_grow 22 rfl) ?_
    refine lv_ldc2 (v := 16) hx hb hown (hts _ m_c3cad591) (xb_d D_World_grow 23 rfl) ?_
    refine xb_lc_le (tgt := 52) hx hb (xb_d D_World_grow 24 rfl) (xb_d D_World_grow 25 rfl) rfl (fun hc6 => ?_) (fun hc6 => ?_)
    · have hw := hw.1 hc6
      refine lv_aload_n hx hb (xb_d D_World_grow 28 rfl) rfl (lv_at hl 2 rfl) ?_
      have hk1 : xb_k h4 x1 = 13 := hEh4.k hk1
      refine xb_getI (C := R_Memory) (T := F_Memory) (N := 4) hx hb 12 3 hts fin_Memory hown hR hk1 (by decide) rfl (by decide) rfl (hts _ m_727b55dc) (fun _ h9 => h9) (xb_d D_World_grow 29 rfl) ?_
      obtain ⟨v7, ev7⟩ : ∃ x : Int32, x = (xb_i h4 x1 3) := ⟨_, rfl⟩
      have hw := hw v7 ev7
      refine xt_numi (y := v7) ev7.symm ?_
      refine lv_istore hx hb (xb_d D_World_grow 30 rfl) hl (by decide) rfl (fun ls hl => ?_)
      have hl : lv_has ls 8 [(6, .int v7), (4, .long y0), (0, .ref x0), (1, .ref x1), (2, .long x2)] := hl
      refine lv_aload_n hx hb (xb_d D_World_grow 31 rfl) rfl (lv_at hl 2 rfl) ?_
      have hk3 : xb_k h4 x0 = 7 := hEh4.k hk3
      refine xb_getP (C := R_World) (T := F_World) (N := 16) hx hb 6 5 hts fin_World hown hR hk3 (by decide) rfl (by decide) rfl (hts _ m_fb5d2326) (fun _ h9 => h9) (xb_d D_World_grow 32 rfl) ?_
      obtain ⟨b8, eb8, hw⟩ := hw
      refine xb_some eb8 ?_
      refine lv_aload_n hx hb (xb_d D_World_grow 33 rfl) rfl (lv_at hl 2 rfl) ?_
      refine xb_getP (C := R_World) (T := F_World) (N := 16) hx hb 6 5 hts fin_World hown hR hk3 (by decide) rfl (by decide) rfl (hts _ m_fb5d2326) (fun _ h9 => h9) (xb_d D_World_grow 34 rfl) ?_
      obtain ⟨b9, eb9, hw⟩ := hw
      refine xb_some eb9 ?_
      obtain ⟨hk10, hw⟩ := hw
      refine xb_getI (C := R_Row) (T := F_Row) (N := 3) hx hb 1 1 hts fin_Row hown hR hk10 (by decide) rfl (by decide) rfl (hts _ m_98336b3d) (fun _ h9 => h9) (xb_d D_World_grow 35 rfl) ?_
      refine lv_lload_n hx hb (xb_d D_World_grow 36 rfl) rfl (lv_at hl 4 rfl) ?_
      refine lv_l2i hx hb (xb_d D_World_grow 37 rfl) rfl ?_
      refine lv_sipush (v := 8192) hx hb (xb_d D_World_grow 38 rfl) (by decide) ?_
      refine lv_imul hx hb (xb_d D_World_grow 39 rfl) ?_
      refine lv_iadd hx hb (xb_d D_World_grow 40 rfl) ?_
      obtain ⟨hk11, hw⟩ := hw
      refine xb_call (D := D) (A := A) (σ := σ) (h := h4) (d := 3) (mc := bc) (ms := bs) (maxL := 2) (rest := []) (av := [.ref b8, .int ((xb_i h4 b9 1) + ((Int64.toInt32 x2) * 8192))]) (fun T hT X => by obtain ⟨cb9, ra9, rb9, rc9⟩ := xb_recv (ci := 1) hR rfl hk11 (by decide); exact xt_invV X hx hown (hts _ m_13c2b590) (hts _ m_624132aa) (hts _ m_74be88f7) (xt_sigOf (hts _ m_8b494096)) nm_Row_makeRoom (by rw [hT]; exact ra9) rb9 rc9 (g := F0 m 76 ls [.int ((xb_i h4 b9 1) + ((Int64.toInt32 x2) * 8192)), .ref b8]) rfl (argsL := [.int ((xb_i h4 b9 1) + ((Int64.toInt32 x2) * 8192))]) (rest := []) rfl rfl (by rw [hb]; exact (xb_d D_World_grow 41 rfl))) (ok_Row_makeRoom l hfl D A σ b8 ((xb_i h4 b9 1) + ((Int64.toInt32 x2) * 8192)) h4 bc bs _ hw) (hml.trans hl.1.symm) (by rw [hb]; exact (xb_d D_World_grow 41 rfl)) (Nat.le_of_ble_eq_true rfl) (Nat.le_of_ble_eq_true rfl) (Nat.le_of_ble_eq_true rfl) (show k + bc ≤ MC by omega) (show n + bs ≤ MS by omega) (xt_w1 hB.1 m_8b494096) (xt_cdOf hB.1 m_8b494096) (hts _ m_c1bef504) hB hR hS hA (fun vv h12 bc13 bs13 kk13 nn13 H locs hk13 hn13 hq hEh12 hR hS => ?_) (fun XX ax h12 bc13 bs13 kk13 nn13 H locs hk13 hn13 hq hEh12 hex hR hS => ?_)
      · obtain ⟨rfl, hw⟩ := hq
        have hw := hw hEh12
        have hE := hE.tr hEh12
        refine W.eq (g2 := F0 m 79 ls []) rfl ?_
        refine lv_iconst (v := 0) hx hb (xb_d D_World_grow 42 rfl) (by decide) ?_
        refine lv_istore hx hb (xb_d D_World_grow 43 rfl) hl (by decide) rfl (fun ls hl => ?_)
        have hl : lv_has ls 8 [(7, .int 0), (6, .int v7), (4, .long y0), (0, .ref x0), (1, .ref x1), (2, .long x2)] := hl
        obtain ⟨n8, hw⟩ := hw
        exact am_World_grow_L82 l hfl D A σ MC MS h0 Qr n8 x0 x1 x2 v7 0 h12 bc13 bs13 hw p e s m args below meth c hC H locs ls (k + kk13) (n + nn13) hE (lv_sub hl [3, 4, 5, 1, 0] rfl) hR hS (by omega) (by omega)
      · exact False.elim hq
    · have hw := hw.2 hc6
      exact am_World_grow_L50 l hfl D A σ MC MS h0 Qr h4 bc bs hw p e s m args below meth c hC H locs ls k n hE (lv_sub hl [] rfl) hR hS (by omega) (by omega)

set_option maxHeartbeats 4000000 in
set_option maxRecDepth 100000 in
theorem ok_World_grow (l : Launch) (hfl : l.flags = pinnedFlags ++ [noTraceFlag]) (D : va_G) (A : Nat → Prop) (σ : Nat) (x0 : Nat) (x1 : Nat) (x2 : Int64) (h : xb_H) (bc : Nat) (bs : Nat) (Qr : Int32 → xb_H → Nat → Nat → Prop) (hw : w_World_grow x0 x1 x2 h bc bs Qr) : xb_Met l y_World_grow [.code y_World_grow b_World_grow 8 (some .int)] (xb_rm 5 bc bs) (xb_Pc D A σ h [.ref x0, .ref x1, .long x2]) (xb_Qc D A h bc bs (fun v h bc bs => ∃ r, v = some (.int r) ∧ Qr r h bc bs) (fun _ _ _ _ => False)) A := by
  refine xb_ofAm (cc := b_World_grow) (by decide) (Nat.le_of_ble_eq_true rfl) ?_
  unfold w_World_grow at hw
  show xb_am l D A σ 5 bc bs h (fun v h bc bs => ∃ r, v = some (.int r) ∧ Qr r h bc bs) (fun _ _ _ _ => False) y_World_grow.cls y_World_grow.name b_World_grow 8 ([] : List ExceptionTableEntry) (some .int) 0 [(0, .ref x0), (1, .ref x1), (2, .long x2)] [] h bc bs
  obtain ⟨MC, hMC⟩ : ∃ x, x = bc := ⟨_, rfl⟩
  obtain ⟨MS, hMS⟩ : ∃ x, x = bs := ⟨_, rfl⟩
  rw [show xb_am l D A σ 5 bc bs = xb_am l D A σ 5 MC MS by rw [hMC, hMS]]
  obtain ⟨h0, hh0⟩ : ∃ x, x = h := ⟨_, rfl⟩
  rw [show xb_am l D A σ 5 MC MS h = xb_am l D A σ 5 MC MS h0 by rw [hh0]]
  intro p e s m args below meth c hC H locs ls k n hE hl hR hS hk hn
  obtain ⟨hx, hb, hown, hlocks, htab, hml, hr, hB, hA, hnm⟩ := id hC
  have hts := hB.1.1.at args
  refine lv_aload_n hx hb (xb_d D_World_grow 0 rfl) rfl (lv_at hl 1 rfl) ?_
  obtain ⟨hk1, hw⟩ := hw
  refine xb_getL (C := R_Memory) (T := F_Memory) (N := 4) hx hb 12 1 hts fin_Memory hown hR hk1 (by decide) rfl (by decide) rfl (hts _ m_0c6c8267) (fun _ h9 => h9) (xb_d D_World_grow 1 rfl) ?_
  refine lv_ldc2 (v := (-1)) hx hb hown (hts _ m_c3be9c29) (xb_d D_World_grow 2 rfl) ?_
  refine xb_lc_ne (tgt := 17) hx hb (xb_d D_World_grow 3 rfl) (xb_d D_World_grow 4 rfl) rfl (fun hc2 => ?_) (fun hc2 => ?_)
  · have hw := hw.1 hc2
    refine lv_aload_n hx hb (xb_d D_World_grow 7 rfl) rfl (lv_at hl 1 rfl) ?_
    refine xb_getL (C := R_Memory) (T := F_Memory) (N := 4) hx hb 12 1 hts fin_Memory hown hR hk1 (by decide) rfl (by decide) rfl (hts _ m_0c6c8267) (fun _ h9 => h9) (xb_d D_World_grow 8 rfl) ?_
    exact am_World_grow_L21 l hfl D A σ MC MS h0 Qr x0 x1 x2 (xb_l h x1 1) h bc bs hw p e s m args below meth c hC H locs ls k n hE (lv_sub hl [0, 1, 2] rfl) hR hS (by omega) (by omega)
  · have hw := hw.2 hc2
    refine lv_ldc2 (v := 65536) hx hb hown (hts _ m_281426cf) (xb_d D_World_grow 5 rfl) ?_
    refine lv_goto (tgt := 21) hx hb (xb_d D_World_grow 6 rfl) rfl ?_
    exact am_World_grow_L21 l hfl D A σ MC MS h0 Qr x0 x1 x2 65536 h bc bs hw p e s m args below meth c hC H locs ls k n hE (lv_sub hl [0, 1, 2] rfl) hR hS (by omega) (by omega)

theorem m_a8649526 : (.fieldLinkNest "StackHost$World" 162 "StackHost" "HOST_EXPORTS" "[B" "StackHost" : Cond) ∈ xt_tbl := xt_in (xt_t6 (List.mem_of_getElem? (i := 129) (by decide +kernel))) (by decide +kernel)
theorem m_73c47404 : (.fieldLink "StackHost$World" 102 "StackHost$StackModule" "imports" "LStackHost$Row;" : Cond) ∈ xt_tbl := xt_in (xt_t3 (List.mem_of_getElem? (i := 62) (by decide +kernel))) (by decide +kernel)
theorem m_d735d8e6 : (.methodLink "StackHost$World" 169 y_World_fits : Cond) ∈ xt_tbl := xt_in (xt_t6 (List.mem_of_getElem? (i := 132) (by decide +kernel))) (by decide +kernel)
set_option maxRecDepth 100000 in
def T_World_lookUpAtHost : List (Nat × Instr × Nat) := [(0, .iconst (-1), 1), (1, .istore_n 3, 1), (2, .iconst 0, 1), (3, .istore 4, 2), (5, .iload 4, 2), (7, .getstatic 162, 3), (10, .arraylength, 1), (11, .if_icmp .ge 49, 3), (14, .aload_n 1, 1), (15, .getfield 102, 3), (18, .iload_n 2, 1), (19, .bipush 6, 2), (21, .invokevirtual 51, 3), (24, .iconst 1, 1), (25, .if_icmp .ne 29, 3), (28, .aload_n 1, 1), (29, .getfield 138, 3), (32, .aload_n 1, 1), (33, .getfield 102, 3), (36, .iload_n 2, 1), (37, .iconst 5, 1), (38, .invokevirtual 51, 3), (41, .baload, 1), (42, .getstatic 162, 3), (45, .iload 4, 2), (47, .baload, 1), (48, .if_icmp .ne 6, 3), (51, .iload 4, 2), (53, .istore_n 3, 1), (54, .iinc 4 1, 3), (57, .goto (-52), 3), (60, .iload_n 3, 1), (61, .iconst (-1), 1), (62, .if_icmp .ne 6, 3), (65, .bipush 42, 2), (67, .ireturn, 1), (68, .aload_n 1, 1), (69, .getfield 102, 3), (72, .iload_n 2, 1), (73, .iconst 1, 1), (74, .invokevirtual 51, 3), (77, .ifCond .eq 6, 3), (80, .bipush 43, 2), (82, .ireturn, 1), (83, .aload_n 1, 1), (84, .aload_n 1, 1), (85, .getfield 102, 3), (88, .iload_n 2, 1), (89, .iconst 2, 1), (90, .invokevirtual 51, 3), (93, .invokevirtual 165, 3), (96, .istore 4, 2), (98, .aload_n 0, 1), (99, .sipush 8192, 3), (102, .iload_n 3, 1), (103, .iadd, 1), (104, .aload_n 1, 1), (105, .iload 4, 2), (107, .invokevirtual 169, 3), (110, .ifCond .ne 6, 3), (113, .bipush 43, 2), (115, .ireturn, 1), (116, .aload_n 0, 1), (117, .getfield 45, 3), (120, .sipush 8192, 3), (123, .iload_n 3, 1), (124, .iadd, 1), (125, .i2l, 1), (126, .invokevirtual 71, 3), (129, .iconst 0, 1), (130, .ireturn, 1)]
theorem D_World_lookUpAtHost : ∀ q ∈ T_World_lookUpAtHost, decode b_World_lookUpAtHost q.1 = .ok (q.2.1, q.2.2) := by decide +kernel

set_option maxHeartbeats 4000000 in
set_option maxRecDepth 100000 in
theorem am_World_lookUpAtHost_L54 (l : Launch) (hfl : l.flags = pinnedFlags ++ [noTraceFlag]) (D : va_G) (A : Nat → Prop) (σ MC MS : Nat) (h0 : xb_H) (Qr : Int32 → xb_H → Nat → Nat → Prop) (K5 : Nat → Nat → Int32 → Int32 → Int32 → xb_H → Nat → Nat → Prop) (hK5 : ∀ (x0 : Nat) (x1 : Nat) (x2 : Int32) (x3 : Int32) (x4 : Int32) (h : xb_H) (bc : Nat) (bs : Nat), K5 x0 x1 x2 x3 x4 h bc bs → xb_am l D A σ 5 MC MS h0 (fun v h bc bs => ∃ r, v = some (.int r) ∧ Qr r h bc bs) (fun _ _ _ _ => False) y_World_lookUpAtHost.cls y_World_lookUpAtHost.name b_World_lookUpAtHost 5 ([] : List ExceptionTableEntry) (some .int) 5 [(0, .ref x0), (1, .ref x1), (2, .int x2), (3, .int x3), (4, .int x4)] [] h bc bs) (x0 : Nat) (x1 : Nat) (x2 : Int32) (x3 : Int32) (x4 : Int32) (h : xb_H) (bc : Nat) (bs : Nat) (hw : w_World_lookUpAtHost_L54 K5 Qr x0 x1 x2 x3 x4 h bc bs) : xb_am l D A σ 5 MC MS h0 (fun v h bc bs => ∃ r, v = some (.int r) ∧ Qr r h bc bs) (fun _ _ _ _ => False) y_World_lookUpAtHost.cls y_World_lookUpAtHost.name b_World_lookUpAtHost 5 ([] : List ExceptionTableEntry) (some .int) 54 [(0, .ref x0), (1, .ref x1), (2, .int x2), (3, .int x3), (4, .int x4)] [] h bc bs := by
  unfold w_World_lookUpAtHost_L54 at hw
  intro p e s m args below meth c hC H locs ls k n hE hl hR hS hk hn
  obtain ⟨hx, hb, hown, hlocks, htab, hml, hr, hB, hA, hnm⟩ := id hC
  have hts := hB.1.1.at args
  refine lv_iinc (v := (x4 + 1)) (k := 4) hx hb (xb_d D_World_lookUpAtHost 29 rfl) hl rfl (by first | rfl | decide) (by decide) rfl (fun ls hl => ?_)
  have hl : lv_has ls 5 [(4, .int (x4 + 1)), (0, .ref x0), (1, .ref x1), (2, .int x2), (3, .int x3)] := hl
  refine lv_goto (tgt := 5) hx hb (xb_d D_World_lookUpAtHost 30 rfl) rfl ?_
  exact hK5 x0 x1 x2 x3 (x4 + 1) h bc bs hw p e s m args below meth c hC H locs ls k n hE (lv_sub hl [1, 2, 3, 4, 0] rfl) hR hS (by omega) (by omega)

set_option maxHeartbeats 4000000 in
set_option maxRecDepth 100000 in
theorem am_World_lookUpAtHost_L5 (l : Launch) (hfl : l.flags = pinnedFlags ++ [noTraceFlag]) (D : va_G) (A : Nat → Prop) (σ MC MS : Nat) (h0 : xb_H) (Qr : Int32 → xb_H → Nat → Nat → Prop) (n9 : Nat) : ∀ (x0 : Nat) (x1 : Nat) (x2 : Int32) (x3 : Int32) (x4 : Int32) (h : xb_H) (bc : Nat) (bs : Nat), w_World_lookUpAtHost_L5 Qr n9 x0 x1 x2 x3 x4 h bc bs → xb_am l D A σ 5 MC MS h0 (fun v h bc bs => ∃ r, v = some (.int r) ∧ Qr r h bc bs) (fun _ _ _ _ => False) y_World_lookUpAtHost.cls y_World_lookUpAtHost.name b_World_lookUpAtHost 5 ([] : List ExceptionTableEntry) (some .int) 5 [(0, .ref x0), (1, .ref x1), (2, .int x2), (3, .int x3), (4, .int x4)] [] h bc bs := by
  induction n9 with
  | zero => intro x0 x1 x2 x3 x4 h bc bs hw; exact False.elim hw
  | succ n9 ih =>
    intro x0 x1 x2 x3 x4 h bc bs hw
    unfold w_World_lookUpAtHost_L5 at hw
    intro p e s m args below meth c hC H locs ls k n hE hl hR hS hk hn
    obtain ⟨hx, hb, hown, hlocks, htab, hml, hr, hB, hA, hnm⟩ := id hC
    have hts := hB.1.1.at args
    refine lv_iload hx hb (xb_d D_World_lookUpAtHost 4 rfl) (lv_at hl 4 rfl) ?_
    obtain ⟨tt1, hZtt1, hTtt1⟩ := hB.2.2.2.2.1
    refine va_getsN hx hb hZtt1 hS hown (hts _ m_a8649526) (fun _ h9 => h9) (xb_d D_World_lookUpAtHost 5 rfl) ?_
    refine va_tlen (v := 4) hx hb hTtt1 hS (by decide +kernel) (xb_d D_World_lookUpAtHost 6 rfl) ?_
    refine lv_icmp_ge (tgt := 60) hx hb (xb_d D_World_lookUpAtHost 7 rfl) rfl (fun hc2 => ?_) (fun hc2 => ?_)
    · have hw := hw.1 hc2
      refine lv_iload_n hx hb (xb_d D_World_lookUpAtHost 31 rfl) rfl (lv_at hl 3 rfl) ?_
      refine lv_iconst (v := (-1)) hx hb (xb_d D_World_lookUpAtHost 32 rfl) (by decide) ?_
      refine lv_icmp_ne (tgt := 68) hx hb (xb_d D_World_lookUpAtHost 33 rfl) rfl (fun hc3 => ?_) (fun hc3 => ?_)
      · have hw := hw.1 hc3
        refine lv_aload_n hx hb (xb_d D_World_lookUpAtHost 36 rfl) rfl (lv_at hl 1 rfl) ?_
        obtain ⟨hk4, hw⟩ := hw
        refine xb_getP (C := R_StackModule) (T := F_StackModule) (N := 19) hx hb 2 3 hts fin_StackModule hown hR hk4 (by decide) rfl (by decide) rfl (hts _ m_73c47404) (fun _ h9 => h9) (xb_d D_World_lookUpAtHost 37 rfl) ?_
        obtain ⟨b5, eb5, hw⟩ := hw
        refine xb_some eb5 ?_
        refine lv_iload_n hx hb (xb_d D_World_lookUpAtHost 38 rfl) rfl (lv_at hl 2 rfl) ?_
        refine lv_iconst (v := 1) hx hb (xb_d D_World_lookUpAtHost 39 rfl) (by decide) ?_
        obtain ⟨hk6, hw⟩ := hw
        refine xb_call0 (D := D) (A := A) (σ := σ) (h := h) (d := 2) (maxL := 3) (rest := []) (av := [.ref b5, .int x2, .int 1]) (fun T hT X => by obtain ⟨cb9, ra9, rb9, rc9⟩ := xb_recv (ci := 1) hR rfl hk6 (by decide); exact xt_invV X hx hown (hts _ m_ad29ee25) (hts _ m_8e233096) (hts _ m_27eed10c) (xt_sigOf (hts _ m_ff1c70ae)) nm_Row_at (by rw [hT]; exact ra9) rb9 rc9 (g := F0 m 74 ls [.int 1, .int x2, .ref b5]) rfl (argsL := [.int x2, .int 1]) (rest := []) rfl rfl (by rw [hb]; exact (xb_d D_World_lookUpAtHost 40 rfl))) (ok_Row_at l hfl D A σ b5 x2 1 h _ hw) (hml.trans hl.1.symm) (by rw [hb]; exact (xb_d D_World_lookUpAtHost 40 rfl)) (Nat.le_of_ble_eq_true rfl) (Nat.le_of_ble_eq_true rfl) (Nat.le_of_ble_eq_true rfl) (show k ≤ MC by omega) (show n ≤ MS by omega) (xt_w1 hB.1 m_ff1c70ae) (xt_cdOf hB.1 m_ff1c70ae) (hts _ m_c1bef504) hB hR hS hA (fun vv h7 H locs hq hEh7 hR hS => ?_)
        obtain ⟨r8, rfl, hw⟩ := hq
        have hw := hw hEh7
        have hE := hE.tr hEh7
        refine W.eq (g2 := F0 m 77 ls [.int r8]) rfl ?_
        refine lv_if_eq (tgt := 83) hx hb (xb_d D_World_lookUpAtHost 41 rfl) rfl (fun hc9 => ?_) (fun hc9 => ?_)
        · have hw := hw.1 hc9
          refine lv_aload_n hx hb (xb_d D_World_lookUpAtHost 44 rfl) rfl (lv_at hl 1 rfl) ?_
          refine lv_aload_n hx hb (xb_d D_World_lookUpAtHost 45 rfl) rfl (lv_at hl 1 rfl) ?_
          have hk4 : xb_k h7 x1 = 3 := hEh7.k hk4
          refine xb_getP (C := R_StackModule) (T := F_StackModule) (N := 19) hx hb 2 3 hts fin_StackModule hown hR hk4 (by decide) rfl (by decide) rfl (hts _ m_73c47404) (fun _ h9 => h9) (xb_d D_World_lookUpAtHost 46 rfl) ?_
          obtain ⟨b10, eb10, hw⟩ := hw
          refine xb_some eb10 ?_
          refine lv_iload_n hx hb (xb_d D_World_lookUpAtHost 47 rfl) rfl (lv_at hl 2 rfl) ?_
          refine lv_iconst (v := 2) hx hb (xb_d D_World_lookUpAtHost 48 rfl) (by decide) ?_
          obtain ⟨hk11, hw⟩ := hw
          refine xb_call0 (D := D) (A := A) (σ := σ) (h := h7) (d := 2) (maxL := 3) (rest := [.ref x1]) (av := [.ref b10, .int x2, .int 2]) (fun T hT X => by obtain ⟨cb9, ra9, rb9, rc9⟩ := xb_recv (ci := 1) hR rfl hk11 (by decide); exact xt_invV X hx hown (hts _ m_ad29ee25) (hts _ m_8e233096) (hts _ m_27eed10c) (xt_sigOf (hts _ m_ff1c70ae)) nm_Row_at (by rw [hT]; exact ra9) rb9 rc9 (g := F0 m 90 ls [.int 2, .int x2, .ref b10, .ref x1]) rfl (argsL := [.int x2, .int 2]) (rest := [.ref x1]) rfl rfl (by rw [hb]; exact (xb_d D_World_lookUpAtHost 49 rfl))) (ok_Row_at l hfl D A σ b10 x2 2 h7 _ hw) (hml.trans hl.1.symm) (by rw [hb]; exact (xb_d D_World_lookUpAtHost 49 rfl)) (Nat.le_of_ble_eq_true rfl) (Nat.le_of_ble_eq_true rfl) (Nat.le_of_ble_eq_true rfl) (show k ≤ MC by omega) (show n ≤ MS by omega) (xt_w1 hB.1 m_ff1c70ae) (xt_cdOf hB.1 m_ff1c70ae) (hts _ m_c1bef504) hB hR hS hA (fun vv h12 H locs hq hEh12 hR hS => ?_)
          obtain ⟨r13, rfl, hw⟩ := hq
          have hw := hw hEh12
          have hE := hE.tr hEh12
          refine W.eq (g2 := F0 m 93 ls [.int r13, .ref x1]) rfl ?_
          have hk4 : xb_k h12 x1 = 3 := hEh12.k hk4
          refine xb_call0 (D := D) (A := A) (σ := σ) (h := h12) (d := 3) (maxL := 2) (rest := []) (av := [.ref x1, .int r13]) (fun T hT X => by obtain ⟨cb9, ra9, rb9, rc9⟩ := xb_recv (ci := 2) hR rfl hk4 (by decide); exact xt_invV X hx hown (hts _ m_a6959a1f) (hts _ m_eb5729e5) (hts _ m_9cf0d8be) (xt_sigOf (hts _ m_42e2443a)) nm_StackModule_typeOf (by rw [hT]; exact ra9) rb9 rc9 (g := F0 m 93 ls [.int r13, .ref x1]) rfl (argsL := [.int r13]) (rest := []) rfl rfl (by rw [hb]; exact (xb_d D_World_lookUpAtHost 50 rfl))) (ok_StackModule_typeOf l hfl D A σ x1 r13 h12 _ hw) (hml.trans hl.1.symm) (by rw [hb]; exact (xb_d D_World_lookUpAtHost 50 rfl)) (Nat.le_of_ble_eq_true rfl) (Nat.le_of_ble_eq_true rfl) (Nat.le_of_ble_eq_true rfl) (show k ≤ MC by omega) (show n ≤ MS by omega) (xt_w1 hB.1 m_42e2443a) (xt_cdOf hB.1 m_42e2443a) (hts _ m_9c375545) hB hR hS hA (fun vv h14 H locs hq hEh14 hR hS => ?_)
          obtain ⟨r15, rfl, hw⟩ := hq
          have hw := hw hEh14
          have hE := hE.tr hEh14
          refine W.eq (g2 := F0 m 96 ls [.int r15]) rfl ?_
          refine lv_istore hx hb (xb_d D_World_lookUpAtHost 51 rfl) hl (by decide) rfl (fun ls hl => ?_)
          have hl : lv_has ls 5 [(4, .int r15), (0, .ref x0), (1, .ref x1), (2, .int x2), (3, .int x3)] := hl
          refine lv_aload_n hx hb (xb_d D_World_lookUpAtHost 52 rfl) rfl (lv_at hl 1 rfl) ?_
          refine lv_sipush (v := 8192) hx hb (xb_d D_World_lookUpAtHost 53 rfl) (by decide) ?_
          refine lv_iload_n hx hb (xb_d D_World_lookUpAtHost 54 rfl) rfl (lv_at hl 4 rfl) ?_
          refine lv_iadd hx hb (xb_d D_World_lookUpAtHost 55 rfl) ?_
          refine lv_aload_n hx hb (xb_d D_World_lookUpAtHost 56 rfl) rfl (lv_at hl 2 rfl) ?_
          refine lv_iload hx hb (xb_d D_World_lookUpAtHost 57 rfl) (lv_at hl 0 rfl) ?_
          obtain ⟨hk16, hw⟩ := hw
          refine xb_call0 (D := D) (A := A) (σ := σ) (h := h14) (d := 4) (maxL := 5) (rest := []) (av := [.ref x0, .int (8192 + x3), .ref x1, .int r15]) (fun T hT X => by obtain ⟨cb9, ra9, rb9, rc9⟩ := xb_recv (ci := 6) hR rfl hk16 (by decide); exact xt_invV X hx hown (hts _ m_d735d8e6) (hts _ m_694f954f) (hts _ m_d14fe5df) (xt_sigOf (hts _ m_af77d148)) nm_World_fits (by rw [hT]; exact ra9) rb9 rc9 (g := F0 m 107 ls [.int r15, .ref x1, .int (8192 + x3), .ref x0]) rfl (argsL := [.int (8192 + x3), .ref x1, .int r15]) (rest := []) rfl rfl (by rw [hb]; exact (xb_d D_World_lookUpAtHost 58 rfl))) (ok_World_fits l hfl D A σ x0 (8192 + x3) x1 r15 h14 _ hw) (hml.trans hl.1.symm) (by rw [hb]; exact (xb_d D_World_lookUpAtHost 58 rfl)) (Nat.le_of_ble_eq_true rfl) (Nat.le_of_ble_eq_true rfl) (Nat.le_of_ble_eq_true rfl) (show k ≤ MC by omega) (show n ≤ MS by omega) (xt_w1 hB.1 m_af77d148) (xt_cdOf hB.1 m_af77d148) (hts _ m_4534b440) hB hR hS hA (fun vv h17 H locs hq hEh17 hR hS => ?_)
          obtain ⟨r18, rfl, hw⟩ := hq
          have hw := hw hEh17
          have hE := hE.tr hEh17
          refine W.eq (g2 := F0 m 110 ls [.int r18]) rfl ?_
          refine lv_if_ne (tgt := 116) hx hb (xb_d D_World_lookUpAtHost 59 rfl) rfl (fun hc19 => ?_) (fun hc19 => ?_)
          · have hw := hw.1 hc19
            refine lv_aload_n hx hb (xb_d D_World_lookUpAtHost 62 rfl) rfl (lv_at hl 1 rfl) ?_
            have hk16 : xb_k h17 x0 = 7 := hEh17.k hk16
            refine xb_getP (C := R_World) (T := F_World) (N := 16) hx hb 6 12 hts fin_World hown hR hk16 (by decide) rfl (by decide) rfl (hts _ m_62e44650) (fun _ h9 => h9) (xb_d D_World_lookUpAtHost 63 rfl) ?_
            obtain ⟨b20, eb20, hw⟩ := hw
            refine xb_some eb20 ?_
            refine lv_sipush (v := 8192) hx hb (xb_d D_World_lookUpAtHost 64 rfl) (by decide) ?_
            refine lv_iload_n hx hb (xb_d D_World_lookUpAtHost 65 rfl) rfl (lv_at hl 4 rfl) ?_
            refine lv_iadd hx hb (xb_d D_World_lookUpAtHost 66 rfl) ?_
            refine lv_i2l hx hb (xb_d D_World_lookUpAtHost 67 rfl) rfl ?_
            obtain ⟨hk21, hw⟩ := hw
            refine xb_call (D := D) (A := A) (σ := σ) (h := h17) (d := 4) (mc := bc) (ms := bs) (maxL := 3) (rest := []) (av := [.ref b20, .long (Int32.toInt64 (8192 + x3))]) (fun T hT X => by obtain ⟨cb9, ra9, rb9, rc9⟩ := xb_recv (ci := 1) hR rfl hk21 (by decide); exact xt_invV X hx hown (hts _ m_6ab0aa52) (hts _ m_7e8d081f) (hts _ m_4e47f51a) (xt_sigOf (hts _ m_4f1bdc54)) nm_Row_add (by rw [hT]; exact ra9) rb9 rc9 (g := F0 m 126 ls [.long (Int32.toInt64 (8192 + x3)), .ref b20]) rfl (argsL := [.long (Int32.toInt64 (8192 + x3))]) (rest := []) rfl rfl (by rw [hb]; exact (xb_d D_World_lookUpAtHost 68 rfl))) (ok_Row_add l hfl D A σ b20 (Int32.toInt64 (8192 + x3)) h17 bc bs _ hw) (hml.trans hl.1.symm) (by rw [hb]; exact (xb_d D_World_lookUpAtHost 68 rfl)) (Nat.le_of_ble_eq_true rfl) (Nat.le_of_ble_eq_true rfl) (Nat.le_of_ble_eq_true rfl) (show k + bc ≤ MC by omega) (show n + bs ≤ MS by omega) (xt_w1 hB.1 m_4f1bdc54) (xt_cdOf hB.1 m_4f1bdc54) (hts _ m_c1bef504) hB hR hS hA (fun vv h22 bc23 bs23 kk23 nn23 H locs hk23 hn23 hq hEh22 hR hS => ?_) (fun XX ax h22 bc23 bs23 kk23 nn23 H locs hk23 hn23 hq hEh22 hex hR hS => ?_)
            · obtain ⟨rfl, hw⟩ := hq
              have hw := hw hEh22
              have hE := hE.tr hEh22
              refine W.eq (g2 := F0 m 129 ls []) rfl ?_
              refine lv_iconst (v := 0) hx hb (xb_d D_World_lookUpAtHost 69 rfl) (by decide) ?_
              exact xb_iret bc23 bs23 hx hb hr hlocks (show (k + kk23) + bc23 ≤ MC by omega) (show (n + nn23) + bs23 ≤ MS by omega) hE hR hS (xb_d D_World_lookUpAtHost 70 rfl) hw
            · exact False.elim hq
          · have hw := hw.2 hc19
            refine lv_bipush (v := 43) hx hb (xb_d D_World_lookUpAtHost 60 rfl) (by decide) ?_
            exact xb_iret bc bs hx hb hr hlocks (show k + bc ≤ MC by omega) (show n + bs ≤ MS by omega) hE hR hS (xb_d D_World_lookUpAtHost 61 rfl) hw
        · have hw := hw.2 hc9
          refine lv_bipush (v := 43) hx hb (xb_d D_World_lookUpAtHost 42 rfl) (by decide) ?_
          exact xb_iret bc bs hx hb hr hlocks (show k + bc ≤ MC by omega) (show n + bs ≤ MS by omega) hE hR hS (xb_d D_World_lookUpAtHost 43 rfl) hw
      · have hw := hw.2 hc3
        refine lv_bipush (v := 42) hx hb (xb_d D_World_lookUpAtHost 34 rfl) (by decide) ?_
        exact xb_iret bc bs hx hb hr hlocks (show k + bc ≤ MC by omega) (show n + bs ≤ MS by omega) hE hR hS (xb_d D_World_lookUpAtHost 35 rfl) hw
    · have hw := hw.2 hc2
      refine lv_aload_n hx hb (xb_d D_World_lookUpAtHost 8 rfl) rfl (lv_at hl 1 rfl) ?_
      obtain ⟨hk24, hw⟩ := hw
      refine xb_getP (C := R_StackModule) (T := F_StackModule) (N := 19) hx hb 2 3 hts fin_StackModule hown hR hk24 (by decide) rfl (by decide) rfl (hts _ m_73c47404) (fun _ h9 => h9) (xb_d D_World_lookUpAtHost 9 rfl) ?_
      obtain ⟨b25, eb25, hw⟩ := hw
      refine xb_some eb25 ?_
      refine lv_iload_n hx hb (xb_d D_World_lookUpAtHost 10 rfl) rfl (lv_at hl 2 rfl) ?_
      refine lv_bipush (v := 6) hx hb (xb_d D_World_lookUpAtHost 11 rfl) (by decide) ?_
      obtain ⟨hk26, hw⟩ := hw
      refine xb_call0 (D := D) (A := A) (σ := σ) (h := h) (d := 2) (maxL := 3) (rest := []) (av := [.ref b25, .int x2, .int 6]) (fun T hT X => by obtain ⟨cb9, ra9, rb9, rc9⟩ := xb_recv (ci := 1) hR rfl hk26 (by decide); exact xt_invV X hx hown (hts _ m_ad29ee25) (hts _ m_8e233096) (hts _ m_27eed10c) (xt_sigOf (hts _ m_ff1c70ae)) nm_Row_at (by rw [hT]; exact ra9) rb9 rc9 (g := F0 m 21 ls [.int 6, .int x2, .ref b25]) rfl (argsL := [.int x2, .int 6]) (rest := []) rfl rfl (by rw [hb]; exact (xb_d D_World_lookUpAtHost 12 rfl))) (ok_Row_at l hfl D A σ b25 x2 6 h _ hw) (hml.trans hl.1.symm) (by rw [hb]; exact (xb_d D_World_lookUpAtHost 12 rfl)) (Nat.le_of_ble_eq_true rfl) (Nat.le_of_ble_eq_true rfl) (Nat.le_of_ble_eq_true rfl) (show k ≤ MC by omega) (show n ≤ MS by omega) (xt_w1 hB.1 m_ff1c70ae) (xt_cdOf hB.1 m_ff1c70ae) (hts _ m_c1bef504) hB hR hS hA (fun vv h27 H locs hq hEh27 hR hS => ?_)
      obtain ⟨r28, rfl, hw⟩ := hq
      have hw := hw hEh27
      have hE := hE.tr hEh27
      refine W.eq (g2 := F0 m 24 ls [.int r28]) rfl ?_
      refine lv_iconst (v := 1) hx hb (xb_d D_World_lookUpAtHost 13 rfl) (by decide) ?_
      refine lv_icmp_ne (tgt := 54) hx hb (xb_d D_World_lookUpAtHost 14 rfl) rfl (fun hc29 => ?_) (fun hc29 => ?_)
      · have hw := hw.1 hc29
        exact am_World_lookUpAtHost_L54 l hfl D A σ MC MS h0 Qr (w_World_lookUpAtHost_L5 Qr n9) ih x0 x1 x2 x3 x4 h27 bc bs hw p e s m args below meth c hC H locs ls k n hE (lv_sub hl [0, 1, 2, 3, 4] rfl) hR hS (by omega) (by omega)
      · have hw := hw.2 hc29
        refine lv_aload_n hx hb (xb_d D_World_lookUpAtHost 15 rfl) rfl (lv_at hl 1 rfl) ?_
        have hk24 : xb_k h27 x1 = 3 := hEh27.k hk24
        refine xb_getP (C := R_StackModule) (T := F_StackModule) (N := 19) hx hb 2 0 hts fin_StackModule hown hR hk24 (by decide) rfl (by decide) rfl (hts _ m_7aa5c58a) (fun _ h9 => h9) (xb_d D_World_lookUpAtHost 16 rfl) ?_
        obtain ⟨b30, eb30, hw⟩ := hw
        refine xb_some eb30 ?_
        refine lv_aload_n hx hb (xb_d D_World_lookUpAtHost 17 rfl) rfl (lv_at hl 1 rfl) ?_
        refine xb_getP (C := R_StackModule) (T := F_StackModule) (N := 19) hx hb 2 3 hts fin_StackModule hown hR hk24 (by decide) rfl (by decide) rfl (hts _ m_73c47404) (fun _ h9 => h9) (xb_d D_World_lookUpAtHost 18 rfl) ?_
        obtain ⟨b31, eb31, hw⟩ := hw
        refine xb_some eb31 ?_
        refine lv_iload_n hx hb (xb_d D_World_lookUpAtHost 19 rfl) rfl (lv_at hl 2 rfl) ?_
        refine lv_iconst (v := 5) hx hb (xb_d D_World_lookUpAtHost 20 rfl) (by decide) ?_
        obtain ⟨hk32, hw⟩ := hw
        refine xb_call0 (D := D) (A := A) (σ := σ) (h := h27) (d := 2) (maxL := 3) (rest := [.ref b30]) (av := [.ref b31, .int x2, .int 5]) (fun T hT X => by obtain ⟨cb9, ra9, rb9, rc9⟩ := xb_recv (ci := 1) hR rfl hk32 (by decide); exact xt_invV X hx hown (hts _ m_ad29ee25) (hts _ m_8e233096) (hts _ m_27eed10c) (xt_sigOf (hts _ m_ff1c70ae)) nm_Row_at (by rw [hT]; exact ra9) rb9 rc9 (g := F0 m 38 ls [.int 5, .int x2, .ref b31, .ref b30]) rfl (argsL := [.int x2, .int 5]) (rest := [.ref b30]) rfl rfl (by rw [hb]; exact (xb_d D_World_lookUpAtHost 21 rfl))) (ok_Row_at l hfl D A σ b31 x2 5 h27 _ hw) (hml.trans hl.1.symm) (by rw [hb]; exact (xb_d D_World_lookUpAtHost 21 rfl)) (Nat.le_of_ble_eq_true rfl) (Nat.le_of_ble_eq_true rfl) (Nat.le_of_ble_eq_true rfl) (show k ≤ MC by omega) (show n ≤ MS by omega) (xt_w1 hB.1 m_ff1c70ae) (xt_cdOf hB.1 m_ff1c70ae) (hts _ m_c1bef504) hB hR hS hA (fun vv h33 H locs hq hEh33 hR hS => ?_)
        obtain ⟨r34, rfl, hw⟩ := hq
        have hw := hw hEh33
        have hE := hE.tr hEh33
        refine W.eq (g2 := F0 m 41 ls [.int r34, .ref b30]) rfl ?_
        obtain ⟨hk36, hw⟩ := hw
        obtain ⟨hi35, hw⟩ := hw
        refine xb_bald hx hb hR hk36 hi35 (xb_d D_World_lookUpAtHost 22 rfl) ?_
        obtain ⟨tt37, hZtt37, hTtt37⟩ := hB.2.2.2.2.1
        refine va_getsN hx hb hZtt37 hS hown (hts _ m_a8649526) (fun _ h9 => h9) (xb_d D_World_lookUpAtHost 23 rfl) ?_
        refine lv_iload hx hb (xb_d D_World_lookUpAtHost 24 rfl) (lv_at hl 4 rfl) ?_
        obtain ⟨hi38, hw⟩ := hw
        refine va_tb (v := .int (xb_cHX.getD (Int32.toNatClampNeg x4) 0)) hx hb hTtt37 hS hi38 rfl (xb_d D_World_lookUpAtHost 25 rfl) ?_
        refine lv_icmp_ne (tgt := 54) hx hb (xb_d D_World_lookUpAtHost 26 rfl) rfl (fun hc39 => ?_) (fun hc39 => ?_)
        · have hw := hw.1 hc39
          exact am_World_lookUpAtHost_L54 l hfl D A σ MC MS h0 Qr (w_World_lookUpAtHost_L5 Qr n9) ih x0 x1 x2 x3 x4 h33 bc bs hw p e s m args below meth c hC H locs ls k n hE (lv_sub hl [0, 1, 2, 3, 4] rfl) hR hS (by omega) (by omega)
        · have hw := hw.2 hc39
          refine lv_iload hx hb (xb_d D_World_lookUpAtHost 27 rfl) (lv_at hl 4 rfl) ?_
          refine lv_istore_n hx hb (xb_d D_World_lookUpAtHost 28 rfl) rfl hl (by decide) rfl (fun ls hl => ?_)
          have hl : lv_has ls 5 [(3, .int x4), (0, .ref x0), (1, .ref x1), (2, .int x2), (4, .int x4)] := hl
          exact am_World_lookUpAtHost_L54 l hfl D A σ MC MS h0 Qr (w_World_lookUpAtHost_L5 Qr n9) ih x0 x1 x2 x4 x4 h33 bc bs hw p e s m args below meth c hC H locs ls k n hE (lv_sub hl [1, 2, 3, 0, 4] rfl) hR hS (by omega) (by omega)

set_option maxHeartbeats 4000000 in
set_option maxRecDepth 100000 in
theorem ok_World_lookUpAtHost (l : Launch) (hfl : l.flags = pinnedFlags ++ [noTraceFlag]) (D : va_G) (A : Nat → Prop) (σ : Nat) (x0 : Nat) (x1 : Nat) (x2 : Int32) (h : xb_H) (bc : Nat) (bs : Nat) (Qr : Int32 → xb_H → Nat → Nat → Prop) (hw : w_World_lookUpAtHost x0 x1 x2 h bc bs Qr) : xb_Met l y_World_lookUpAtHost [.code y_World_lookUpAtHost b_World_lookUpAtHost 5 (some .int)] (xb_rm 5 bc bs) (xb_Pc D A σ h [.ref x0, .ref x1, .int x2]) (xb_Qc D A h bc bs (fun v h bc bs => ∃ r, v = some (.int r) ∧ Qr r h bc bs) (fun _ _ _ _ => False)) A := by
  refine xb_ofAm (cc := b_World_lookUpAtHost) (by decide) (Nat.le_of_ble_eq_true rfl) ?_
  unfold w_World_lookUpAtHost at hw
  show xb_am l D A σ 5 bc bs h (fun v h bc bs => ∃ r, v = some (.int r) ∧ Qr r h bc bs) (fun _ _ _ _ => False) y_World_lookUpAtHost.cls y_World_lookUpAtHost.name b_World_lookUpAtHost 5 ([] : List ExceptionTableEntry) (some .int) 0 [(0, .ref x0), (1, .ref x1), (2, .int x2)] [] h bc bs
  obtain ⟨MC, hMC⟩ : ∃ x, x = bc := ⟨_, rfl⟩
  obtain ⟨MS, hMS⟩ : ∃ x, x = bs := ⟨_, rfl⟩
  rw [show xb_am l D A σ 5 bc bs = xb_am l D A σ 5 MC MS by rw [hMC, hMS]]
  obtain ⟨h0, hh0⟩ : ∃ x, x = h := ⟨_, rfl⟩
  rw [show xb_am l D A σ 5 MC MS h = xb_am l D A σ 5 MC MS h0 by rw [hh0]]
  intro p e s m args below meth c hC H locs ls k n hE hl hR hS hk hn
  obtain ⟨hx, hb, hown, hlocks, htab, hml, hr, hB, hA, hnm⟩ := id hC
  have hts := hB.1.1.at args
  refine lv_iconst (v := (-1)) hx hb (xb_d D_World_lookUpAtHost 0 rfl) (by decide) ?_
  refine lv_istore_n hx hb (xb_d D_World_lookUpAtHost 1 rfl) rfl hl (by decide) rfl (fun ls hl => ?_)
  have hl : lv_has ls 5 [(3, .int (-1)), (0, .ref x0), (1, .ref x1), (2, .int x2)] := hl
  refine lv_iconst (v := 0) hx hb (xb_d D_World_lookUpAtHost 2 rfl) (by decide) ?_
  refine lv_istore hx hb (xb_d D_World_lookUpAtHost 3 rfl) hl (by decide) rfl (fun ls hl => ?_)
  have hl : lv_has ls 5 [(4, .int 0), (3, .int (-1)), (0, .ref x0), (1, .ref x1), (2, .int x2)] := hl
  obtain ⟨n8, hw⟩ := hw
  exact am_World_lookUpAtHost_L5 l hfl D A σ MC MS h0 Qr n8 x0 x1 x2 (-1) 0 h bc bs hw p e s m args below meth c hC H locs ls k n hE (lv_sub hl [2, 3, 4, 1, 0] rfl) hR hS (by omega) (by omega)

theorem m_113858b2 : (.methodLink "StackHost$World" 265 y_World_offsetOf : Cond) ∈ xt_tbl := xt_in (xt_t6 (List.mem_of_getElem? (i := 207) (by decide +kernel))) (by decide +kernel)
theorem m_6a03bf5b : (.instanceMethod y_World_offsetOf : Cond) ∈ xt_tbl := xt_in (xt_t6 (List.mem_of_getElem? (i := 209) (by decide +kernel))) (by decide +kernel)
theorem m_1294c057 : (.selects "StackHost$World" y_World_offsetOf y_World_offsetOf : Cond) ∈ xt_tbl := xt_in (xt_v5 (q := (⟨"StackHost$World", "offsetOf", "(LStackHost$StackModule;LStackHost$Row;I)J"⟩, 16)) (List.mem_of_getElem? (i := 11) (by decide +kernel))) (by decide +kernel)
theorem m_fed04452 : (.code y_World_offsetOf b_World_offsetOf 4 (some .long) : Cond) ∈ xt_tbl := xt_in (xt_t6 (List.mem_of_getElem? (i := 210) (by decide +kernel))) (by decide +kernel)
theorem nm_World_offsetOf : xt_nm y_World_offsetOf 3 := ⟨by decide +kernel, by decide +kernel⟩
set_option maxRecDepth 100000 in
def T_World_rowBeyond : List (Nat × Instr × Nat) := [(0, .iconst 0, 1), (1, .istore 5, 2), (3, .iload 5, 2), (5, .aload_n 2, 1), (6, .invokevirtual 75, 3), (9, .if_icmp .ge 33, 3), (12, .aload_n 0, 1), (13, .aload_n 1, 1), (14, .aload_n 2, 1), (15, .iload 5, 2), (17, .invokevirtual 265, 3), (20, .aload_n 2, 1), (21, .iload 5, 2), (23, .iconst 4, 1), (24, .invokevirtual 232, 3), (27, .ladd, 1), (28, .lload_n 3, 1), (29, .lcmp, 1), (30, .ifCond .le 6, 3), (33, .iload 5, 2), (35, .ireturn, 1), (36, .iinc 5 1, 3), (39, .goto (-36), 3), (42, .iconst (-1), 1), (43, .ireturn, 1)]
theorem D_World_rowBeyond : ∀ q ∈ T_World_rowBeyond, decode b_World_rowBeyond q.1 = .ok (q.2.1, q.2.2) := by decide +kernel

set_option maxHeartbeats 4000000 in
set_option maxRecDepth 100000 in
theorem am_World_rowBeyond_L3 (l : Launch) (hfl : l.flags = pinnedFlags ++ [noTraceFlag]) (D : va_G) (A : Nat → Prop) (σ MC MS : Nat) (h0 : xb_H) (Qr : Int32 → xb_H → Prop) (n9 : Nat) : ∀ (x0 : Nat) (x1 : Nat) (x2 : Nat) (x3 : Int64) (x5 : Int32) (h : xb_H), w_World_rowBeyond_L3 Qr n9 x0 x1 x2 x3 x5 h → xb_am l D A σ 5 MC MS h0 (fun v h _ _ => ∃ r, v = some (.int r) ∧ Qr r h) (fun _ _ _ _ => False) y_World_rowBeyond.cls y_World_rowBeyond.name b_World_rowBeyond 6 ([] : List ExceptionTableEntry) (some .int) 3 [(0, .ref x0), (1, .ref x1), (2, .ref x2), (3, .long x3), (5, .int x5)] [] h 0 0 := by
  induction n9 with
  | zero => intro x0 x1 x2 x3 x5 h hw; exact False.elim hw
  | succ n9 ih =>
    intro x0 x1 x2 x3 x5 h hw
    unfold w_World_rowBeyond_L3 at hw
    intro p e s m args below meth c hC H locs ls k n hE hl hR hS hk hn
    obtain ⟨hx, hb, hown, hlocks, htab, hml, hr, hB, hA, hnm⟩ := id hC
    have hts := hB.1.1.at args
    refine lv_iload hx hb (xb_d D_World_rowBeyond 2 rfl) (lv_at hl 4 rfl) ?_
    refine lv_aload_n hx hb (xb_d D_World_rowBeyond 3 rfl) rfl (lv_at hl 2 rfl) ?_
    obtain ⟨hk1, hw⟩ := hw
    refine xb_call0 (D := D) (A := A) (σ := σ) (h := h) (d := 2) (maxL := 1) (rest := [.int x5]) (av := [.ref x2]) (fun T hT X => by obtain ⟨cb9, ra9, rb9, rc9⟩ := xb_recv (ci := 1) hR rfl hk1 (by decide); exact xt_invV X hx hown (hts _ m_5b8308b9) (hts _ m_ded65609) (hts _ m_a4161156) (xt_sigOf (hts _ m_83ba3721)) nm_Row_lines (by rw [hT]; exact ra9) rb9 rc9 (g := F0 m 6 ls [.ref x2, .int x5]) rfl (argsL := []) (rest := [.int x5]) rfl rfl (by rw [hb]; exact (xb_d D_World_rowBeyond 4 rfl))) (ok_Row_lines l hfl D A σ x2 h _ hw) (hml.trans hl.1.symm) (by rw [hb]; exact (xb_d D_World_rowBeyond 4 rfl)) (Nat.le_of_ble_eq_true rfl) (Nat.le_of_ble_eq_true rfl) (Nat.le_of_ble_eq_true rfl) (show k ≤ MC by omega) (show n ≤ MS by omega) (xt_w1 hB.1 m_83ba3721) (xt_cdOf hB.1 m_83ba3721) (hts _ m_c1bef504) hB hR hS hA (fun vv h2 H locs hq hEh2 hR hS => ?_)
    obtain ⟨r3, rfl, hw⟩ := hq
    have hw := hw hEh2
    have hE := hE.tr hEh2
    refine W.eq (g2 := F0 m 9 ls [.int r3, .int x5]) rfl ?_
    refine lv_icmp_ge (tgt := 42) hx hb (xb_d D_World_rowBeyond 5 rfl) rfl (fun hc4 => ?_) (fun hc4 => ?_)
    · have hw := hw.1 hc4
      refine lv_iconst (v := (-1)) hx hb (xb_d D_World_rowBeyond 23 rfl) (by decide) ?_
      exact xb_iret 0 0 hx hb hr hlocks (show k + 0 ≤ MC by omega) (show n + 0 ≤ MS by omega) hE hR hS (xb_d D_World_rowBeyond 24 rfl) hw
    · have hw := hw.2 hc4
      refine lv_aload_n hx hb (xb_d D_World_rowBeyond 6 rfl) rfl (lv_at hl 0 rfl) ?_
      refine lv_aload_n hx hb (xb_d D_World_rowBeyond 7 rfl) rfl (lv_at hl 1 rfl) ?_
      refine lv_aload_n hx hb (xb_d D_World_rowBeyond 8 rfl) rfl (lv_at hl 2 rfl) ?_
      refine lv_iload hx hb (xb_d D_World_rowBeyond 9 rfl) (lv_at hl 4 rfl) ?_
      obtain ⟨hk5, hw⟩ := hw
      refine xb_call0 (D := D) (A := A) (σ := σ) (h := h2) (d := 4) (maxL := 4) (rest := []) (av := [.ref x0, .ref x1, .ref x2, .int x5]) (fun T hT X => by obtain ⟨cb9, ra9, rb9, rc9⟩ := xb_recv (ci := 6) hR rfl hk5 (by decide); exact xt_invV X hx hown (hts _ m_113858b2) (hts _ m_6a03bf5b) (hts _ m_1294c057) (xt_sigOf (hts _ m_fed04452)) nm_World_offsetOf (by rw [hT]; exact ra9) rb9 rc9 (g := F0 m 17 ls [.int x5, .ref x2, .ref x1, .ref x0]) rfl (argsL := [.ref x1, .ref x2, .int x5]) (rest := []) rfl rfl (by rw [hb]; exact (xb_d D_World_rowBeyond 10 rfl))) (ok_World_offsetOf l hfl D A σ x0 x1 x2 x5 h2 _ hw) (hml.trans hl.1.symm) (by rw [hb]; exact (xb_d D_World_rowBeyond 10 rfl)) (Nat.le_of_ble_eq_true rfl) (Nat.le_of_ble_eq_true rfl) (Nat.le_of_ble_eq_true rfl) (show k ≤ MC by omega) (show n ≤ MS by omega) (xt_w1 hB.1 m_fed04452) (xt_cdOf hB.1 m_fed04452) (hts _ m_4534b440) hB hR hS hA (fun vv h6 H locs hq hEh6 hR hS => ?_)
      obtain ⟨r7, rfl, hw⟩ := hq
      have hw := hw hEh6
      have hE := hE.tr hEh6
      refine W.eq (g2 := F0 m 20 ls [.long r7]) rfl ?_
      refine lv_aload_n hx hb (xb_d D_World_rowBeyond 11 rfl) rfl (lv_at hl 2 rfl) ?_
      refine lv_iload hx hb (xb_d D_World_rowBeyond 12 rfl) (lv_at hl 4 rfl) ?_
      refine lv_iconst (v := 4) hx hb (xb_d D_World_rowBeyond 13 rfl) (by decide) ?_
      have hk1 : xb_k h2 x2 = 2 := hEh2.k hk1
      have hk1 : xb_k h6 x2 = 2 := hEh6.k hk1
      refine xb_call0 (D := D) (A := A) (σ := σ) (h := h6) (d := 2) (maxL := 3) (rest := [.long r7]) (av := [.ref x2, .int x5, .int 4]) (fun T hT X => by obtain ⟨cb9, ra9, rb9, rc9⟩ := xb_recv (ci := 1) hR rfl hk1 (by decide); exact xt_invV X hx hown (hts _ m_25314627) (hts _ m_8db3b24f) (hts _ m_78dc30a4) (xt_sigOf (hts _ m_a4177401)) nm_Row_longAt (by rw [hT]; exact ra9) rb9 rc9 (g := F0 m 24 ls [.int 4, .int x5, .ref x2, .long r7]) rfl (argsL := [.int x5, .int 4]) (rest := [.long r7]) rfl rfl (by rw [hb]; exact (xb_d D_World_rowBeyond 14 rfl))) (ok_Row_longAt l hfl D A σ x2 x5 4 h6 _ hw) (hml.trans hl.1.symm) (by rw [hb]; exact (xb_d D_World_rowBeyond 14 rfl)) (Nat.le_of_ble_eq_true rfl) (Nat.le_of_ble_eq_true rfl) (Nat.le_of_ble_eq_true rfl) (show k ≤ MC by omega) (show n ≤ MS by omega) (xt_w1 hB.1 m_a4177401) (xt_cdOf hB.1 m_a4177401) (hts _ m_c1bef504) hB hR hS hA (fun vv h8 H locs hq hEh8 hR hS => ?_)
      obtain ⟨r9, rfl, hw⟩ := hq
      have hw := hw hEh8
      have hE := hE.tr hEh8
      refine W.eq (g2 := F0 m 27 ls [.long r9, .long r7]) rfl ?_
      refine lv_ladd hx hb (xb_d D_World_rowBeyond 15 rfl) ?_
      refine lv_lload_n hx hb (xb_d D_World_rowBeyond 16 rfl) rfl (lv_at hl 3 rfl) ?_
      refine xb_lc_le (tgt := 36) hx hb (xb_d D_World_rowBeyond 17 rfl) (xb_d D_World_rowBeyond 18 rfl) rfl (fun hc10 => ?_) (fun hc10 => ?_)
      · have hw := hw.1 hc10
        refine lv_iinc (v := (x5 + 1)) (k := 4) hx hb (xb_d D_World_rowBeyond 21 rfl) hl rfl (by first | rfl | decide) (by decide) rfl (fun ls hl => ?_)
        have hl : lv_has ls 6 [(5, .int (x5 + 1)), (0, .ref x0), (1, .ref x1), (2, .ref x2), (3, .long x3)] := hl
        refine lv_goto (tgt := 3) hx hb (xb_d D_World_rowBeyond 22 rfl) rfl ?_
        exact ih x0 x1 x2 x3 (x5 + 1) h8 hw p e s m args below meth c hC H locs ls k n hE (lv_sub hl [1, 2, 3, 4, 0] rfl) hR hS (by omega) (by omega)
      · have hw := hw.2 hc10
        refine lv_iload hx hb (xb_d D_World_rowBeyond 19 rfl) (lv_at hl 4 rfl) ?_
        exact xb_iret 0 0 hx hb hr hlocks (show k + 0 ≤ MC by omega) (show n + 0 ≤ MS by omega) hE hR hS (xb_d D_World_rowBeyond 20 rfl) hw

set_option maxHeartbeats 4000000 in
set_option maxRecDepth 100000 in
theorem ok_World_rowBeyond (l : Launch) (hfl : l.flags = pinnedFlags ++ [noTraceFlag]) (D : va_G) (A : Nat → Prop) (σ : Nat) (x0 : Nat) (x1 : Nat) (x2 : Nat) (x3 : Int64) (h : xb_H) (Qr : Int32 → xb_H → Prop) (hw : w_World_rowBeyond x0 x1 x2 x3 h Qr) : xb_Met l y_World_rowBeyond [.code y_World_rowBeyond b_World_rowBeyond 6 (some .int)] (xb_rm 5 0 0) (xb_Pc D A σ h [.ref x0, .ref x1, .ref x2, .long x3]) (xb_Qc D A h 0 0 (fun v h _ _ => ∃ r, v = some (.int r) ∧ Qr r h) (fun _ _ _ _ => False)) A := by
  refine xb_ofAm (cc := b_World_rowBeyond) (by decide) (Nat.le_of_ble_eq_true rfl) ?_
  unfold w_World_rowBeyond at hw
  show xb_am l D A σ 5 0 0 h (fun v h _ _ => ∃ r, v = some (.int r) ∧ Qr r h) (fun _ _ _ _ => False) y_World_rowBeyond.cls y_World_rowBeyond.name b_World_rowBeyond 6 ([] : List ExceptionTableEntry) (some .int) 0 [(0, .ref x0), (1, .ref x1), (2, .ref x2), (3, .long x3)] [] h 0 0
  obtain ⟨MC, hMC⟩ : ∃ x, x = 0 := ⟨_, rfl⟩
  obtain ⟨MS, hMS⟩ : ∃ x, x = 0 := ⟨_, rfl⟩
  rw [show xb_am l D A σ 5 0 0 = xb_am l D A σ 5 MC MS by rw [hMC, hMS]]
  obtain ⟨h0, hh0⟩ : ∃ x, x = h := ⟨_, rfl⟩
  rw [show xb_am l D A σ 5 MC MS h = xb_am l D A σ 5 MC MS h0 by rw [hh0]]
  intro p e s m args below meth c hC H locs ls k n hE hl hR hS hk hn
  obtain ⟨hx, hb, hown, hlocks, htab, hml, hr, hB, hA, hnm⟩ := id hC
  have hts := hB.1.1.at args
  refine lv_iconst (v := 0) hx hb (xb_d D_World_rowBeyond 0 rfl) (by decide) ?_
  refine lv_istore hx hb (xb_d D_World_rowBeyond 1 rfl) hl (by decide) rfl (fun ls hl => ?_)
  have hl : lv_has ls 6 [(5, .int 0), (0, .ref x0), (1, .ref x1), (2, .ref x2), (3, .long x3)] := hl
  obtain ⟨n8, hw⟩ := hw
  exact am_World_rowBeyond_L3 l hfl D A σ MC MS h0 Qr n8 x0 x1 x2 x3 0 h hw p e s m args below meth c hC H locs ls k n hE (lv_sub hl [1, 2, 3, 4, 0] rfl) hR hS (by omega) (by omega)

theorem m_263e7717 : (.methodLink "StackHost$World" 193 y_Instance_functionId : Cond) ∈ xt_tbl := xt_in (xt_t6 (List.mem_of_getElem? (i := 166) (by decide +kernel))) (by decide +kernel)
theorem m_89519114 : (.fieldLink "StackHost$World" 196 "StackHost$Instance" "table" "LStackHost$Table;" : Cond) ∈ xt_tbl := xt_in (xt_t7 (List.mem_of_getElem? (i := 13) (by decide +kernel))) (by decide +kernel)
theorem m_5fa9adee : (.fieldLink "StackHost$World" 205 "StackHost$Table" "most" "J" : Cond) ∈ xt_tbl := xt_in (xt_t7 (List.mem_of_getElem? (i := 59) (by decide +kernel))) (by decide +kernel)
theorem m_ef42478a : (.methodLink "StackHost$World" 209 y_World_isWithin : Cond) ∈ xt_tbl := xt_in (xt_t6 (List.mem_of_getElem? (i := 170) (by decide +kernel))) (by decide +kernel)
theorem m_b5b97c89 : (.static y_World_isWithin : Cond) ∈ xt_tbl := xt_in (xt_t6 (List.mem_of_getElem? (i := 171) (by decide +kernel))) (by decide +kernel)
theorem m_6798dad1 : (.code y_World_isWithin b_World_isWithin 7 (some .boolean) : Cond) ∈ xt_tbl := xt_in (xt_t6 (List.mem_of_getElem? (i := 172) (by decide +kernel))) (by decide +kernel)
theorem m_1fb067e2 : (.fieldLink "StackHost$World" 213 "StackHost$Instance" "memory" "LStackHost$Memory;" : Cond) ∈ xt_tbl := xt_in (xt_t7 (List.mem_of_getElem? (i := 17) (by decide +kernel))) (by decide +kernel)
theorem m_d92dee97 : (.methodLink "StackHost$World" 225 y_Instance_variableId : Cond) ∈ xt_tbl := xt_in (xt_t6 (List.mem_of_getElem? (i := 175) (by decide +kernel))) (by decide +kernel)
theorem m_83a5cb60 : (.methodLink "StackHost$World" 228 y_World_sameVariable : Cond) ∈ xt_tbl := xt_in (xt_t6 (List.mem_of_getElem? (i := 179) (by decide +kernel))) (by decide +kernel)
theorem m_84424631 : (.static y_World_sameVariable : Cond) ∈ xt_tbl := xt_in (xt_t6 (List.mem_of_getElem? (i := 180) (by decide +kernel))) (by decide +kernel)
theorem m_2903e8bc : (.code y_World_sameVariable b_World_sameVariable 4 (some .boolean) : Cond) ∈ xt_tbl := xt_in (xt_t6 (List.mem_of_getElem? (i := 181) (by decide +kernel))) (by decide +kernel)
theorem nm_World_isWithin : xt_nm y_World_isWithin 4 := ⟨by decide +kernel, by decide +kernel⟩
theorem nm_World_sameVariable : xt_nm y_World_sameVariable 4 := ⟨by decide +kernel, by decide +kernel⟩
set_option maxRecDepth 100000 in
def T_World_takeOver : List (Nat × Instr × Nat) := [(0, .aload_n 1, 1), (1, .getfield 102, 3), (4, .iload_n 2, 1), (5, .iconst 2, 1), (6, .invokevirtual 51, 3), (9, .istore 5, 2), (11, .aload_n 1, 1), (12, .getfield 102, 3), (15, .iload_n 2, 1), (16, .iconst 1, 1), (17, .invokevirtual 51, 3), (20, .tableswitch 154 0 2 #[28, 60, 107], 28), (48, .aload_n 0, 1), (49, .getfield 45, 3), (52, .aload_n 3, 1), (53, .iload 4, 2), (55, .invokevirtual 193, 3), (58, .i2l, 1), (59, .invokevirtual 71, 3), (62, .aload_n 0, 1), (63, .aload_n 3, 1), (64, .iload 4, 2), (66, .invokevirtual 193, 3), (69, .aload_n 1, 1), (70, .aload_n 1, 1), (71, .iload 5, 2), (73, .invokevirtual 165, 3), (76, .invokevirtual 169, 3), (79, .ireturn, 1), (80, .aload_n 0, 1), (81, .aload_n 3, 1), (82, .getfield 196, 3), (85, .putfield 94, 3), (88, .aload_n 0, 1), (89, .getfield 94, 3), (92, .ifnull 33, 3), (95, .aload_n 1, 1), (96, .getfield 199, 3), (99, .iload 5, 2), (101, .aload_n 0, 1), (102, .getfield 94, 3), (105, .getfield 202, 3), (108, .aload_n 0, 1), (109, .getfield 94, 3), (112, .getfield 205, 3), (115, .invokestatic 209, 3), (118, .ifCond .eq 7, 3), (121, .iconst 1, 1), (122, .goto 4, 3), (125, .iconst 0, 1), (126, .ireturn, 1), (127, .aload_n 0, 1), (128, .aload_n 3, 1), (129, .getfield 213, 3), (132, .putfield 98, 3), (135, .aload_n 0, 1), (136, .getfield 98, 3), (139, .ifnull 33, 3), (142, .aload_n 1, 1), (143, .getfield 216, 3), (146, .iload 5, 2), (148, .aload_n 0, 1), (149, .getfield 98, 3), (152, .getfield 219, 3), (155, .aload_n 0, 1), (156, .getfield 98, 3), (159, .getfield 224, 3), (162, .invokestatic 209, 3), (165, .ifCond .eq 7, 3), (168, .iconst 1, 1), (169, .goto 4, 3), (172, .iconst 0, 1), (173, .ireturn, 1), (174, .aload_n 0, 1), (175, .getfield 48, 3), (178, .aload_n 3, 1), (179, .iload 4, 2), (181, .invokevirtual 225, 3), (184, .i2l, 1), (185, .invokevirtual 71, 3), (188, .aload_n 1, 1), (189, .iload 5, 2), (191, .aload_n 3, 1), (192, .getfield 148, 3), (195, .iload 4, 2), (197, .invokestatic 228, 3), (200, .ireturn, 1)]
theorem D_World_takeOver : ∀ q ∈ T_World_takeOver, decode b_World_takeOver q.1 = .ok (q.2.1, q.2.2) := by decide +kernel

set_option maxHeartbeats 4000000 in
set_option maxRecDepth 100000 in
theorem am_World_takeOver_L173 (l : Launch) (hfl : l.flags = pinnedFlags ++ [noTraceFlag]) (D : va_G) (A : Nat → Prop) (σ MC MS : Nat) (h0 : xb_H) (Qr : Int32 → xb_H → Nat → Nat → Prop) (y0 : Int32) (h : xb_H) (bc : Nat) (bs : Nat) (hw : w_World_takeOver_L173 Qr y0 h bc bs) : xb_am l D A σ 5 MC MS h0 (fun v h bc bs => ∃ r, v = some (.int r) ∧ Qr r h bc bs) (fun _ _ _ _ => False) y_World_takeOver.cls y_World_takeOver.name b_World_takeOver 6 ([] : List ExceptionTableEntry) (some .boolean) 173 [] [.int y0] h bc bs := by
  unfold w_World_takeOver_L173 at hw
  intro p e s m args below meth c hC H locs ls k n hE hl hR hS hk hn
  obtain ⟨hx, hb, hown, hlocks, htab, hml, hr, hB, hA, hnm⟩ := id hC
  have hts := hB.1.1.at args
  exact xb_zret bc bs hx hb hr hlocks (show k + bc ≤ MC by omega) (show n + bs ≤ MS by omega) hw.1 hE hR hS (xb_d D_World_takeOver 72 rfl) hw.2

set_option maxHeartbeats 4000000 in
set_option maxRecDepth 100000 in
theorem am_World_takeOver_L172 (l : Launch) (hfl : l.flags = pinnedFlags ++ [noTraceFlag]) (D : va_G) (A : Nat → Prop) (σ MC MS : Nat) (h0 : xb_H) (Qr : Int32 → xb_H → Nat → Nat → Prop) (h : xb_H) (bc : Nat) (bs : Nat) (hw : w_World_takeOver_L172 Qr h bc bs) : xb_am l D A σ 5 MC MS h0 (fun v h bc bs => ∃ r, v = some (.int r) ∧ Qr r h bc bs) (fun _ _ _ _ => False) y_World_takeOver.cls y_World_takeOver.name b_World_takeOver 6 ([] : List ExceptionTableEntry) (some .boolean) 172 [] [] h bc bs := by
  unfold w_World_takeOver_L172 at hw
  intro p e s m args below meth c hC H locs ls k n hE hl hR hS hk hn
  obtain ⟨hx, hb, hown, hlocks, htab, hml, hr, hB, hA, hnm⟩ := id hC
  have hts := hB.1.1.at args
  refine lv_iconst (v := 0) hx hb (xb_d D_World_takeOver 71 rfl) (by decide) ?_
  exact am_World_takeOver_L173 l hfl D A σ MC MS h0 Qr 0 h bc bs hw p e s m args below meth c hC H locs ls k n hE (lv_sub hl [] rfl) hR hS (by omega) (by omega)

set_option maxHeartbeats 4000000 in
set_option maxRecDepth 100000 in
theorem am_World_takeOver_L126 (l : Launch) (hfl : l.flags = pinnedFlags ++ [noTraceFlag]) (D : va_G) (A : Nat → Prop) (σ MC MS : Nat) (h0 : xb_H) (Qr : Int32 → xb_H → Nat → Nat → Prop) (y0 : Int32) (h : xb_H) (bc : Nat) (bs : Nat) (hw : w_World_takeOver_L126 Qr y0 h bc bs) : xb_am l D A σ 5 MC MS h0 (fun v h bc bs => ∃ r, v = some (.int r) ∧ Qr r h bc bs) (fun _ _ _ _ => False) y_World_takeOver.cls y_World_takeOver.name b_World_takeOver 6 ([] : List ExceptionTableEntry) (some .boolean) 126 [] [.int y0] h bc bs := by
  unfold w_World_takeOver_L126 at hw
  intro p e s m args below meth c hC H locs ls k n hE hl hR hS hk hn
  obtain ⟨hx, hb, hown, hlocks, htab, hml, hr, hB, hA, hnm⟩ := id hC
  have hts := hB.1.1.at args
  exact xb_zret bc bs hx hb hr hlocks (show k + bc ≤ MC by omega) (show n + bs ≤ MS by omega) hw.1 hE hR hS (xb_d D_World_takeOver 50 rfl) hw.2

set_option maxHeartbeats 4000000 in
set_option maxRecDepth 100000 in
theorem am_World_takeOver_L125 (l : Launch) (hfl : l.flags = pinnedFlags ++ [noTraceFlag]) (D : va_G) (A : Nat → Prop) (σ MC MS : Nat) (h0 : xb_H) (Qr : Int32 → xb_H → Nat → Nat → Prop) (h : xb_H) (bc : Nat) (bs : Nat) (hw : w_World_takeOver_L125 Qr h bc bs) : xb_am l D A σ 5 MC MS h0 (fun v h bc bs => ∃ r, v = some (.int r) ∧ Qr r h bc bs) (fun _ _ _ _ => False) y_World_takeOver.cls y_World_takeOver.name b_World_takeOver 6 ([] : List ExceptionTableEntry) (some .boolean) 125 [] [] h bc bs := by
  unfold w_World_takeOver_L125 at hw
  intro p e s m args below meth c hC H locs ls k n hE hl hR hS hk hn
  obtain ⟨hx, hb, hown, hlocks, htab, hml, hr, hB, hA, hnm⟩ := id hC
  have hts := hB.1.1.at args
  refine lv_iconst (v := 0) hx hb (xb_d D_World_takeOver 49 rfl) (by decide) ?_
  exact am_World_takeOver_L126 l hfl D A σ MC MS h0 Qr 0 h bc bs hw p e s m args below meth c hC H locs ls k n hE (lv_sub hl [] rfl) hR hS (by omega) (by omega)

set_option maxHeartbeats 4000000 in
set_option maxRecDepth 100000 in
theorem ok_World_takeOver (l : Launch) (hfl : l.flags = pinnedFlags ++ [noTraceFlag]) (D : va_G) (A : Nat → Prop) (σ : Nat) (x0 : Nat) (x1 : Nat) (x2 : Int32) (x3 : Nat) (x4 : Int32) (h : xb_H) (bc : Nat) (bs : Nat) (Qr : Int32 → xb_H → Nat → Nat → Prop) (hw : w_World_takeOver x0 x1 x2 x3 x4 h bc bs Qr) : xb_Met l y_World_takeOver [.code y_World_takeOver b_World_takeOver 6 (some .boolean)] (xb_rm 5 bc bs) (xb_Pc D A σ h [.ref x0, .ref x1, .int x2, .ref x3, .int x4]) (xb_Qc D A h bc bs (fun v h bc bs => ∃ r, v = some (.int r) ∧ Qr r h bc bs) (fun _ _ _ _ => False)) A := by
  refine xb_ofAm (cc := b_World_takeOver) (by decide) (Nat.le_of_ble_eq_true rfl) ?_
  unfold w_World_takeOver at hw
  show xb_am l D A σ 5 bc bs h (fun v h bc bs => ∃ r, v = some (.int r) ∧ Qr r h bc bs) (fun _ _ _ _ => False) y_World_takeOver.cls y_World_takeOver.name b_World_takeOver 6 ([] : List ExceptionTableEntry) (some .boolean) 0 [(0, .ref x0), (1, .ref x1), (2, .int x2), (3, .ref x3), (4, .int x4)] [] h bc bs
  obtain ⟨MC, hMC⟩ : ∃ x, x = bc := ⟨_, rfl⟩
  obtain ⟨MS, hMS⟩ : ∃ x, x = bs := ⟨_, rfl⟩
  rw [show xb_am l D A σ 5 bc bs = xb_am l D A σ 5 MC MS by rw [hMC, hMS]]
  obtain ⟨h0, hh0⟩ : ∃ x, x = h := ⟨_, rfl⟩
  rw [show xb_am l D A σ 5 MC MS h = xb_am l D A σ 5 MC MS h0 by rw [hh0]]
  intro p e s m args below meth c hC H locs ls k n hE hl hR hS hk hn
  obtain ⟨hx, hb, hown, hlocks, htab, hml, hr, hB, hA, hnm⟩ := id hC
  have hts := hB.1.1.at args
  refine lv_aload_n hx hb (xb_d D_World_takeOver 0 rfl) rfl (lv_at hl 1 rfl) ?_
  obtain ⟨hk1, hw⟩ := hw
  refine xb_getP (C := R_StackModule) (T := F_StackModule) (N := 19) hx hb 2 3 hts fin_StackModule hown hR hk1 (by decide) rfl (by decide) rfl (hts _ m_73c47404) (fun _ h9 => h9) (xb_d D_World_takeOver 1 rfl) ?_
  obtain ⟨b2, eb2, hw⟩ := hw
  refine xb_some eb2 ?_
  refine lv_iload_n hx hb (xb_d D_World_takeOver 2 rfl) rfl (lv_at hl 2 rfl) ?_
  refine lv_iconst (v := 2) hx hb (xb_d D_World_takeOver 3 rfl) (by decide) ?_
  obtain ⟨hk3, hw⟩ := hw
  refine xb_call0 (D := D) (A := A) (σ := σ) (h := h) (d := 2) (maxL := 3) (rest := []) (av := [.ref b2, .int x2, .int 2]) (fun T hT X => by obtain ⟨cb9, ra9, rb9, rc9⟩ := xb_recv (ci := 1) hR rfl hk3 (by decide); exact xt_invV X hx hown (hts _ m_ad29ee25) (hts _ m_8e233096) (hts _ m_27eed10c) (xt_sigOf (hts _ m_ff1c70ae)) nm_Row_at (by rw [hT]; exact ra9) rb9 rc9 (g := F0 m 6 ls [.int 2, .int x2, .ref b2]) rfl (argsL := [.int x2, .int 2]) (rest := []) rfl rfl (by rw [hb]; exact (xb_d D_World_takeOver 4 rfl))) (ok_Row_at l hfl D A σ b2 x2 2 h _ hw) (hml.trans hl.1.symm) (by rw [hb]; exact (xb_d D_World_takeOver 4 rfl)) (Nat.le_of_ble_eq_true rfl) (Nat.le_of_ble_eq_true rfl) (Nat.le_of_ble_eq_true rfl) (show k ≤ MC by omega) (show n ≤ MS by omega) (xt_w1 hB.1 m_ff1c70ae) (xt_cdOf hB.1 m_ff1c70ae) (hts _ m_c1bef504) hB hR hS hA (fun vv h4 H locs hq hEh4 hR hS => ?_)
  obtain ⟨r5, rfl, hw⟩ := hq
  have hw := hw hEh4
  have hE := hE.tr hEh4
  refine W.eq (g2 := F0 m 9 ls [.int r5]) rfl ?_
  refine lv_istore hx hb (xb_d D_World_takeOver 5 rfl) hl (by decide) rfl (fun ls hl => ?_)
  have hl : lv_has ls 6 [(5, .int r5), (0, .ref x0), (1, .ref x1), (2, .int x2), (3, .ref x3), (4, .int x4)] := hl
  refine lv_aload_n hx hb (xb_d D_World_takeOver 6 rfl) rfl (lv_at hl 2 rfl) ?_
  have hk1 : xb_k h4 x1 = 3 := hEh4.k hk1
  refine xb_getP (C := R_StackModule) (T := F_StackModule) (N := 19) hx hb 2 3 hts fin_StackModule hown hR hk1 (by decide) rfl (by decide) rfl (hts _ m_73c47404) (fun _ h9 => h9) (xb_d D_World_takeOver 7 rfl) ?_
  obtain ⟨b6, eb6, hw⟩ := hw
  refine xb_some eb6 ?_
  refine lv_iload_n hx hb (xb_d D_World_takeOver 8 rfl) rfl (lv_at hl 3 rfl) ?_
  refine lv_iconst (v := 1) hx hb (xb_d D_World_takeOver 9 rfl) (by decide) ?_
  obtain ⟨hk7, hw⟩ := hw
  refine xb_call0 (D := D) (A := A) (σ := σ) (h := h4) (d := 2) (maxL := 3) (rest := []) (av := [.ref b6, .int x2, .int 1]) (fun T hT X => by obtain ⟨cb9, ra9, rb9, rc9⟩ := xb_recv (ci := 1) hR rfl hk7 (by decide); exact xt_invV X hx hown (hts _ m_ad29ee25) (hts _ m_8e233096) (hts _ m_27eed10c) (xt_sigOf (hts _ m_ff1c70ae)) nm_Row_at (by rw [hT]; exact ra9) rb9 rc9 (g := F0 m 17 ls [.int 1, .int x2, .ref b6]) rfl (argsL := [.int x2, .int 1]) (rest := []) rfl rfl (by rw [hb]; exact (xb_d D_World_takeOver 10 rfl))) (ok_Row_at l hfl D A σ b6 x2 1 h4 _ hw) (hml.trans hl.1.symm) (by rw [hb]; exact (xb_d D_World_takeOver 10 rfl)) (Nat.le_of_ble_eq_true rfl) (Nat.le_of_ble_eq_true rfl) (Nat.le_of_ble_eq_true rfl) (show k ≤ MC by omega) (show n ≤ MS by omega) (xt_w1 hB.1 m_ff1c70ae) (xt_cdOf hB.1 m_ff1c70ae) (hts _ m_c1bef504) hB hR hS hA (fun vv h8 H locs hq hEh8 hR hS => ?_)
  obtain ⟨r9, rfl, hw⟩ := hq
  have hw := hw hEh8
  have hE := hE.tr hEh8
  refine W.eq (g2 := F0 m 20 ls [.int r9]) rfl ?_
  by_cases hc10 : r9 = 0
  · have hw := hw.1 hc10
    refine xt_numi hc10 ?_
    refine lv_tableIn (off := 28) (tgt := 48) hx hb (xb_d D_World_takeOver 11 rfl) (by decide +kernel) (by decide +kernel) (by decide +kernel) (by decide) ?_
    refine lv_aload_n hx hb (xb_d D_World_takeOver 12 rfl) rfl (lv_at hl 1 rfl) ?_
    obtain ⟨hk11, hw⟩ := hw
    refine xb_getP (C := R_World) (T := F_World) (N := 16) hx hb 6 12 hts fin_World hown hR hk11 (by decide) rfl (by decide) rfl (hts _ m_62e44650) (fun _ h9 => h9) (xb_d D_World_takeOver 13 rfl) ?_
    obtain ⟨b12, eb12, hw⟩ := hw
    refine xb_some eb12 ?_
    refine lv_aload_n hx hb (xb_d D_World_takeOver 14 rfl) rfl (lv_at hl 4 rfl) ?_
    refine lv_iload hx hb (xb_d D_World_takeOver 15 rfl) (lv_at hl 5 rfl) ?_
    obtain ⟨hk13, hw⟩ := hw
    refine xb_call0 (D := D) (A := A) (σ := σ) (h := h8) (d := 2) (maxL := 3) (rest := [.ref b12]) (av := [.ref x3, .int x4]) (fun T hT X => by obtain ⟨cb9, ra9, rb9, rc9⟩ := xb_recv (ci := 10) hR rfl hk13 (by decide); exact xt_invV X hx hown (hts _ m_263e7717) (hts _ m_3dbccea2) (hts _ m_6ce97918) (xt_sigOf (hts _ m_0d2452ce)) nm_Instance_functionId (by rw [hT]; exact ra9) rb9 rc9 (g := F0 m 55 ls [.int x4, .ref x3, .ref b12]) rfl (argsL := [.int x4]) (rest := [.ref b12]) rfl rfl (by rw [hb]; exact (xb_d D_World_takeOver 16 rfl))) (ok_Instance_functionId l hfl D A σ x3 x4 h8 _ hw) (hml.trans hl.1.symm) (by rw [hb]; exact (xb_d D_World_takeOver 16 rfl)) (Nat.le_of_ble_eq_true rfl) (Nat.le_of_ble_eq_true rfl) (Nat.le_of_ble_eq_true rfl) (show k ≤ MC by omega) (show n ≤ MS by omega) (xt_w1 hB.1 m_0d2452ce) (xt_cdOf hB.1 m_0d2452ce) (hts _ m_7a4e907b) hB hR hS hA (fun vv h14 H locs hq hEh14 hR hS => ?_)
    obtain ⟨r15, rfl, hw⟩ := hq
    have hw := hw hEh14
    have hE := hE.tr hEh14
    refine W.eq (g2 := F0 m 58 ls [.int r15, .ref b12]) rfl ?_
    refine lv_i2l hx hb (xb_d D_World_takeOver 17 rfl) rfl ?_
    obtain ⟨hk16, hw⟩ := hw
    refine xb_call (D := D) (A := A) (σ := σ) (h := h14) (d := 4) (mc := bc) (ms := bs) (maxL := 3) (rest := []) (av := [.ref b12, .long (Int32.toInt64 r15)]) (fun T hT X => by obtain ⟨cb9, ra9, rb9, rc9⟩ := xb_recv (ci := 1) hR rfl hk16 (by decide); exact xt_invV X hx hown (hts _ m_6ab0aa52) (hts _ m_7e8d081f) (hts _ m_4e47f51a) (xt_sigOf (hts _ m_4f1bdc54)) nm_Row_add (by rw [hT]; exact ra9) rb9 rc9 (g := F0 m 59 ls [.long (Int32.toInt64 r15), .ref b12]) rfl (argsL := [.long (Int32.toInt64 r15)]) (rest := []) rfl rfl (by rw [hb]; exact (xb_d D_World_takeOver 18 rfl))) (ok_Row_add l hfl D A σ b12 (Int32.toInt64 r15) h14 bc bs _ hw) (hml.trans hl.1.symm) (by rw [hb]; exact (xb_d D_World_takeOver 18 rfl)) (Nat.le_of_ble_eq_true rfl) (Nat.le_of_ble_eq_true rfl) (Nat.le_of_ble_eq_true rfl) (show k + bc ≤ MC by omega) (show n + bs ≤ MS by omega) (xt_w1 hB.1 m_4f1bdc54) (xt_cdOf hB.1 m_4f1bdc54) (hts _ m_c1bef504) hB hR hS hA (fun vv h17 bc18 bs18 kk18 nn18 H locs hk18 hn18 hq hEh17 hR hS => ?_) (fun XX ax h17 bc18 bs18 kk18 nn18 H locs hk18 hn18 hq hEh17 hex hR hS => ?_)
    · obtain ⟨rfl, hw⟩ := hq
      have hw := hw hEh17
      have hE := hE.tr hEh17
      refine W.eq (g2 := F0 m 62 ls []) rfl ?_
      refine lv_aload_n hx hb (xb_d D_World_takeOver 19 rfl) rfl (lv_at hl 1 rfl) ?_
      refine lv_aload_n hx hb (xb_d D_World_takeOver 20 rfl) rfl (lv_at hl 4 rfl) ?_
      refine lv_iload hx hb (xb_d D_World_takeOver 21 rfl) (lv_at hl 5 rfl) ?_
      have hk13 : xb_k h14 x3 = 11 := hEh14.k hk13
      have hk13 : xb_k h17 x3 = 11 := hEh17.k hk13
      refine xb_call0 (D := D) (A := A) (σ := σ) (h := h17) (d := 2) (maxL := 3) (rest := [.ref x0]) (av := [.ref x3, .int x4]) (fun T hT X => by obtain ⟨cb9, ra9, rb9, rc9⟩ := xb_recv (ci := 10) hR rfl hk13 (by decide); exact xt_invV X hx hown (hts _ m_263e7717) (hts _ m_3dbccea2) (hts _ m_6ce97918) (xt_sigOf (hts _ m_0d2452ce)) nm_Instance_functionId (by rw [hT]; exact ra9) rb9 rc9 (g := F0 m 66 ls [.int x4, .ref x3, .ref x0]) rfl (argsL := [.int x4]) (rest := [.ref x0]) rfl rfl (by rw [hb]; exact (xb_d D_World_takeOver 22 rfl))) (ok_Instance_functionId l hfl D A σ x3 x4 h17 _ hw) (hml.trans hl.1.symm) (by rw [hb]; exact (xb_d D_World_takeOver 22 rfl)) (Nat.le_of_ble_eq_true rfl) (Nat.le_of_ble_eq_true rfl) (Nat.le_of_ble_eq_true rfl) (show (k + kk18) ≤ MC by omega) (show (n + nn18) ≤ MS by omega) (xt_w1 hB.1 m_0d2452ce) (xt_cdOf hB.1 m_0d2452ce) (hts _ m_7a4e907b) hB hR hS hA (fun vv h19 H locs hq hEh19 hR hS => ?_)
      obtain ⟨r20, rfl, hw⟩ := hq
      have hw := hw hEh19
      have hE := hE.tr hEh19
      refine W.eq (g2 := F0 m 69 ls [.int r20, .ref x0]) rfl ?_
      refine lv_aload_n hx hb (xb_d D_World_takeOver 23 rfl) rfl (lv_at hl 2 rfl) ?_
      refine lv_aload_n hx hb (xb_d D_World_takeOver 24 rfl) rfl (lv_at hl 2 rfl) ?_
      refine lv_iload hx hb (xb_d D_World_takeOver 25 rfl) (lv_at hl 0 rfl) ?_
      have hk1 : xb_k h8 x1 = 3 := hEh8.k hk1
      have hk1 : xb_k h14 x1 = 3 := hEh14.k hk1
      have hk1 : xb_k h17 x1 = 3 := hEh17.k hk1
      have hk1 : xb_k h19 x1 = 3 := hEh19.k hk1
      refine xb_call0 (D := D) (A := A) (σ := σ) (h := h19) (d := 3) (maxL := 2) (rest := [.ref x1, .int r20, .ref x0]) (av := [.ref x1, .int r5]) (fun T hT X => by obtain ⟨cb9, ra9, rb9, rc9⟩ := xb_recv (ci := 2) hR rfl hk1 (by decide); exact xt_invV X hx hown (hts _ m_a6959a1f) (hts _ m_eb5729e5) (hts _ m_9cf0d8be) (xt_sigOf (hts _ m_42e2443a)) nm_StackModule_typeOf (by rw [hT]; exact ra9) rb9 rc9 (g := F0 m 73 ls [.int r5, .ref x1, .ref x1, .int r20, .ref x0]) rfl (argsL := [.int r5]) (rest := [.ref x1, .int r20, .ref x0]) rfl rfl (by rw [hb]; exact (xb_d D_World_takeOver 26 rfl))) (ok_StackModule_typeOf l hfl D A σ x1 r5 h19 _ hw) (hml.trans hl.1.symm) (by rw [hb]; exact (xb_d D_World_takeOver 26 rfl)) (Nat.le_of_ble_eq_true rfl) (Nat.le_of_ble_eq_true rfl) (Nat.le_of_ble_eq_true rfl) (show (k + kk18) ≤ MC by omega) (show (n + nn18) ≤ MS by omega) (xt_w1 hB.1 m_42e2443a) (xt_cdOf hB.1 m_42e2443a) (hts _ m_9c375545) hB hR hS hA (fun vv h21 H locs hq hEh21 hR hS => ?_)
      obtain ⟨r22, rfl, hw⟩ := hq
      have hw := hw hEh21
      have hE := hE.tr hEh21
      refine W.eq (g2 := F0 m 76 ls [.int r22, .ref x1, .int r20, .ref x0]) rfl ?_
      have hk11 : xb_k h14 x0 = 7 := hEh14.k hk11
      have hk11 : xb_k h17 x0 = 7 := hEh17.k hk11
      have hk11 : xb_k h19 x0 = 7 := hEh19.k hk11
      have hk11 : xb_k h21 x0 = 7 := hEh21.k hk11
      refine xb_call0 (D := D) (A := A) (σ := σ) (h := h21) (d := 4) (maxL := 5) (rest := []) (av := [.ref x0, .int r20, .ref x1, .int r22]) (fun T hT X => by obtain ⟨cb9, ra9, rb9, rc9⟩ := xb_recv (ci := 6) hR rfl hk11 (by decide); exact xt_invV X hx hown (hts _ m_d735d8e6) (hts _ m_694f954f) (hts _ m_d14fe5df) (xt_sigOf (hts _ m_af77d148)) nm_World_fits (by rw [hT]; exact ra9) rb9 rc9 (g := F0 m 76 ls [.int r22, .ref x1, .int r20, .ref x0]) rfl (argsL := [.int r20, .ref x1, .int r22]) (rest := []) rfl rfl (by rw [hb]; exact (xb_d D_World_takeOver 27 rfl))) (ok_World_fits l hfl D A σ x0 r20 x1 r22 h21 _ hw) (hml.trans hl.1.symm) (by rw [hb]; exact (xb_d D_World_takeOver 27 rfl)) (Nat.le_of_ble_eq_true rfl) (Nat.le_of_ble_eq_true rfl) (Nat.le_of_ble_eq_true rfl) (show (k + kk18) ≤ MC by omega) (show (n + nn18) ≤ MS by omega) (xt_w1 hB.1 m_af77d148) (xt_cdOf hB.1 m_af77d148) (hts _ m_4534b440) hB hR hS hA (fun vv h23 H locs hq hEh23 hR hS => ?_)
      obtain ⟨r24, rfl, hw⟩ := hq
      have hw := hw hEh23
      have hE := hE.tr hEh23
      refine W.eq (g2 := F0 m 79 ls [.int r24]) rfl ?_
      exact xb_zret bc18 bs18 hx hb hr hlocks (show (k + kk18) + bc18 ≤ MC by omega) (show (n + nn18) + bs18 ≤ MS by omega) hw.1 hE hR hS (xb_d D_World_takeOver 28 rfl) hw.2
    · exact False.elim hq
  have hw := hw.2
  by_cases hc25 : r9 = 1
  · have hw := hw.1 hc25
    refine xt_numi hc25 ?_
    refine lv_tableIn (off := 60) (tgt := 80) hx hb (xb_d D_World_takeOver 11 rfl) (by decide +kernel) (by decide +kernel) (by decide +kernel) (by decide) ?_
    refine lv_aload_n hx hb (xb_d D_World_takeOver 29 rfl) rfl (lv_at hl 1 rfl) ?_
    refine lv_aload_n hx hb (xb_d D_World_takeOver 30 rfl) rfl (lv_at hl 4 rfl) ?_
    obtain ⟨hk26, hw⟩ := hw
    refine xb_getP (C := R_Instance) (T := F_Instance) (N := 8) hx hb 10 6 hts fin_Instance hown hR hk26 (by decide) rfl (by decide) rfl (hts _ m_89519114) (fun _ h9 => h9) (xb_d D_World_takeOver 31 rfl) ?_
    obtain ⟨hk27, hw⟩ := hw
    refine xb_putP (C := R_World) (T := F_World) (N := 16) (ty := .object "StackHost$Table") (x := (xb_r h8 x3 6)) hx hb 6 14 hts fin_World t_World t_World_ok n_World hown hR hS hk27 (by decide) rfl (by decide) rfl (hts _ m_ed0a73ed) (fun _ h9 => h9) rfl (by decide +kernel) (xb_pnO _ _).1 (xb_pnO _ _).2 (xb_d D_World_takeOver 32 rfl) (fun H locs hR hS => ?_)
    obtain ⟨h28, eh28⟩ : ∃ x : xb_H, x = xb_P h8 x0 14 (xb_r h8 x3 6) := ⟨_, rfl⟩
    rw [← eh28] at hR
    have hw := hw h28 eh28
    have hE : xb_ext h0 h28 := by rw [eh28]; exact hE
    refine lv_aload_n hx hb (xb_d D_World_takeOver 33 rfl) rfl (lv_at hl 1 rfl) ?_
    have hk27 : xb_k h28 x0 = 7 := by rw [eh28]; exact hk27
    refine xb_getP (C := R_World) (T := F_World) (N := 16) hx hb 6 14 hts fin_World hown hR hk27 (by decide) rfl (by decide) rfl (hts _ m_ed0a73ed) (fun _ h9 => h9) (xb_d D_World_takeOver 34 rfl) ?_
    refine xb_split (fun ho => ?_) (fun b29 ho => ?_)
    · have hw := hw.1 ho
      refine lv_ifnullN (tgt := 125) hx hb (xb_d D_World_takeOver 35 rfl) rfl ?_
      exact am_World_takeOver_L125 l hfl D A σ MC MS h0 Qr h28 bc bs hw p e s m args below meth c hC H locs ls k n hE (lv_sub hl [] rfl) hR hS (by omega) (by omega)
    · have hw := hw.2 b29 ho
      refine lv_ifnull hx hb (xb_d D_World_takeOver 35 rfl) ?_
      refine lv_aload_n hx hb (xb_d D_World_takeOver 36 rfl) rfl (lv_at hl 2 rfl) ?_
      have hk1 : xb_k h8 x1 = 3 := hEh8.k hk1
      have hk1 : xb_k h28 x1 = 3 := by rw [eh28]; exact hk1
      refine xb_getP (C := R_StackModule) (T := F_StackModule) (N := 19) hx hb 2 5 hts fin_StackModule hown hR hk1 (by decide) rfl (by decide) rfl (hts _ m_dbd9d8fa) (fun _ h9 => h9) (xb_d D_World_takeOver 37 rfl) ?_
      obtain ⟨b30, eb30, hw⟩ := hw
      refine xb_some eb30 ?_
      refine lv_iload hx hb (xb_d D_World_takeOver 38 rfl) (lv_at hl 0 rfl) ?_
      refine lv_aload_n hx hb (xb_d D_World_takeOver 39 rfl) rfl (lv_at hl 1 rfl) ?_
      refine xb_getP (C := R_World) (T := F_World) (N := 16) hx hb 6 14 hts fin_World hown hR hk27 (by decide) rfl (by decide) rfl (hts _ m_ed0a73ed) (fun _ h9 => h9) (xb_d D_World_takeOver 40 rfl) ?_
      obtain ⟨b31, eb31, hw⟩ := hw
      refine xb_some eb31 ?_
      obtain ⟨hk32, hw⟩ := hw
      refine xb_getI (C := R_Table) (T := F_Table) (N := 3) hx hb 11 1 hts fin_Table hown hR hk32 (by decide) rfl (by decide) rfl (hts _ m_d3fe0b65) (fun _ h9 => h9) (xb_d D_World_takeOver 41 rfl) ?_
      refine lv_aload_n hx hb (xb_d D_World_takeOver 42 rfl) rfl (lv_at hl 1 rfl) ?_
      refine xb_getP (C := R_World) (T := F_World) (N := 16) hx hb 6 14 hts fin_World hown hR hk27 (by decide) rfl (by decide) rfl (hts _ m_ed0a73ed) (fun _ h9 => h9) (xb_d D_World_takeOver 43 rfl) ?_
      obtain ⟨b33, eb33, hw⟩ := hw
      refine xb_some eb33 ?_
      obtain ⟨hk34, hw⟩ := hw
      refine xb_getL (C := R_Table) (T := F_Table) (N := 3) hx hb 11 2 hts fin_Table hown hR hk34 (by decide) rfl (by decide) rfl (hts _ m_5fa9adee) (fun _ h9 => h9) (xb_d D_World_takeOver 44 rfl) ?_
      refine xb_call0 (D := D) (A := A) (σ := σ) (h := h28) (d := 3) (maxL := 7) (rest := []) (av := [.ref b30, .int r5, .int (xb_i h28 b31 1), .long (xb_l h28 b33 2)]) (fun T hT X => xt_invS X hx hown (hts _ m_ef42478a) (hts _ m_b5b97c89) (hts _ m_4534b440) (xt_sgS (hts _ m_6798dad1)).1 (xt_sgS (hts _ m_6798dad1)).2 nm_World_isWithin (g := F0 m 115 ls [.long (xb_l h28 b33 2), .int (xb_i h28 b31 1), .int r5, .ref b30]) rfl (argsL := [.ref b30, .int r5, .int (xb_i h28 b31 1), .long (xb_l h28 b33 2)]) (rest := []) rfl rfl (by rw [hb]; exact (xb_d D_World_takeOver 45 rfl))) (ok_World_isWithin l hfl D A σ b30 r5 (xb_i h28 b31 1) (xb_l h28 b33 2) h28 _ hw) (hml.trans hl.1.symm) (by rw [hb]; exact (xb_d D_World_takeOver 45 rfl)) (Nat.le_of_ble_eq_true rfl) (Nat.le_of_ble_eq_true rfl) (Nat.le_of_ble_eq_true rfl) (show k ≤ MC by omega) (show n ≤ MS by omega) (xt_w1 hB.1 m_6798dad1) (xt_cdOf hB.1 m_6798dad1) (hts _ m_4534b440) hB hR hS hA (fun vv h35 H locs hq hEh35 hR hS => ?_)
      obtain ⟨r36, rfl, hw⟩ := hq
      have hw := hw hEh35
      have hE := hE.tr hEh35
      refine W.eq (g2 := F0 m 118 ls [.int r36]) rfl ?_
      refine lv_if_eq (tgt := 125) hx hb (xb_d D_World_takeOver 46 rfl) rfl (fun hc37 => ?_) (fun hc37 => ?_)
      · have hw := hw.1 hc37
        exact am_World_takeOver_L125 l hfl D A σ MC MS h0 Qr h35 bc bs hw p e s m args below meth c hC H locs ls k n hE (lv_sub hl [] rfl) hR hS (by omega) (by omega)
      · have hw := hw.2 hc37
        refine lv_iconst (v := 1) hx hb (xb_d D_World_takeOver 47 rfl) (by decide) ?_
        refine lv_goto (tgt := 126) hx hb (xb_d D_World_takeOver 48 rfl) rfl ?_
        exact am_World_takeOver_L126 l hfl D A σ MC MS h0 Qr 1 h35 bc bs hw p e s m args below meth c hC H locs ls k n hE (lv_sub hl [] rfl) hR hS (by omega) (by omega)
  have hw := hw.2
  by_cases hc38 : r9 = 2
  · have hw := hw.1 hc38
    refine xt_numi hc38 ?_
    refine lv_tableIn (off := 107) (tgt := 127) hx hb (xb_d D_World_takeOver 11 rfl) (by decide +kernel) (by decide +kernel) (by decide +kernel) (by decide) ?_
    refine lv_aload_n hx hb (xb_d D_World_takeOver 51 rfl) rfl (lv_at hl 1 rfl) ?_
    refine lv_aload_n hx hb (xb_d D_World_takeOver 52 rfl) rfl (lv_at hl 4 rfl) ?_
    obtain ⟨hk39, hw⟩ := hw
    refine xb_getP (C := R_Instance) (T := F_Instance) (N := 8) hx hb 10 7 hts fin_Instance hown hR hk39 (by decide) rfl (by decide) rfl (hts _ m_1fb067e2) (fun _ h9 => h9) (xb_d D_World_takeOver 53 rfl) ?_
    obtain ⟨hk40, hw⟩ := hw
    refine xb_putP (C := R_World) (T := F_World) (N := 16) (ty := .object "StackHost$Memory") (x := (xb_r h8 x3 7)) hx hb 6 15 hts fin_World t_World t_World_ok n_World hown hR hS hk40 (by decide) rfl (by decide) rfl (hts _ m_0dd66e73) (fun _ h9 => h9) rfl (by decide +kernel) (xb_pnO _ _).1 (xb_pnO _ _).2 (xb_d D_World_takeOver 54 rfl) (fun H locs hR hS => ?_)
    obtain ⟨h41, eh41⟩ : ∃ x : xb_H, x = xb_P h8 x0 15 (xb_r h8 x3 7) := ⟨_, rfl⟩
    rw [← eh41] at hR
    have hw := hw h41 eh41
    have hE : xb_ext h0 h41 := by rw [eh41]; exact hE
    refine lv_aload_n hx hb (xb_d D_World_takeOver 55 rfl) rfl (lv_at hl 1 rfl) ?_
    have hk40 : xb_k h41 x0 = 7 := by rw [eh41]; exact hk40
    refine xb_getP (C := R_World) (T := F_World) (N := 16) hx hb 6 15 hts fin_World hown hR hk40 (by decide) rfl (by decide) rfl (hts _ m_0dd66e73) (fun _ h9 => h9) (xb_d D_World_takeOver 56 rfl) ?_
    refine xb_split (fun ho => ?_) (fun b42 ho => ?_)
    · have hw := hw.1 ho
      refine lv_ifnullN (tgt := 172) hx hb (xb_d D_World_takeOver 57 rfl) rfl ?_
      exact am_World_takeOver_L172 l hfl D A σ MC MS h0 Qr h41 bc bs hw p e s m args below meth c hC H locs ls k n hE (lv_sub hl [] rfl) hR hS (by omega) (by omega)
    · have hw := hw.2 b42 ho
      refine lv_ifnull hx hb (xb_d D_World_takeOver 57 rfl) ?_
      refine lv_aload_n hx hb (xb_d D_World_takeOver 58 rfl) rfl (lv_at hl 2 rfl) ?_
      have hk1 : xb_k h8 x1 = 3 := hEh8.k hk1
      have hk1 : xb_k h41 x1 = 3 := by rw [eh41]; exact hk1
      refine xb_getP (C := R_StackModule) (T := F_StackModule) (N := 19) hx hb 2 6 hts fin_StackModule hown hR hk1 (by decide) rfl (by decide) rfl (hts _ m_b7b853d9) (fun _ h9 => h9) (xb_d D_World_takeOver 59 rfl) ?_
      obtain ⟨b43, eb43, hw⟩ := hw
      refine xb_some eb43 ?_
      refine lv_iload hx hb (xb_d D_World_takeOver 60 rfl) (lv_at hl 0 rfl) ?_
      refine lv_aload_n hx hb (xb_d D_World_takeOver 61 rfl) rfl (lv_at hl 1 rfl) ?_
      refine xb_getP (C := R_World) (T := F_World) (N := 16) hx hb 6 15 hts fin_World hown hR hk40 (by decide) rfl (by decide) rfl (hts _ m_0dd66e73) (fun _ h9 => h9) (xb_d D_World_takeOver 62 rfl) ?_
      obtain ⟨b44, eb44, hw⟩ := hw
      refine xb_some eb44 ?_
      obtain ⟨hk45, hw⟩ := hw
      refine xb_getI (C := R_Memory) (T := F_Memory) (N := 4) hx hb 12 3 hts fin_Memory hown hR hk45 (by decide) rfl (by decide) rfl (hts _ m_727b55dc) (fun _ h9 => h9) (xb_d D_World_takeOver 63 rfl) ?_
      refine lv_aload_n hx hb (xb_d D_World_takeOver 64 rfl) rfl (lv_at hl 1 rfl) ?_
      refine xb_getP (C := R_World) (T := F_World) (N := 16) hx hb 6 15 hts fin_World hown hR hk40 (by decide) rfl (by decide) rfl (hts _ m_0dd66e73) (fun _ h9 => h9) (xb_d D_World_takeOver 65 rfl) ?_
      obtain ⟨b46, eb46, hw⟩ := hw
      refine xb_some eb46 ?_
      obtain ⟨hk47, hw⟩ := hw
      refine xb_getL (C := R_Memory) (T := F_Memory) (N := 4) hx hb 12 1 hts fin_Memory hown hR hk47 (by decide) rfl (by decide) rfl (hts _ m_0c6c8267) (fun _ h9 => h9) (xb_d D_World_takeOver 66 rfl) ?_
      refine xb_call0 (D := D) (A := A) (σ := σ) (h := h41) (d := 3) (maxL := 7) (rest := []) (av := [.ref b43, .int r5, .int (xb_i h41 b44 3), .long (xb_l h41 b46 1)]) (fun T hT X => xt_invS X hx hown (hts _ m_ef42478a) (hts _ m_b5b97c89) (hts _ m_4534b440) (xt_sgS (hts _ m_6798dad1)).1 (xt_sgS (hts _ m_6798dad1)).2 nm_World_isWithin (g := F0 m 162 ls [.long (xb_l h41 b46 1), .int (xb_i h41 b44 3), .int r5, .ref b43]) rfl (argsL := [.ref b43, .int r5, .int (xb_i h41 b44 3), .long (xb_l h41 b46 1)]) (rest := []) rfl rfl (by rw [hb]; exact (xb_d D_World_takeOver 67 rfl))) (ok_World_isWithin l hfl D A σ b43 r5 (xb_i h41 b44 3) (xb_l h41 b46 1) h41 _ hw) (hml.trans hl.1.symm) (by rw [hb]; exact (xb_d D_World_takeOver 67 rfl)) (Nat.le_of_ble_eq_true rfl) (Nat.le_of_ble_eq_true rfl) (Nat.le_of_ble_eq_true rfl) (show k ≤ MC by omega) (show n ≤ MS by omega) (xt_w1 hB.1 m_6798dad1) (xt_cdOf hB.1 m_6798dad1) (hts _ m_4534b440) hB hR hS hA (fun vv h48 H locs hq hEh48 hR hS => ?_)
      obtain ⟨r49, rfl, hw⟩ := hq
      have hw := hw hEh48
      have hE := hE.tr hEh48
      refine W.eq (g2 := F0 m 165 ls [.int r49]) rfl ?_
      refine lv_if_eq (tgt := 172) hx hb (xb_d D_World_takeOver 68 rfl) rfl (fun hc50 => ?_) (fun hc50 => ?_)
      · have hw := hw.1 hc50
        exact am_World_takeOver_L172 l hfl D A σ MC MS h0 Qr h48 bc bs hw p e s m args below meth c hC H locs ls k n hE (lv_sub hl [] rfl) hR hS (by omega) (by omega)
      · have hw := hw.2 hc50
        refine lv_iconst (v := 1) hx hb (xb_d D_World_takeOver 69 rfl) (by decide) ?_
        refine lv_goto (tgt := 173) hx hb (xb_d D_World_takeOver 70 rfl) rfl ?_
        exact am_World_takeOver_L173 l hfl D A σ MC MS h0 Qr 1 h48 bc bs hw p e s m args below meth c hC H locs ls k n hE (lv_sub hl [] rfl) hR hS (by omega) (by omega)
  have hw := hw.2
  have hw := hw hc10 hc25 hc38
  refine lv_tableOut (tgt := 174) hx hb (xb_d D_World_takeOver 11 rfl) (by have a0 := xb_nl (0) 0 (by decide) hc10; have a1 := xb_nl (1) 1 (by decide) hc25; have a2 := xb_nl (2) 2 (by decide) hc38; omega) (by decide) ?_
  refine lv_aload_n hx hb (xb_d D_World_takeOver 73 rfl) rfl (lv_at hl 1 rfl) ?_
  obtain ⟨hk51, hw⟩ := hw
  refine xb_getP (C := R_World) (T := F_World) (N := 16) hx hb 6 13 hts fin_World hown hR hk51 (by decide) rfl (by decide) rfl (hts _ m_808dc970) (fun _ h9 => h9) (xb_d D_World_takeOver 74 rfl) ?_
  obtain ⟨b52, eb52, hw⟩ := hw
  refine xb_some eb52 ?_
  refine lv_aload_n hx hb (xb_d D_World_takeOver 75 rfl) rfl (lv_at hl 4 rfl) ?_
  refine lv_iload hx hb (xb_d D_World_takeOver 76 rfl) (lv_at hl 5 rfl) ?_
  obtain ⟨hk53, hw⟩ := hw
  refine xb_call0 (D := D) (A := A) (σ := σ) (h := h8) (d := 2) (maxL := 3) (rest := [.ref b52]) (av := [.ref x3, .int x4]) (fun T hT X => by obtain ⟨cb9, ra9, rb9, rc9⟩ := xb_recv (ci := 10) hR rfl hk53 (by decide); exact xt_invV X hx hown (hts _ m_d92dee97) (hts _ m_f0cc1dad) (hts _ m_2ed43dba) (xt_sigOf (hts _ m_806ee343)) nm_Instance_variableId (by rw [hT]; exact ra9) rb9 rc9 (g := F0 m 181 ls [.int x4, .ref x3, .ref b52]) rfl (argsL := [.int x4]) (rest := [.ref b52]) rfl rfl (by rw [hb]; exact (xb_d D_World_takeOver 77 rfl))) (ok_Instance_variableId l hfl D A σ x3 x4 h8 _ hw) (hml.trans hl.1.symm) (by rw [hb]; exact (xb_d D_World_takeOver 77 rfl)) (Nat.le_of_ble_eq_true rfl) (Nat.le_of_ble_eq_true rfl) (Nat.le_of_ble_eq_true rfl) (show k ≤ MC by omega) (show n ≤ MS by omega) (xt_w1 hB.1 m_806ee343) (xt_cdOf hB.1 m_806ee343) (hts _ m_7a4e907b) hB hR hS hA (fun vv h54 H locs hq hEh54 hR hS => ?_)
  obtain ⟨r55, rfl, hw⟩ := hq
  have hw := hw hEh54
  have hE := hE.tr hEh54
  refine W.eq (g2 := F0 m 184 ls [.int r55, .ref b52]) rfl ?_
  refine lv_i2l hx hb (xb_d D_World_takeOver 78 rfl) rfl ?_
  obtain ⟨hk56, hw⟩ := hw
  refine xb_call (D := D) (A := A) (σ := σ) (h := h54) (d := 4) (mc := bc) (ms := bs) (maxL := 3) (rest := []) (av := [.ref b52, .long (Int32.toInt64 r55)]) (fun T hT X => by obtain ⟨cb9, ra9, rb9, rc9⟩ := xb_recv (ci := 1) hR rfl hk56 (by decide); exact xt_invV X hx hown (hts _ m_6ab0aa52) (hts _ m_7e8d081f) (hts _ m_4e47f51a) (xt_sigOf (hts _ m_4f1bdc54)) nm_Row_add (by rw [hT]; exact ra9) rb9 rc9 (g := F0 m 185 ls [.long (Int32.toInt64 r55), .ref b52]) rfl (argsL := [.long (Int32.toInt64 r55)]) (rest := []) rfl rfl (by rw [hb]; exact (xb_d D_World_takeOver 79 rfl))) (ok_Row_add l hfl D A σ b52 (Int32.toInt64 r55) h54 bc bs _ hw) (hml.trans hl.1.symm) (by rw [hb]; exact (xb_d D_World_takeOver 79 rfl)) (Nat.le_of_ble_eq_true rfl) (Nat.le_of_ble_eq_true rfl) (Nat.le_of_ble_eq_true rfl) (show k + bc ≤ MC by omega) (show n + bs ≤ MS by omega) (xt_w1 hB.1 m_4f1bdc54) (xt_cdOf hB.1 m_4f1bdc54) (hts _ m_c1bef504) hB hR hS hA (fun vv h57 bc58 bs58 kk58 nn58 H locs hk58 hn58 hq hEh57 hR hS => ?_) (fun XX ax h57 bc58 bs58 kk58 nn58 H locs hk58 hn58 hq hEh57 hex hR hS => ?_)
  · obtain ⟨rfl, hw⟩ := hq
    have hw := hw hEh57
    have hE := hE.tr hEh57
    refine W.eq (g2 := F0 m 188 ls []) rfl ?_
    refine lv_aload_n hx hb (xb_d D_World_takeOver 80 rfl) rfl (lv_at hl 2 rfl) ?_
    refine lv_iload hx hb (xb_d D_World_takeOver 81 rfl) (lv_at hl 0 rfl) ?_
    refine lv_aload_n hx hb (xb_d D_World_takeOver 82 rfl) rfl (lv_at hl 4 rfl) ?_
    have hk53 : xb_k h54 x3 = 11 := hEh54.k hk53
    have hk53 : xb_k h57 x3 = 11 := hEh57.k hk53
    refine xb_getP (C := R_Instance) (T := F_Instance) (N := 8) hx hb 10 1 hts fin_Instance hown hR hk53 (by decide) rfl (by decide) rfl (hts _ m_22811004) (fun _ h9 => h9) (xb_d D_World_takeOver 83 rfl) ?_
    obtain ⟨b59, eb59, hw⟩ := hw
    refine xb_some eb59 ?_
    refine lv_iload hx hb (xb_d D_World_takeOver 84 rfl) (lv_at hl 5 rfl) ?_
    refine xb_call0 (D := D) (A := A) (σ := σ) (h := h57) (d := 3) (maxL := 4) (rest := []) (av := [.ref x1, .int r5, .ref b59, .int x4]) (fun T hT X => xt_invS X hx hown (hts _ m_83a5cb60) (hts _ m_84424631) (hts _ m_4534b440) (xt_sgS (hts _ m_2903e8bc)).1 (xt_sgS (hts _ m_2903e8bc)).2 nm_World_sameVariable (g := F0 m 197 ls [.int x4, .ref b59, .int r5, .ref x1]) rfl (argsL := [.ref x1, .int r5, .ref b59, .int x4]) (rest := []) rfl rfl (by rw [hb]; exact (xb_d D_World_takeOver 85 rfl))) (ok_World_sameVariable l hfl D A σ x1 r5 b59 x4 h57 _ hw) (hml.trans hl.1.symm) (by rw [hb]; exact (xb_d D_World_takeOver 85 rfl)) (Nat.le_of_ble_eq_true rfl) (Nat.le_of_ble_eq_true rfl) (Nat.le_of_ble_eq_true rfl) (show (k + kk58) ≤ MC by omega) (show (n + nn58) ≤ MS by omega) (xt_w1 hB.1 m_2903e8bc) (xt_cdOf hB.1 m_2903e8bc) (hts _ m_4534b440) hB hR hS hA (fun vv h60 H locs hq hEh60 hR hS => ?_)
    obtain ⟨r61, rfl, hw⟩ := hq
    have hw := hw hEh60
    have hE := hE.tr hEh60
    refine W.eq (g2 := F0 m 200 ls [.int r61]) rfl ?_
    exact xb_zret bc58 bs58 hx hb hr hlocks (show (k + kk58) + bc58 ≤ MC by omega) (show (n + nn58) + bs58 ≤ MS by omega) hw.1 hE hR hS (xb_d D_World_takeOver 86 rfl) hw.2
  · exact False.elim hq

