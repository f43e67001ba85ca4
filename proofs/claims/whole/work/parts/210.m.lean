theorem m_3e6783db : (.fieldLink "StackHost$Memory" 29 "StackHost$Row" "items" "[J" : Cond) ∈ xt_tbl := xt_in (xt_t1 (List.mem_of_getElem? (i := 147) (by decide +kernel))) (by decide +kernel)
theorem m_da9631d9 : (.methodLink "StackHost$Memory" 35 y_Memory_wordOf : Cond) ∈ xt_tbl := xt_in (xt_t7 (List.mem_of_getElem? (i := 108) (by decide +kernel))) (by decide +kernel)
theorem m_7d011739 : (.instanceMethod y_Memory_wordOf : Cond) ∈ xt_tbl := xt_in (xt_t7 (List.mem_of_getElem? (i := 110) (by decide +kernel))) (by decide +kernel)
theorem m_81c59efd : (.selects "StackHost$Memory" y_Memory_wordOf y_Memory_wordOf : Cond) ∈ xt_tbl := xt_in (xt_v6 (q := (⟨"StackHost$Memory", "wordOf", "(I)I"⟩, 4)) (List.mem_of_getElem? (i := 1) (by decide +kernel))) (by decide +kernel)
theorem m_69b3bf2a : (.code y_Memory_wordOf b_Memory_wordOf 2 (some .int) : Cond) ∈ xt_tbl := xt_in (xt_t7 (List.mem_of_getElem? (i := 111) (by decide +kernel))) (by decide +kernel)
theorem nm_Memory_wordOf : xt_nm y_Memory_wordOf 1 := ⟨by decide +kernel, by decide +kernel⟩
set_option maxRecDepth 100000 in
def T_Memory_byteAt : List (Nat × Instr × Nat) := [(0, .aload_n 0, 1), (1, .getfield 15, 3), (4, .getfield 29, 3), (7, .aload_n 0, 1), (8, .iload_n 1, 1), (9, .invokevirtual 35, 3), (12, .laload, 1), (13, .iload_n 1, 1), (14, .bipush 7, 2), (16, .iand, 1), (17, .iconst 3, 1), (18, .ishl, 1), (19, .lushr, 1), (20, .l2i, 1), (21, .sipush 255, 3), (24, .iand, 1), (25, .ireturn, 1)]
theorem D_Memory_byteAt : ∀ q ∈ T_Memory_byteAt, decode b_Memory_byteAt q.1 = .ok (q.2.1, q.2.2) := by decide +kernel
def w_Memory_byteAt (x0 : Nat) (x1 : Int32) (h : xb_H) (Qr : Int32 → xb_H → Prop) : Prop :=
    xb_k h x0 = 13 ∧ ∃ b2 : Nat, (xb_r h x0 0) = some b2 ∧ xb_k h b2 = 2 ∧ ∃ b4 : Nat, (xb_r h b2 0) = some b4 ∧ w_Memory_wordOf x0 x1 h (fun (r6 : Int32) (h5 : xb_H) => xb_ext h h5 → xb_k h5 b4 = 103 ∧ vp_in r6 (xb_n h5 b4) ∧ Qr ((Int64.toInt32 (xb_lushr (xb_l h5 b4 (Int32.toNatClampNeg r6)) ((x1 &&& 7) <<< (3 &&& 31)))) &&& 255) h5)

set_option maxHeartbeats 4000000 in
set_option maxRecDepth 100000 in
theorem ok_Memory_byteAt (l : Launch) (hfl : l.flags = pinnedFlags ++ [noTraceFlag]) (D : va_G) (A : Nat → Prop) (σ : Nat) (x0 : Nat) (x1 : Int32) (h : xb_H) (Qr : Int32 → xb_H → Prop) (hw : w_Memory_byteAt x0 x1 h Qr) : xt_Met l y_Memory_byteAt [.code y_Memory_byteAt b_Memory_byteAt 2 (some .int)] (xb_rm 3 0 0) (xb_Pc D A σ h [.ref x0, .int x1]) (xb_Qc D A h (fun v h => ∃ r, v = some (.int r) ∧ Qr r h) (fun _ _ => False)) 0 0 A := by
  refine xb_ofAm (cc := b_Memory_byteAt) (by decide) (Nat.le_of_ble_eq_true rfl) ?_
  unfold w_Memory_byteAt at hw
  show xb_am l D A σ 3 0 0 h (fun v h => ∃ r, v = some (.int r) ∧ Qr r h) (fun _ _ => False) y_Memory_byteAt.cls y_Memory_byteAt.name b_Memory_byteAt 2 ([] : List ExceptionTableEntry) (some .int) 0 [(0, .ref x0), (1, .int x1)] [] h 0 0
  obtain ⟨MC, hMC⟩ : ∃ x, x = 0 := ⟨_, rfl⟩
  obtain ⟨MS, hMS⟩ : ∃ x, x = 0 := ⟨_, rfl⟩
  rw [show xb_am l D A σ 3 0 0 = xb_am l D A σ 3 MC MS by rw [hMC, hMS]]
  obtain ⟨h0, hh0⟩ : ∃ x, x = h := ⟨_, rfl⟩
  rw [show xb_am l D A σ 3 MC MS h = xb_am l D A σ 3 MC MS h0 by rw [hh0]]
  intro p e s m args below meth c hC H locs ls k n hE hl hR hS hk hn
  obtain ⟨hx, hb, hown, hlocks, htab, hml, hr, hB, hA, hnm⟩ := id hC
  have hts := hB.1.1.at args
  refine lv_aload_n hx hb (xb_d D_Memory_byteAt 0 rfl) rfl (lv_at hl 0 rfl) ?_
  obtain ⟨hk1, hw⟩ := hw
  refine xb_getP (C := R_Memory) (T := F_Memory) (N := 4) hx hb 12 0 hts fin_Memory hown hR hk1 (by decide) rfl (by decide) rfl (hts _ m_2e5685af) (fun _ h9 => h9) (xb_d D_Memory_byteAt 1 rfl) ?_
  obtain ⟨b2, eb2, hw⟩ := hw
  refine xb_some eb2 ?_
  obtain ⟨hk3, hw⟩ := hw
  refine xb_getP (C := R_Row) (T := F_Row) (N := 3) hx hb 1 0 hts fin_Row hown hR hk3 (by decide) rfl (by decide) rfl (hts _ m_3e6783db) (fun _ h9 => h9) (xb_d D_Memory_byteAt 2 rfl) ?_
  obtain ⟨b4, eb4, hw⟩ := hw
  refine xb_some eb4 ?_
  refine lv_aload_n hx hb (xb_d D_Memory_byteAt 3 rfl) rfl (lv_at hl 0 rfl) ?_
  refine lv_iload_n hx hb (xb_d D_Memory_byteAt 4 rfl) rfl (lv_at hl 1 rfl) ?_
  refine xb_call (D := D) (A := A) (σ := σ) (h := h) (d := 2) (mc := 0) (ms := 0) (maxL := 2) (rest := [.ref b4]) (av := [.ref x0, .int x1]) (fun T hT X => by obtain ⟨cb, r1, r2, r3⟩ := xb_recv (ci := 12) hR rfl hk1 (by decide); exact xt_invV X hx hown (hts _ m_da9631d9) (hts _ m_7d011739) (hts _ m_81c59efd) (xt_sigOf (hts _ m_69b3bf2a)) nm_Memory_wordOf (by rw [hT]; exact r1) r2 r3 (g := F0 m 9 ls [.int x1, .ref x0, .ref b4]) rfl (argsL := [.int x1]) (rest := [.ref b4]) rfl rfl (by rw [hb]; exact (xb_d D_Memory_byteAt 5 rfl))) (ok_Memory_wordOf l hfl D A σ x0 x1 h _ hw) (hml.trans hl.1.symm) (by rw [hb]; exact (xb_d D_Memory_byteAt 5 rfl)) (Nat.le_of_ble_eq_true rfl) (Nat.le_of_ble_eq_true rfl) (Nat.le_of_ble_eq_true rfl) (show k + 0 ≤ MC by omega) (show n + 0 ≤ MS by omega) (xt_w1 hB.1 m_69b3bf2a) (xt_cdOf hB.1 m_69b3bf2a) (hts _ m_e7289b5f) hB hR hS hA (fun vv h5 H locs hq hEh5 hR hS => ?_) (fun XX ax h5 H locs hq hEh5 hex hR hS => ?_)
  · obtain ⟨r6, rfl, hw⟩ := hq
    have hw := hw hEh5
    have hE := hE.tr hEh5
    refine W.eq (g2 := F0 m 12 ls [.int r6, .ref b4]) rfl ?_
    obtain ⟨hk8, hw⟩ := hw
    obtain ⟨hi7, hw⟩ := hw
    refine xb_lald hx hb hR hk8 hi7 (xb_d D_Memory_byteAt 6 rfl) ?_
    refine lv_iload_n hx hb (xb_d D_Memory_byteAt 7 rfl) rfl (lv_at hl 1 rfl) ?_
    refine lv_bipush (v := 7) hx hb (xb_d D_Memory_byteAt 8 rfl) (by decide) ?_
    refine lv_iand hx hb (xb_d D_Memory_byteAt 9 rfl) ?_
    refine lv_iconst (v := 3) hx hb (xb_d D_Memory_byteAt 10 rfl) (by decide) ?_
    refine lv_ishl hx hb (xb_d D_Memory_byteAt 11 rfl) ?_
    refine lv_lushr (v := (xb_lushr (xb_l h5 b4 (Int32.toNatClampNeg r6)) ((x1 &&& 7) <<< (3 &&& 31)))) hx hb (xb_d D_Memory_byteAt 12 rfl) rfl ?_
    refine lv_l2i hx hb (xb_d D_Memory_byteAt 13 rfl) rfl ?_
    refine lv_sipush (v := 255) hx hb (xb_d D_Memory_byteAt 14 rfl) (by decide) ?_
    refine lv_iand hx hb (xb_d D_Memory_byteAt 15 rfl) ?_
    exact xb_iret hx hb hr hlocks (show k ≤ MC by omega) (show n ≤ MS by omega) hE hR hS (xb_d D_Memory_byteAt 16 rfl) hw
  · exact False.elim hq

theorem m_70d6edd6 : (.constantLong "StackHost$Memory" 39 255 : Cond) ∈ xt_tbl := xt_in (xt_t7 (List.mem_of_getElem? (i := 113) (by decide +kernel))) (by decide +kernel)
theorem m_5807cf7f : (.constantLong "StackHost$Memory" 41 (-1) : Cond) ∈ xt_tbl := xt_in (xt_t7 (List.mem_of_getElem? (i := 114) (by decide +kernel))) (by decide +kernel)
set_option maxRecDepth 100000 in
def T_Memory_setByte : List (Nat × Instr × Nat) := [(0, .aload_n 0, 1), (1, .iload_n 1, 1), (2, .invokevirtual 35, 3), (5, .istore_n 3, 1), (6, .iload_n 1, 1), (7, .bipush 7, 2), (9, .iand, 1), (10, .iconst 3, 1), (11, .ishl, 1), (12, .istore 4, 2), (14, .aload_n 0, 1), (15, .getfield 15, 3), (18, .getfield 29, 3), (21, .iload_n 3, 1), (22, .aload_n 0, 1), (23, .getfield 15, 3), (26, .getfield 29, 3), (29, .iload_n 3, 1), (30, .laload, 1), (31, .ldc2_w 39, 3), (34, .iload 4, 2), (36, .lshl, 1), (37, .ldc2_w 41, 3), (40, .lxor, 1), (41, .land, 1), (42, .iload_n 2, 1), (43, .i2l, 1), (44, .ldc2_w 39, 3), (47, .land, 1), (48, .iload 4, 2), (50, .lshl, 1), (51, .lor, 1), (52, .lastore, 1), (53, .return_, 1)]
theorem D_Memory_setByte : ∀ q ∈ T_Memory_setByte, decode b_Memory_setByte q.1 = .ok (q.2.1, q.2.2) := by decide +kernel
def w_Memory_setByte (x0 : Nat) (x1 : Int32) (x2 : Int32) (h : xb_H) (Qr : xb_H → Prop) : Prop :=
    xb_k h x0 = 13 ∧ w_Memory_wordOf x0 x1 h (fun (r3 : Int32) (h2 : xb_H) => xb_ext h h2 → ∀ v4 : Int32, v4 = ((x1 &&& 7) <<< (3 &&& 31)) → ∃ b5 : Nat, (xb_r h2 x0 0) = some b5 ∧ xb_k h2 b5 = 2 ∧ ∃ b7 : Nat, (xb_r h2 b5 0) = some b7 ∧ ∃ b8 : Nat, (xb_r h2 x0 0) = some b8 ∧ xb_k h2 b8 = 2 ∧ ∃ b10 : Nat, (xb_r h2 b8 0) = some b10 ∧ xb_k h2 b10 = 103 ∧ vp_in r3 (xb_n h2 b10) ∧ xb_k h2 b7 = 103 ∧ vp_in r3 (xb_n h2 b7) ∧ ∀ h15 : xb_H, h15 = xb_L h2 b7 (Int32.toNatClampNeg r3) (((xb_l h2 b10 (Int32.toNatClampNeg r3)) &&& ((xb_lshl 255 v4) ^^^ (-1))) ||| (xb_lshl ((Int32.toInt64 x2) &&& 255) v4)) → Qr h15)

set_option maxHeartbeats 4000000 in
set_option maxRecDepth 100000 in
theorem ok_Memory_setByte (l : Launch) (hfl : l.flags = pinnedFlags ++ [noTraceFlag]) (D : va_G) (A : Nat → Prop) (σ : Nat) (x0 : Nat) (x1 : Int32) (x2 : Int32) (h : xb_H) (Qr : xb_H → Prop) (hw : w_Memory_setByte x0 x1 x2 h Qr) : xt_Met l y_Memory_setByte [.code y_Memory_setByte b_Memory_setByte 5 none] (xb_rm 3 0 0) (xb_Pc D A σ h [.ref x0, .int x1, .int x2]) (xb_Qc D A h (fun v h => v = none ∧ Qr h) (fun _ _ => False)) 0 0 A := by
  refine xb_ofAm (cc := b_Memory_setByte) (by decide) (Nat.le_of_ble_eq_true rfl) ?_
  unfold w_Memory_setByte at hw
  show xb_am l D A σ 3 0 0 h (fun v h => v = none ∧ Qr h) (fun _ _ => False) y_Memory_setByte.cls y_Memory_setByte.name b_Memory_setByte 5 ([] : List ExceptionTableEntry) none 0 [(0, .ref x0), (1, .int x1), (2, .int x2)] [] h 0 0
  obtain ⟨MC, hMC⟩ : ∃ x, x = 0 := ⟨_, rfl⟩
  obtain ⟨MS, hMS⟩ : ∃ x, x = 0 := ⟨_, rfl⟩
  rw [show xb_am l D A σ 3 0 0 = xb_am l D A σ 3 MC MS by rw [hMC, hMS]]
  obtain ⟨h0, hh0⟩ : ∃ x, x = h := ⟨_, rfl⟩
  rw [show xb_am l D A σ 3 MC MS h = xb_am l D A σ 3 MC MS h0 by rw [hh0]]
  intro p e s m args below meth c hC H locs ls k n hE hl hR hS hk hn
  obtain ⟨hx, hb, hown, hlocks, htab, hml, hr, hB, hA, hnm⟩ := id hC
  have hts := hB.1.1.at args
  refine lv_aload_n hx hb (xb_d D_Memory_setByte 0 rfl) rfl (lv_at hl 0 rfl) ?_
  refine lv_iload_n hx hb (xb_d D_Memory_setByte 1 rfl) rfl (lv_at hl 1 rfl) ?_
  obtain ⟨hk1, hw⟩ := hw
  refine xb_call (D := D) (A := A) (σ := σ) (h := h) (d := 2) (mc := 0) (ms := 0) (maxL := 2) (rest := []) (av := [.ref x0, .int x1]) (fun T hT X => by obtain ⟨cb, r1, r2, r3⟩ := xb_recv (ci := 12) hR rfl hk1 (by decide); exact xt_invV X hx hown (hts _ m_da9631d9) (hts _ m_7d011739) (hts _ m_81c59efd) (xt_sigOf (hts _ m_69b3bf2a)) nm_Memory_wordOf (by rw [hT]; exact r1) r2 r3 (g := F0 m 2 ls [.int x1, .ref x0]) rfl (argsL := [.int x1]) (rest := []) rfl rfl (by rw [hb]; exact (xb_d D_Memory_setByte 2 rfl))) (ok_Memory_wordOf l hfl D A σ x0 x1 h _ hw) (hml.trans hl.1.symm) (by rw [hb]; exact (xb_d D_Memory_setByte 2 rfl)) (Nat.le_of_ble_eq_true rfl) (Nat.le_of_ble_eq_true rfl) (Nat.le_of_ble_eq_true rfl) (show k + 0 ≤ MC by omega) (show n + 0 ≤ MS by omega) (xt_w1 hB.1 m_69b3bf2a) (xt_cdOf hB.1 m_69b3bf2a) (hts _ m_e7289b5f) hB hR hS hA (fun vv h2 H locs hq hEh2 hR hS => ?_) (fun XX ax h2 H locs hq hEh2 hex hR hS => ?_)
  · obtain ⟨r3, rfl, hw⟩ := hq
    have hw := hw hEh2
    have hE := hE.tr hEh2
    refine W.eq (g2 := F0 m 5 ls [.int r3]) rfl ?_
    refine lv_istore_n hx hb (xb_d D_Memory_setByte 3 rfl) rfl hl (by decide) rfl (fun ls hl => ?_)
    have hl : lv_has ls 5 [(3, .int r3), (0, .ref x0), (1, .int x1), (2, .int x2)] := hl
    refine lv_iload_n hx hb (xb_d D_Memory_setByte 4 rfl) rfl (lv_at hl 2 rfl) ?_
    refine lv_bipush (v := 7) hx hb (xb_d D_Memory_setByte 5 rfl) (by decide) ?_
    refine lv_iand hx hb (xb_d D_Memory_setByte 6 rfl) ?_
    refine lv_iconst (v := 3) hx hb (xb_d D_Memory_setByte 7 rfl) (by decide) ?_
    refine lv_ishl hx hb (xb_d D_Memory_setByte 8 rfl) ?_
    obtain ⟨v4, ev4⟩ : ∃ x : Int32, x = ((x1 &&& 7) <<< (3 &&& 31)) := ⟨_, rfl⟩
    have hw := hw v4 ev4
    refine xt_numi (y := v4) ev4.symm ?_
    refine lv_istore hx hb (xb_d D_Memory_setByte 9 rfl) hl (by decide) rfl (fun ls hl => ?_)
    have hl : lv_has ls 5 [(4, .int v4), (3, .int r3), (0, .ref x0), (1, .int x1), (2, .int x2)] := hl
    refine lv_aload_n hx hb (xb_d D_Memory_setByte 10 rfl) rfl (lv_at hl 2 rfl) ?_
    have hk1 : xb_k h2 x0 = 13 := hEh2.k hk1
    refine xb_getP (C := R_Memory) (T := F_Memory) (N := 4) hx hb 12 0 hts fin_Memory hown hR hk1 (by decide) rfl (by decide) rfl (hts _ m_2e5685af) (fun _ h9 => h9) (xb_d D_Memory_setByte 11 rfl) ?_
    obtain ⟨b5, eb5, hw⟩ := hw
    refine xb_some eb5 ?_
    obtain ⟨hk6, hw⟩ := hw
    refine xb_getP (C := R_Row) (T := F_Row) (N := 3) hx hb 1 0 hts fin_Row hown hR hk6 (by decide) rfl (by decide) rfl (hts _ m_3e6783db) (fun _ h9 => h9) (xb_d D_Memory_setByte 12 rfl) ?_
    obtain ⟨b7, eb7, hw⟩ := hw
    refine xb_some eb7 ?_
    refine lv_iload_n hx hb (xb_d D_Memory_setByte 13 rfl) rfl (lv_at hl 1 rfl) ?_
    refine lv_aload_n hx hb (xb_d D_Memory_setByte 14 rfl) rfl (lv_at hl 2 rfl) ?_
    refine xb_getP (C := R_Memory) (T := F_Memory) (N := 4) hx hb 12 0 hts fin_Memory hown hR hk1 (by decide) rfl (by decide) rfl (hts _ m_2e5685af) (fun _ h9 => h9) (xb_d D_Memory_setByte 15 rfl) ?_
    obtain ⟨b8, eb8, hw⟩ := hw
    refine xb_some eb8 ?_
    obtain ⟨hk9, hw⟩ := hw
    refine xb_getP (C := R_Row) (T := F_Row) (N := 3) hx hb 1 0 hts fin_Row hown hR hk9 (by decide) rfl (by decide) rfl (hts _ m_3e6783db) (fun _ h9 => h9) (xb_d D_Memory_setByte 16 rfl) ?_
    obtain ⟨b10, eb10, hw⟩ := hw
    refine xb_some eb10 ?_
    refine lv_iload_n hx hb (xb_d D_Memory_setByte 17 rfl) rfl (lv_at hl 1 rfl) ?_
    obtain ⟨hk12, hw⟩ := hw
    obtain ⟨hi11, hw⟩ := hw
    refine xb_lald hx hb hR hk12 hi11 (xb_d D_Memory_setByte 18 rfl) ?_
    refine lv_ldc2 (v := 255) hx hb hown (hts _ m_70d6edd6) (xb_d D_Memory_setByte 19 rfl) ?_
    refine lv_iload hx hb (xb_d D_Memory_setByte 20 rfl) (lv_at hl 0 rfl) ?_
    refine lv_lshl (v := (xb_lshl 255 v4)) hx hb (xb_d D_Memory_setByte 21 rfl) rfl ?_
    refine lv_ldc2 (v := (-1)) hx hb hown (hts _ m_5807cf7f) (xb_d D_Memory_setByte 22 rfl) ?_
    refine lv_lxor hx hb (xb_d D_Memory_setByte 23 rfl) ?_
    refine lv_land hx hb (xb_d D_Memory_setByte 24 rfl) ?_
    refine lv_iload_n hx hb (xb_d D_Memory_setByte 25 rfl) rfl (lv_at hl 4 rfl) ?_
    refine lv_i2l hx hb (xb_d D_Memory_setByte 26 rfl) rfl ?_
    refine lv_ldc2 (v := 255) hx hb hown (hts _ m_70d6edd6) (xb_d D_Memory_setByte 27 rfl) ?_
    refine lv_land hx hb (xb_d D_Memory_setByte 28 rfl) ?_
    refine lv_iload hx hb (xb_d D_Memory_setByte 29 rfl) (lv_at hl 0 rfl) ?_
    refine lv_lshl (v := (xb_lshl ((Int32.toInt64 x2) &&& 255) v4)) hx hb (xb_d D_Memory_setByte 30 rfl) rfl ?_
    refine lv_lor hx hb (xb_d D_Memory_setByte 31 rfl) ?_
    obtain ⟨hk13, hw⟩ := hw
    obtain ⟨hi14, hw⟩ := hw
    refine xb_last hx hb hR hS hk13 hi14 (xb_d D_Memory_setByte 32 rfl) (fun H locs hR hS => ?_)
    obtain ⟨h15, eh15⟩ : ∃ x : xb_H, x = xb_L h2 b7 (Int32.toNatClampNeg r3) (((xb_l h2 b10 (Int32.toNatClampNeg r3)) &&& ((xb_lshl 255 v4) ^^^ (-1))) ||| (xb_lshl ((Int32.toInt64 x2) &&& 255) v4)) := ⟨_, rfl⟩
    rw [← eh15] at hR
    have hw := hw h15 eh15
    have hE : xb_ext h0 h15 := by rw [eh15]; exact hE
    exact xb_vret hx hb hr hlocks (show k ≤ MC by omega) (show n ≤ MS by omega) hE hR hS (xb_d D_Memory_setByte 33 rfl) hw
  · exact False.elim hq

theorem m_76d8349c : (.fieldLink "StackHost$Reader" 15 "StackHost$Reader" "into" "LStackHost$StackModule;" : Cond) ∈ xt_tbl := xt_in (xt_t1 (List.mem_of_getElem? (i := 50) (by decide +kernel))) (by decide +kernel)
theorem m_6fcde429 : (.methodLink "StackHost$Reader" 37 y_StackModule_fail : Cond) ∈ xt_tbl := xt_in (xt_t3 (List.mem_of_getElem? (i := 173) (by decide +kernel))) (by decide +kernel)
theorem m_49916c4b : (.fieldLink "StackHost$Reader" 30 "StackHost$Reader" "limit" "I" : Cond) ∈ xt_tbl := xt_in (xt_t1 (List.mem_of_getElem? (i := 54) (by decide +kernel))) (by decide +kernel)
set_option maxRecDepth 100000 in
def T_Reader_count : List (Nat × Instr × Nat) := [(0, .iconst 0, 1), (1, .istore_n 1, 1), (2, .iconst 0, 1), (3, .istore_n 2, 1), (4, .iload_n 2, 1), (5, .iconst 5, 1), (6, .if_icmp .ge 101, 3), (9, .aload_n 0, 1), (10, .getfield 41, 3), (13, .aload_n 0, 1), (14, .getfield 30, 3), (17, .if_icmp .lt 15, 3), (20, .aload_n 0, 1), (21, .getfield 15, 3), (24, .iconst 2, 1), (25, .aload_n 0, 1), (26, .getfield 30, 3), (29, .invokevirtual 37, 3), (32, .aload_n 0, 1), (33, .getfield 25, 3), (36, .aload_n 0, 1), (37, .getfield 41, 3), (40, .baload, 1), (41, .sipush 255, 3), (44, .iand, 1), (45, .istore_n 3, 1), (46, .iload_n 2, 1), (47, .iconst 4, 1), (48, .if_icmp .ne 21, 3), (51, .iload_n 3, 1), (52, .bipush 15, 2), (54, .if_icmp .le 15, 3), (57, .aload_n 0, 1), (58, .getfield 15, 3), (61, .iconst 3, 1), (62, .aload_n 0, 1), (63, .getfield 41, 3), (66, .invokevirtual 37, 3), (69, .aload_n 0, 1), (70, .dup, 1), (71, .getfield 41, 3), (74, .iconst 1, 1), (75, .iadd, 1), (76, .putfield 41, 3), (79, .iload_n 1, 1), (80, .iload_n 3, 1), (81, .bipush 127, 2), (83, .iand, 1), (84, .bipush 7, 2), (86, .iload_n 2, 1), (87, .imul, 1), (88, .ishl, 1), (89, .ior, 1), (90, .istore_n 1, 1), (91, .iload_n 3, 1), (92, .sipush 128, 3), (95, .if_icmp .ge 6, 3), (98, .goto 9, 3), (101, .iinc 2 1, 3), (104, .goto (-100), 3), (107, .iload_n 1, 1), (108, .ireturn, 1)]
theorem D_Reader_count : ∀ q ∈ T_Reader_count, decode b_Reader_count q.1 = .ok (q.2.1, q.2.2) := by decide +kernel
def w_Reader_count_L107 (Qr : Int32 → xb_H → Prop) (Qt : String → xb_H → Prop) (x1 : Int32) (h : xb_H) (bc : Nat) (bs : Nat) : Prop :=
    Qr x1 h

def w_Reader_count_L69 (K4 : Nat → Int32 → Int32 → xb_H → Nat → Nat → Prop) (Qr : Int32 → xb_H → Prop) (Qt : String → xb_H → Prop) (x0 : Nat) (x1 : Int32) (x2 : Int32) (x3 : Int32) (h : xb_H) (bc : Nat) (bs : Nat) : Prop :=
    xb_k h x0 = 4 ∧ ∀ h2 : xb_H, h2 = xb_I h x0 3 ((xb_i h x0 3) + 1) → ∀ v3 : Int32, v3 = (x1 ||| ((x3 &&& 127) <<< ((7 * x2) &&& 31))) → (((128 : Int32) ≤ x3 → K4 x0 v3 (x2 + 1) h2 bc bs) ∧ (¬ (128 : Int32) ≤ x3 → w_Reader_count_L107 Qr Qt v3 h2 bc bs))

def w_Reader_count_L32 (K4 : Nat → Int32 → Int32 → xb_H → Nat → Nat → Prop) (Qr : Int32 → xb_H → Prop) (Qt : String → xb_H → Prop) (x0 : Nat) (x1 : Int32) (x2 : Int32) (h : xb_H) (bc : Nat) (bs : Nat) : Prop :=
    xb_k h x0 = 4 ∧ ∃ b2 : Nat, (xb_r h x0 1) = some b2 ∧ xb_k h b2 = 100 ∧ vp_in (xb_i h x0 3) (xb_n h b2) ∧ ∀ v5 : Int32, v5 = ((xb_i h b2 (Int32.toNatClampNeg (xb_i h x0 3))) &&& 255) → ((¬ x2 = (4 : Int32) → w_Reader_count_L69 K4 Qr Qt x0 x1 x2 v5 h bc bs) ∧ (x2 = (4 : Int32) → ((v5 ≤ (15 : Int32) → w_Reader_count_L69 K4 Qr Qt x0 x1 x2 v5 h bc bs) ∧ (¬ v5 ≤ (15 : Int32) → ∃ b8 : Nat, (xb_r h x0 0) = some b8 ∧ xb_k h b8 = 3 ∧ ∃ c12 sc12 : Nat, c12 ≤ bc ∧ sc12 ≤ bs ∧ w_StackModule_fail b8 3 (xb_i h x0 3) h c12 sc12 (fun (h10 : xb_H) => xb_ext h h10 → w_Reader_count_L69 K4 Qr Qt x0 x1 x2 v5 h10 (bc - c12) (bs - sc12)) Qt))))

def w_Reader_count_L4 (Qr : Int32 → xb_H → Prop) (Qt : String → xb_H → Prop) : Nat → Nat → Int32 → Int32 → xb_H → Nat → Nat → Prop
  | 0, _, _, _, _, _, _ => False
  | n9 + 1, x0, x1, x2, h, bc, bs =>
    (((5 : Int32) ≤ x2 → w_Reader_count_L107 Qr Qt x1 h bc bs) ∧ (¬ (5 : Int32) ≤ x2 → xb_k h x0 = 4 ∧ (((xb_i h x0 3) < (xb_i h x0 4) → w_Reader_count_L32 (w_Reader_count_L4 Qr Qt n9) Qr Qt x0 x1 x2 h bc bs) ∧ (¬ (xb_i h x0 3) < (xb_i h x0 4) → ∃ b4 : Nat, (xb_r h x0 0) = some b4 ∧ xb_k h b4 = 3 ∧ ∃ c8 sc8 : Nat, c8 ≤ bc ∧ sc8 ≤ bs ∧ w_StackModule_fail b4 2 (xb_i h x0 4) h c8 sc8 (fun (h6 : xb_H) => xb_ext h h6 → w_Reader_count_L32 (w_Reader_count_L4 Qr Qt n9) Qr Qt x0 x1 x2 h6 (bc - c8) (bs - sc8)) Qt))))

def w_Reader_count (x0 : Nat) (h : xb_H) (bc : Nat) (bs : Nat) (Qr : Int32 → xb_H → Prop) (Qt : String → xb_H → Prop) : Prop :=
    (∃ n8 : Nat, w_Reader_count_L4 Qr Qt n8 x0 0 0 h bc bs)

set_option maxHeartbeats 4000000 in
set_option maxRecDepth 100000 in
theorem am_Reader_count_L107 (l : Launch) (hfl : l.flags = pinnedFlags ++ [noTraceFlag]) (D : va_G) (A : Nat → Prop) (σ MC MS : Nat) (h0 : xb_H) (Qr : Int32 → xb_H → Prop) (Qt : String → xb_H → Prop) (x1 : Int32) (h : xb_H) (bc : Nat) (bs : Nat) (hw : w_Reader_count_L107 Qr Qt x1 h bc bs) : xb_am l D A σ 3 MC MS h0 (fun v h => ∃ r, v = some (.int r) ∧ Qr r h) Qt y_Reader_count.cls y_Reader_count.name b_Reader_count 4 ([] : List ExceptionTableEntry) (some .int) 107 [(1, .int x1)] [] h bc bs := by
  unfold w_Reader_count_L107 at hw
  intro p e s m args below meth c hC H locs ls k n hE hl hR hS hk hn
  obtain ⟨hx, hb, hown, hlocks, htab, hml, hr, hB, hA, hnm⟩ := id hC
  have hts := hB.1.1.at args
  refine lv_iload_n hx hb (xb_d D_Reader_count 60 rfl) rfl (lv_at hl 0 rfl) ?_
  exact xb_iret hx hb hr hlocks (show k ≤ MC by omega) (show n ≤ MS by omega) hE hR hS (xb_d D_Reader_count 61 rfl) hw

set_option maxHeartbeats 4000000 in
set_option maxRecDepth 100000 in
theorem am_Reader_count_L69 (l : Launch) (hfl : l.flags = pinnedFlags ++ [noTraceFlag]) (D : va_G) (A : Nat → Prop) (σ MC MS : Nat) (h0 : xb_H) (Qr : Int32 → xb_H → Prop) (Qt : String → xb_H → Prop) (K4 : Nat → Int32 → Int32 → xb_H → Nat → Nat → Prop) (hK4 : ∀ (x0 : Nat) (x1 : Int32) (x2 : Int32) (h : xb_H) (bc : Nat) (bs : Nat), K4 x0 x1 x2 h bc bs → xb_am l D A σ 3 MC MS h0 (fun v h => ∃ r, v = some (.int r) ∧ Qr r h) Qt y_Reader_count.cls y_Reader_count.name b_Reader_count 4 ([] : List ExceptionTableEntry) (some .int) 4 [(0, .ref x0), (1, .int x1), (2, .int x2)] [] h bc bs) (x0 : Nat) (x1 : Int32) (x2 : Int32) (x3 : Int32) (h : xb_H) (bc : Nat) (bs : Nat) (hw : w_Reader_count_L69 K4 Qr Qt x0 x1 x2 x3 h bc bs) : xb_am l D A σ 3 MC MS h0 (fun v h => ∃ r, v = some (.int r) ∧ Qr r h) Qt y_Reader_count.cls y_Reader_count.name b_Reader_count 4 ([] : List ExceptionTableEntry) (some .int) 69 [(0, .ref x0), (1, .int x1), (2, .int x2), (3, .int x3)] [] h bc bs := by
  unfold w_Reader_count_L69 at hw
  intro p e s m args below meth c hC H locs ls k n hE hl hR hS hk hn
  obtain ⟨hx, hb, hown, hlocks, htab, hml, hr, hB, hA, hnm⟩ := id hC
  have hts := hB.1.1.at args
  refine lv_aload_n hx hb (xb_d D_Reader_count 38 rfl) rfl (lv_at hl 0 rfl) ?_
  refine lv_dup hx hb (xb_d D_Reader_count 39 rfl) rfl ?_
  obtain ⟨hk1, hw⟩ := hw
  refine xb_getI (C := R_Reader) (T := F_Reader) (N := 6) hx hb 3 3 hts fin_Reader hown hR hk1 (by decide) rfl (by decide) rfl (hts _ m_a9b84ac2) (fun _ h9 => h9) (xb_d D_Reader_count 40 rfl) ?_
  refine lv_iconst (v := 1) hx hb (xb_d D_Reader_count 41 rfl) (by decide) ?_
  refine lv_iadd hx hb (xb_d D_Reader_count 42 rfl) ?_
  refine xb_putI (C := R_Reader) (T := F_Reader) (N := 6) (ty := .int) (x := ((xb_i h x0 3) + 1)) hx hb 3 3 hts fin_Reader t_Reader t_Reader_ok n_Reader hown hR hS hk1 (by decide) rfl (by decide) rfl (hts _ m_a9b84ac2) (fun _ h9 => h9) rfl (by decide +kernel) rfl rfl (xb_d D_Reader_count 43 rfl) (fun H locs hR hS => ?_)
  obtain ⟨h2, eh2⟩ : ∃ x : xb_H, x = xb_I h x0 3 ((xb_i h x0 3) + 1) := ⟨_, rfl⟩
  rw [← eh2] at hR
  have hw := hw h2 eh2
  have hE : xb_ext h0 h2 := by rw [eh2]; exact hE
  refine lv_iload_n hx hb (xb_d D_Reader_count 44 rfl) rfl (lv_at hl 1 rfl) ?_
  refine lv_iload_n hx hb (xb_d D_Reader_count 45 rfl) rfl (lv_at hl 3 rfl) ?_
  refine lv_bipush (v := 127) hx hb (xb_d D_Reader_count 46 rfl) (by decide) ?_
  refine lv_iand hx hb (xb_d D_Reader_count 47 rfl) ?_
  refine lv_bipush (v := 7) hx hb (xb_d D_Reader_count 48 rfl) (by decide) ?_
  refine lv_iload_n hx hb (xb_d D_Reader_count 49 rfl) rfl (lv_at hl 2 rfl) ?_
  refine lv_imul hx hb (xb_d D_Reader_count 50 rfl) ?_
  refine lv_ishl hx hb (xb_d D_Reader_count 51 rfl) ?_
  refine lv_ior hx hb (xb_d D_Reader_count 52 rfl) ?_
  obtain ⟨v3, ev3⟩ : ∃ x : Int32, x = (x1 ||| ((x3 &&& 127) <<< ((7 * x2) &&& 31))) := ⟨_, rfl⟩
  have hw := hw v3 ev3
  refine xt_numi (y := v3) ev3.symm ?_
  refine lv_istore_n hx hb (xb_d D_Reader_count 53 rfl) rfl hl (by decide) rfl (fun ls hl => ?_)
  have hl : lv_has ls 4 [(1, .int v3), (0, .ref x0), (2, .int x2), (3, .int x3)] := hl
  refine lv_iload_n hx hb (xb_d D_Reader_count 54 rfl) rfl (lv_at hl 3 rfl) ?_
  refine lv_sipush (v := 128) hx hb (xb_d D_Reader_count 55 rfl) (by decide) ?_
  refine lv_icmp_ge (tgt := 101) hx hb (xb_d D_Reader_count 56 rfl) rfl (fun hc4 => ?_) (fun hc4 => ?_)
  · have hw := hw.1 hc4
    refine lv_iinc (v := (x2 + 1)) (k := 2) hx hb (xb_d D_Reader_count 58 rfl) hl rfl (by first | rfl | decide) (by decide) rfl (fun ls hl => ?_)
    have hl : lv_has ls 4 [(2, .int (x2 + 1)), (1, .int v3), (0, .ref x0), (3, .int x3)] := hl
    refine lv_goto (tgt := 4) hx hb (xb_d D_Reader_count 59 rfl) rfl ?_
    exact hK4 x0 v3 (x2 + 1) h2 bc bs hw p e s m args below meth c hC H locs ls k n hE (lv_sub hl [2, 1, 0] rfl) hR hS (by omega) (by omega)
  · have hw := hw.2 hc4
    refine lv_goto (tgt := 107) hx hb (xb_d D_Reader_count 57 rfl) rfl ?_
    exact am_Reader_count_L107 l hfl D A σ MC MS h0 Qr Qt v3 h2 bc bs hw p e s m args below meth c hC H locs ls k n hE (lv_sub hl [0] rfl) hR hS (by omega) (by omega)

set_option maxHeartbeats 4000000 in
set_option maxRecDepth 100000 in
theorem am_Reader_count_L32 (l : Launch) (hfl : l.flags = pinnedFlags ++ [noTraceFlag]) (D : va_G) (A : Nat → Prop) (σ MC MS : Nat) (h0 : xb_H) (Qr : Int32 → xb_H → Prop) (Qt : String → xb_H → Prop) (K4 : Nat → Int32 → Int32 → xb_H → Nat → Nat → Prop) (hK4 : ∀ (x0 : Nat) (x1 : Int32) (x2 : Int32) (h : xb_H) (bc : Nat) (bs : Nat), K4 x0 x1 x2 h bc bs → xb_am l D A σ 3 MC MS h0 (fun v h => ∃ r, v = some (.int r) ∧ Qr r h) Qt y_Reader_count.cls y_Reader_count.name b_Reader_count 4 ([] : List ExceptionTableEntry) (some .int) 4 [(0, .ref x0), (1, .int x1), (2, .int x2)] [] h bc bs) (x0 : Nat) (x1 : Int32) (x2 : Int32) (h : xb_H) (bc : Nat) (bs : Nat) (hw : w_Reader_count_L32 K4 Qr Qt x0 x1 x2 h bc bs) : xb_am l D A σ 3 MC MS h0 (fun v h => ∃ r, v = some (.int r) ∧ Qr r h) Qt y_Reader_count.cls y_Reader_count.name b_Reader_count 4 ([] : List ExceptionTableEntry) (some .int) 32 [(0, .ref x0), (1, .int x1), (2, .int x2)] [] h bc bs := by
  unfold w_Reader_count_L32 at hw
  intro p e s m args below meth c hC H locs ls k n hE hl hR hS hk hn
  obtain ⟨hx, hb, hown, hlocks, htab, hml, hr, hB, hA, hnm⟩ := id hC
  have hts := hB.1.1.at args
  refine lv_aload_n hx hb (xb_d D_Reader_count 18 rfl) rfl (lv_at hl 0 rfl) ?_
  obtain ⟨hk1, hw⟩ := hw
  refine xb_getP (C := R_Reader) (T := F_Reader) (N := 6) hx hb 3 1 hts fin_Reader hown hR hk1 (by decide) rfl (by decide) rfl (hts _ m_d1ba4be8) (fun _ h9 => h9) (xb_d D_Reader_count 19 rfl) ?_
  obtain ⟨b2, eb2, hw⟩ := hw
  refine xb_some eb2 ?_
  refine lv_aload_n hx hb (xb_d D_Reader_count 20 rfl) rfl (lv_at hl 0 rfl) ?_
  refine xb_getI (C := R_Reader) (T := F_Reader) (N := 6) hx hb 3 3 hts fin_Reader hown hR hk1 (by decide) rfl (by decide) rfl (hts _ m_a9b84ac2) (fun _ h9 => h9) (xb_d D_Reader_count 21 rfl) ?_
  obtain ⟨hk4, hw⟩ := hw
  obtain ⟨hi3, hw⟩ := hw
  refine xb_bald hx hb hR hk4 hi3 (xb_d D_Reader_count 22 rfl) ?_
  refine lv_sipush (v := 255) hx hb (xb_d D_Reader_count 23 rfl) (by decide) ?_
  refine lv_iand hx hb (xb_d D_Reader_count 24 rfl) ?_
  obtain ⟨v5, ev5⟩ : ∃ x : Int32, x = ((xb_i h b2 (Int32.toNatClampNeg (xb_i h x0 3))) &&& 255) := ⟨_, rfl⟩
  have hw := hw v5 ev5
  refine xt_numi (y := v5) ev5.symm ?_
  refine lv_istore_n hx hb (xb_d D_Reader_count 25 rfl) rfl hl (by decide) rfl (fun ls hl => ?_)
  have hl : lv_has ls 4 [(3, .int v5), (0, .ref x0), (1, .int x1), (2, .int x2)] := hl
  refine lv_iload_n hx hb (xb_d D_Reader_count 26 rfl) rfl (lv_at hl 3 rfl) ?_
  refine lv_iconst (v := 4) hx hb (xb_d D_Reader_count 27 rfl) (by decide) ?_
  refine lv_icmp_ne (tgt := 69) hx hb (xb_d D_Reader_count 28 rfl) rfl (fun hc6 => ?_) (fun hc6 => ?_)
  · have hw := hw.1 hc6
    exact am_Reader_count_L69 l hfl D A σ MC MS h0 Qr Qt K4 hK4 x0 x1 x2 v5 h bc bs hw p e s m args below meth c hC H locs ls k n hE (lv_sub hl [1, 2, 3, 0] rfl) hR hS (by omega) (by omega)
  · have hw := hw.2 hc6
    refine lv_iload_n hx hb (xb_d D_Reader_count 29 rfl) rfl (lv_at hl 0 rfl) ?_
    refine lv_bipush (v := 15) hx hb (xb_d D_Reader_count 30 rfl) (by decide) ?_
    refine lv_icmp_le (tgt := 69) hx hb (xb_d D_Reader_count 31 rfl) rfl (fun hc7 => ?_) (fun hc7 => ?_)
    · have hw := hw.1 hc7
      exact am_Reader_count_L69 l hfl D A σ MC MS h0 Qr Qt K4 hK4 x0 x1 x2 v5 h bc bs hw p e s m args below meth c hC H locs ls k n hE (lv_sub hl [1, 2, 3, 0] rfl) hR hS (by omega) (by omega)
    · have hw := hw.2 hc7
      refine lv_aload_n hx hb (xb_d D_Reader_count 32 rfl) rfl (lv_at hl 1 rfl) ?_
      refine xb_getP (C := R_Reader) (T := F_Reader) (N := 6) hx hb 3 0 hts fin_Reader hown hR hk1 (by decide) rfl (by decide) rfl (hts _ m_76d8349c) (fun _ h9 => h9) (xb_d D_Reader_count 33 rfl) ?_
      obtain ⟨b8, eb8, hw⟩ := hw
      refine xb_some eb8 ?_
      refine lv_iconst (v := 3) hx hb (xb_d D_Reader_count 34 rfl) (by decide) ?_
      refine lv_aload_n hx hb (xb_d D_Reader_count 35 rfl) rfl (lv_at hl 1 rfl) ?_
      refine xb_getI (C := R_Reader) (T := F_Reader) (N := 6) hx hb 3 3 hts fin_Reader hown hR hk1 (by decide) rfl (by decide) rfl (hts _ m_a9b84ac2) (fun _ h9 => h9) (xb_d D_Reader_count 36 rfl) ?_
      obtain ⟨hk9, hw⟩ := hw
      obtain ⟨c12, sc12, hlc12, hlsc12, hw⟩ := hw
      refine xb_call (D := D) (A := A) (σ := σ) (h := h) (d := 2) (mc := c12) (ms := sc12) (maxL := 3) (rest := []) (av := [.ref b8, .int 3, .int (xb_i h x0 3)]) (fun T hT X => by obtain ⟨cb, r1, r2, r3⟩ := xb_recv (ci := 2) hR rfl hk9 (by decide); exact xt_invV X hx hown (hts _ m_6fcde429) (hts _ m_865d5b07) (hts _ m_113f8f75) (xt_sigOf (hts _ m_73e65e5f)) nm_StackModule_fail (by rw [hT]; exact r1) r2 r3 (g := F0 m 66 ls [.int (xb_i h x0 3), .int 3, .ref b8]) rfl (argsL := [.int 3, .int (xb_i h x0 3)]) (rest := []) rfl rfl (by rw [hb]; exact (xb_d D_Reader_count 37 rfl))) (ok_StackModule_fail l hfl D A σ b8 3 (xb_i h x0 3) h c12 sc12 _ _ hw) (hml.trans hl.1.symm) (by rw [hb]; exact (xb_d D_Reader_count 37 rfl)) (Nat.le_of_ble_eq_true rfl) (Nat.le_of_ble_eq_true rfl) (Nat.le_of_ble_eq_true rfl) (show k + c12 ≤ MC by omega) (show n + sc12 ≤ MS by omega) (xt_w1 hB.1 m_73e65e5f) (xt_cdOf hB.1 m_73e65e5f) (hts _ m_9c375545) hB hR hS hA (fun vv h10 H locs hq hEh10 hR hS => ?_) (fun XX ax h10 H locs hq hEh10 hex hR hS => ?_)
      · obtain ⟨rfl, hw⟩ := hq
        have hw := hw hEh10
        have hE := hE.tr hEh10
        refine W.eq (g2 := F0 m 69 ls []) rfl ?_
        exact am_Reader_count_L69 l hfl D A σ MC MS h0 Qr Qt K4 hK4 x0 x1 x2 v5 h10 (bc - c12) (bs - sc12) hw p e s m args below meth c hC H locs ls (k + c12) (n + sc12) hE (lv_sub hl [1, 2, 3, 0] rfl) hR hS (by omega) (by omega)
      · exact xb_pass hlocks (fun x hx9 => by rw [htab] at hx9; first | cases hx9 | (simp [tableOf] at hx9; rcases hx9 with rfl | rfl | rfl <;> decide)) (show (k + c12) ≤ MC by omega) (show (n + sc12) ≤ MS by omega) (hE.tr hEh10) hR hS hex hq

set_option maxHeartbeats 4000000 in
set_option maxRecDepth 100000 in
theorem am_Reader_count_L4 (l : Launch) (hfl : l.flags = pinnedFlags ++ [noTraceFlag]) (D : va_G) (A : Nat → Prop) (σ MC MS : Nat) (h0 : xb_H) (Qr : Int32 → xb_H → Prop) (Qt : String → xb_H → Prop) (n9 : Nat) : ∀ (x0 : Nat) (x1 : Int32) (x2 : Int32) (h : xb_H) (bc : Nat) (bs : Nat), w_Reader_count_L4 Qr Qt n9 x0 x1 x2 h bc bs → xb_am l D A σ 3 MC MS h0 (fun v h => ∃ r, v = some (.int r) ∧ Qr r h) Qt y_Reader_count.cls y_Reader_count.name b_Reader_count 4 ([] : List ExceptionTableEntry) (some .int) 4 [(0, .ref x0), (1, .int x1), (2, .int x2)] [] h bc bs := by
  induction n9 with
  | zero => intro x0 x1 x2 h bc bs hw; exact False.elim hw
  | succ n9 ih =>
    intro x0 x1 x2 h bc bs hw
    unfold w_Reader_count_L4 at hw
    intro p e s m args below meth c hC H locs ls k n hE hl hR hS hk hn
    obtain ⟨hx, hb, hown, hlocks, htab, hml, hr, hB, hA, hnm⟩ := id hC
    have hts := hB.1.1.at args
    refine lv_iload_n hx hb (xb_d D_Reader_count 4 rfl) rfl (lv_at hl 2 rfl) ?_
    refine lv_iconst (v := 5) hx hb (xb_d D_Reader_count 5 rfl) (by decide) ?_
    refine lv_icmp_ge (tgt := 107) hx hb (xb_d D_Reader_count 6 rfl) rfl (fun hc1 => ?_) (fun hc1 => ?_)
    · have hw := hw.1 hc1
      exact am_Reader_count_L107 l hfl D A σ MC MS h0 Qr Qt x1 h bc bs hw p e s m args below meth c hC H locs ls k n hE (lv_sub hl [1] rfl) hR hS (by omega) (by omega)
    · have hw := hw.2 hc1
      refine lv_aload_n hx hb (xb_d D_Reader_count 7 rfl) rfl (lv_at hl 0 rfl) ?_
      obtain ⟨hk2, hw⟩ := hw
      refine xb_getI (C := R_Reader) (T := F_Reader) (N := 6) hx hb 3 3 hts fin_Reader hown hR hk2 (by decide) rfl (by decide) rfl (hts _ m_a9b84ac2) (fun _ h9 => h9) (xb_d D_Reader_count 8 rfl) ?_
      refine lv_aload_n hx hb (xb_d D_Reader_count 9 rfl) rfl (lv_at hl 0 rfl) ?_
      refine xb_getI (C := R_Reader) (T := F_Reader) (N := 6) hx hb 3 4 hts fin_Reader hown hR hk2 (by decide) rfl (by decide) rfl (hts _ m_49916c4b) (fun _ h9 => h9) (xb_d D_Reader_count 10 rfl) ?_
      refine lv_icmp_lt (tgt := 32) hx hb (xb_d D_Reader_count 11 rfl) rfl (fun hc3 => ?_) (fun hc3 => ?_)
      · have hw := hw.1 hc3
        exact am_Reader_count_L32 l hfl D A σ MC MS h0 Qr Qt (w_Reader_count_L4 Qr Qt n9) ih x0 x1 x2 h bc bs hw p e s m args below meth c hC H locs ls k n hE (lv_sub hl [0, 1, 2] rfl) hR hS (by omega) (by omega)
      · have hw := hw.2 hc3
        refine lv_aload_n hx hb (xb_d D_Reader_count 12 rfl) rfl (lv_at hl 0 rfl) ?_
        refine xb_getP (C := R_Reader) (T := F_Reader) (N := 6) hx hb 3 0 hts fin_Reader hown hR hk2 (by decide) rfl (by decide) rfl (hts _ m_76d8349c) (fun _ h9 => h9) (xb_d D_Reader_count 13 rfl) ?_
        obtain ⟨b4, eb4, hw⟩ := hw
        refine xb_some eb4 ?_
        refine lv_iconst (v := 2) hx hb (xb_d D_Reader_count 14 rfl) (by decide) ?_
        refine lv_aload_n hx hb (xb_d D_Reader_count 15 rfl) rfl (lv_at hl 0 rfl) ?_
        refine xb_getI (C := R_Reader) (T := F_Reader) (N := 6) hx hb 3 4 hts fin_Reader hown hR hk2 (by decide) rfl (by decide) rfl (hts _ m_49916c4b) (fun _ h9 => h9) (xb_d D_Reader_count 16 rfl) ?_
        obtain ⟨hk5, hw⟩ := hw
        obtain ⟨c8, sc8, hlc8, hlsc8, hw⟩ := hw
        refine xb_call (D := D) (A := A) (σ := σ) (h := h) (d := 2) (mc := c8) (ms := sc8) (maxL := 3) (rest := []) (av := [.ref b4, .int 2, .int (xb_i h x0 4)]) (fun T hT X => by obtain ⟨cb, r1, r2, r3⟩ := xb_recv (ci := 2) hR rfl hk5 (by decide); exact xt_invV X hx hown (hts _ m_6fcde429) (hts _ m_865d5b07) (hts _ m_113f8f75) (xt_sigOf (hts _ m_73e65e5f)) nm_StackModule_fail (by rw [hT]; exact r1) r2 r3 (g := F0 m 29 ls [.int (xb_i h x0 4), .int 2, .ref b4]) rfl (argsL := [.int 2, .int (xb_i h x0 4)]) (rest := []) rfl rfl (by rw [hb]; exact (xb_d D_Reader_count 17 rfl))) (ok_StackModule_fail l hfl D A σ b4 2 (xb_i h x0 4) h c8 sc8 _ _ hw) (hml.trans hl.1.symm) (by rw [hb]; exact (xb_d D_Reader_count 17 rfl)) (Nat.le_of_ble_eq_true rfl) (Nat.le_of_ble_eq_true rfl) (Nat.le_of_ble_eq_true rfl) (show k + c8 ≤ MC by omega) (show n + sc8 ≤ MS by omega) (xt_w1 hB.1 m_73e65e5f) (xt_cdOf hB.1 m_73e65e5f) (hts _ m_9c375545) hB hR hS hA (fun vv h6 H locs hq hEh6 hR hS => ?_) (fun XX ax h6 H locs hq hEh6 hex hR hS => ?_)
        · obtain ⟨rfl, hw⟩ := hq
          have hw := hw hEh6
          have hE := hE.tr hEh6
          refine W.eq (g2 := F0 m 32 ls []) rfl ?_
          exact am_Reader_count_L32 l hfl D A σ MC MS h0 Qr Qt (w_Reader_count_L4 Qr Qt n9) ih x0 x1 x2 h6 (bc - c8) (bs - sc8) hw p e s m args below meth c hC H locs ls (k + c8) (n + sc8) hE (lv_sub hl [0, 1, 2] rfl) hR hS (by omega) (by omega)
        · exact xb_pass hlocks (fun x hx9 => by rw [htab] at hx9; first | cases hx9 | (simp [tableOf] at hx9; rcases hx9 with rfl | rfl | rfl <;> decide)) (show (k + c8) ≤ MC by omega) (show (n + sc8) ≤ MS by omega) (hE.tr hEh6) hR hS hex hq

set_option maxHeartbeats 4000000 in
set_option maxRecDepth 100000 in
theorem ok_Reader_count (l : Launch) (hfl : l.flags = pinnedFlags ++ [noTraceFlag]) (D : va_G) (A : Nat → Prop) (σ : Nat) (x0 : Nat) (h : xb_H) (bc : Nat) (bs : Nat) (Qr : Int32 → xb_H → Prop) (Qt : String → xb_H → Prop) (hw : w_Reader_count x0 h bc bs Qr Qt) : xt_Met l y_Reader_count [.code y_Reader_count b_Reader_count 4 (some .int)] (xb_rm 3 bc bs) (xb_Pc D A σ h [.ref x0]) (xb_Qc D A h (fun v h => ∃ r, v = some (.int r) ∧ Qr r h) Qt) bc bs A := by
  refine xb_ofAm (cc := b_Reader_count) (by decide) (Nat.le_of_ble_eq_true rfl) ?_
  unfold w_Reader_count at hw
  show xb_am l D A σ 3 bc bs h (fun v h => ∃ r, v = some (.int r) ∧ Qr r h) Qt y_Reader_count.cls y_Reader_count.name b_Reader_count 4 ([] : List ExceptionTableEntry) (some .int) 0 [(0, .ref x0)] [] h bc bs
  obtain ⟨MC, hMC⟩ : ∃ x, x = bc := ⟨_, rfl⟩
  obtain ⟨MS, hMS⟩ : ∃ x, x = bs := ⟨_, rfl⟩
  rw [show xb_am l D A σ 3 bc bs = xb_am l D A σ 3 MC MS by rw [hMC, hMS]]
  obtain ⟨h0, hh0⟩ : ∃ x, x = h := ⟨_, rfl⟩
  rw [show xb_am l D A σ 3 MC MS h = xb_am l D A σ 3 MC MS h0 by rw [hh0]]
  intro p e s m args below meth c hC H locs ls k n hE hl hR hS hk hn
  obtain ⟨hx, hb, hown, hlocks, htab, hml, hr, hB, hA, hnm⟩ := id hC
  have hts := hB.1.1.at args
  refine lv_iconst (v := 0) hx hb (xb_d D_Reader_count 0 rfl) (by decide) ?_
  refine lv_istore_n hx hb (xb_d D_Reader_count 1 rfl) rfl hl (by decide) rfl (fun ls hl => ?_)
  have hl : lv_has ls 4 [(1, .int 0), (0, .ref x0)] := hl
  refine lv_iconst (v := 0) hx hb (xb_d D_Reader_count 2 rfl) (by decide) ?_
  refine lv_istore_n hx hb (xb_d D_Reader_count 3 rfl) rfl hl (by decide) rfl (fun ls hl => ?_)
  have hl : lv_has ls 4 [(2, .int 0), (1, .int 0), (0, .ref x0)] := hl
  obtain ⟨n8, hw⟩ := hw
  exact am_Reader_count_L4 l hfl D A σ MC MS h0 Qr Qt n8 x0 0 0 h bc bs hw p e s m args below meth c hC H locs ls k n hE (lv_sub hl [2, 1, 0] rfl) hR hS (by omega) (by omega)

set_option maxRecDepth 100000 in
def T_Reader_limitTo : List (Nat × Instr × Nat) := [(0, .iload_n 1, 1), (1, .ifCond .lt 16, 3), (4, .iload_n 1, 1), (5, .aload_n 0, 1), (6, .getfield 30, 3), (9, .aload_n 0, 1), (10, .getfield 41, 3), (13, .isub, 1), (14, .if_icmp .le 15, 3), (17, .aload_n 0, 1), (18, .getfield 15, 3), (21, .iconst 2, 1), (22, .aload_n 0, 1), (23, .getfield 30, 3), (26, .invokevirtual 37, 3), (29, .aload_n 0, 1), (30, .aload_n 0, 1), (31, .getfield 41, 3), (34, .iload_n 1, 1), (35, .iadd, 1), (36, .putfield 30, 3), (39, .return_, 1)]
theorem D_Reader_limitTo : ∀ q ∈ T_Reader_limitTo, decode b_Reader_limitTo q.1 = .ok (q.2.1, q.2.2) := by decide +kernel
def w_Reader_limitTo_L29 (Qr : xb_H → Prop) (Qt : String → xb_H → Prop) (x0 : Nat) (x1 : Int32) (h : xb_H) (bc : Nat) (bs : Nat) : Prop :=
    xb_k h x0 = 4 ∧ ∀ h2 : xb_H, h2 = xb_I h x0 4 ((xb_i h x0 3) + x1) → Qr h2

def w_Reader_limitTo_L17 (Qr : xb_H → Prop) (Qt : String → xb_H → Prop) (x0 : Nat) (x1 : Int32) (h : xb_H) (bc : Nat) (bs : Nat) : Prop :=
    xb_k h x0 = 4 ∧ ∃ b2 : Nat, (xb_r h x0 0) = some b2 ∧ xb_k h b2 = 3 ∧ ∃ c6 sc6 : Nat, c6 ≤ bc ∧ sc6 ≤ bs ∧ w_StackModule_fail b2 2 (xb_i h x0 4) h c6 sc6 (fun (h4 : xb_H) => xb_ext h h4 → w_Reader_limitTo_L29 Qr Qt x0 x1 h4 (bc - c6) (bs - sc6)) Qt

def w_Reader_limitTo (x0 : Nat) (x1 : Int32) (h : xb_H) (bc : Nat) (bs : Nat) (Qr : xb_H → Prop) (Qt : String → xb_H → Prop) : Prop :=
    ((x1 < (0 : Int32) → w_Reader_limitTo_L17 Qr Qt x0 x1 h bc bs) ∧ (¬ x1 < (0 : Int32) → xb_k h x0 = 4 ∧ ((x1 ≤ ((xb_i h x0 4) - (xb_i h x0 3)) → w_Reader_limitTo_L29 Qr Qt x0 x1 h bc bs) ∧ (¬ x1 ≤ ((xb_i h x0 4) - (xb_i h x0 3)) → w_Reader_limitTo_L17 Qr Qt x0 x1 h bc bs))))

set_option maxHeartbeats 4000000 in
set_option maxRecDepth 100000 in
theorem am_Reader_limitTo_L29 (l : Launch) (hfl : l.flags = pinnedFlags ++ [noTraceFlag]) (D : va_G) (A : Nat → Prop) (σ MC MS : Nat) (h0 : xb_H) (Qr : xb_H → Prop) (Qt : String → xb_H → Prop) (x0 : Nat) (x1 : Int32) (h : xb_H) (bc : Nat) (bs : Nat) (hw : w_Reader_limitTo_L29 Qr Qt x0 x1 h bc bs) : xb_am l D A σ 3 MC MS h0 (fun v h => v = none ∧ Qr h) Qt y_Reader_limitTo.cls y_Reader_limitTo.name b_Reader_limitTo 2 ([] : List ExceptionTableEntry) none 29 [(0, .ref x0), (1, .int x1)] [] h bc bs := by
  unfold w_Reader_limitTo_L29 at hw
  intro p e s m args below meth c hC H locs ls k n hE hl hR hS hk hn
  obtain ⟨hx, hb, hown, hlocks, htab, hml, hr, hB, hA, hnm⟩ := id hC
  have hts := hB.1.1.at args
  refine lv_aload_n hx hb (xb_d D_Reader_limitTo 15 rfl) rfl (lv_at hl 0 rfl) ?_
  refine lv_aload_n hx hb (xb_d D_Reader_limitTo 16 rfl) rfl (lv_at hl 0 rfl) ?_
  obtain ⟨hk1, hw⟩ := hw
  refine xb_getI (C := R_Reader) (T := F_Reader) (N := 6) hx hb 3 3 hts fin_Reader hown hR hk1 (by decide) rfl (by decide) rfl (hts _ m_a9b84ac2) (fun _ h9 => h9) (xb_d D_Reader_limitTo 17 rfl) ?_
  refine lv_iload_n hx hb (xb_d D_Reader_limitTo 18 rfl) rfl (lv_at hl 1 rfl) ?_
  refine lv_iadd hx hb (xb_d D_Reader_limitTo 19 rfl) ?_
  refine xb_putI (C := R_Reader) (T := F_Reader) (N := 6) (ty := .int) (x := ((xb_i h x0 3) + x1)) hx hb 3 4 hts fin_Reader t_Reader t_Reader_ok n_Reader hown hR hS hk1 (by decide) rfl (by decide) rfl (hts _ m_49916c4b) (fun _ h9 => h9) rfl (by decide +kernel) rfl rfl (xb_d D_Reader_limitTo 20 rfl) (fun H locs hR hS => ?_)
  obtain ⟨h2, eh2⟩ : ∃ x : xb_H, x = xb_I h x0 4 ((xb_i h x0 3) + x1) := ⟨_, rfl⟩
  rw [← eh2] at hR
  have hw := hw h2 eh2
  have hE : xb_ext h0 h2 := by rw [eh2]; exact hE
  exact xb_vret hx hb hr hlocks (show k ≤ MC by omega) (show n ≤ MS by omega) hE hR hS (xb_d D_Reader_limitTo 21 rfl) hw

set_option maxHeartbeats 4000000 in
set_option maxRecDepth 100000 in
theorem am_Reader_limitTo_L17 (l : Launch) (hfl : l.flags = pinnedFlags ++ [noTraceFlag]) (D : va_G) (A : Nat → Prop) (σ MC MS : Nat) (h0 : xb_H) (Qr : xb_H → Prop) (Qt : String → xb_H → Prop) (x0 : Nat) (x1 : Int32) (h : xb_H) (bc : Nat) (bs : Nat) (hw : w_Reader_limitTo_L17 Qr Qt x0 x1 h bc bs) : xb_am l D A σ 3 MC MS h0 (fun v h => v = none ∧ Qr h) Qt y_Reader_limitTo.cls y_Reader_limitTo.name b_Reader_limitTo 2 ([] : List ExceptionTableEntry) none 17 [(0, .ref x0), (1, .int x1)] [] h bc bs := by
  unfold w_Reader_limitTo_L17 at hw
  intro p e s m args below meth c hC H locs ls k n hE hl hR hS hk hn
  obtain ⟨hx, hb, hown, hlocks, htab, hml, hr, hB, hA, hnm⟩ := id hC
  have hts := hB.1.1.at args
  refine lv_aload_n hx hb (xb_d D_Reader_limitTo 9 rfl) rfl (lv_at hl 0 rfl) ?_
  obtain ⟨hk1, hw⟩ := hw
  refine xb_getP (C := R_Reader) (T := F_Reader) (N := 6) hx hb 3 0 hts fin_Reader hown hR hk1 (by decide) rfl (by decide) rfl (hts _ m_76d8349c) (fun _ h9 => h9) (xb_d D_Reader_limitTo 10 rfl) ?_
  obtain ⟨b2, eb2, hw⟩ := hw
  refine xb_some eb2 ?_
  refine lv_iconst (v := 2) hx hb (xb_d D_Reader_limitTo 11 rfl) (by decide) ?_
  refine lv_aload_n hx hb (xb_d D_Reader_limitTo 12 rfl) rfl (lv_at hl 0 rfl) ?_
  refine xb_getI (C := R_Reader) (T := F_Reader) (N := 6) hx hb 3 4 hts fin_Reader hown hR hk1 (by decide) rfl (by decide) rfl (hts _ m_49916c4b) (fun _ h9 => h9) (xb_d D_Reader_limitTo 13 rfl) ?_
  obtain ⟨hk3, hw⟩ := hw
  obtain ⟨c6, sc6, hlc6, hlsc6, hw⟩ := hw
  refine xb_call (D := D) (A := A) (σ := σ) (h := h) (d := 2) (mc := c6) (ms := sc6) (maxL := 3) (rest := []) (av := [.ref b2, .int 2, .int (xb_i h x0 4)]) (fun T hT X => by obtain ⟨cb, r1, r2, r3⟩ := xb_recv (ci := 2) hR rfl hk3 (by decide); exact xt_invV X hx hown (hts _ m_6fcde429) (hts _ m_865d5b07) (hts _ m_113f8f75) (xt_sigOf (hts _ m_73e65e5f)) nm_StackModule_fail (by rw [hT]; exact r1) r2 r3 (g := F0 m 26 ls [.int (xb_i h x0 4), .int 2, .ref b2]) rfl (argsL := [.int 2, .int (xb_i h x0 4)]) (rest := []) rfl rfl (by rw [hb]; exact (xb_d D_Reader_limitTo 14 rfl))) (ok_StackModule_fail l hfl D A σ b2 2 (xb_i h x0 4) h c6 sc6 _ _ hw) (hml.trans hl.1.symm) (by rw [hb]; exact (xb_d D_Reader_limitTo 14 rfl)) (Nat.le_of_ble_eq_true rfl) (Nat.le_of_ble_eq_true rfl) (Nat.le_of_ble_eq_true rfl) (show k + c6 ≤ MC by omega) (show n + sc6 ≤ MS by omega) (xt_w1 hB.1 m_73e65e5f) (xt_cdOf hB.1 m_73e65e5f) (hts _ m_9c375545) hB hR hS hA (fun vv h4 H locs hq hEh4 hR hS => ?_) (fun XX ax h4 H locs hq hEh4 hex hR hS => ?_)
  · obtain ⟨rfl, hw⟩ := hq
    have hw := hw hEh4
    have hE := hE.tr hEh4
    refine W.eq (g2 := F0 m 29 ls []) rfl ?_
    exact am_Reader_limitTo_L29 l hfl D A σ MC MS h0 Qr Qt x0 x1 h4 (bc - c6) (bs - sc6) hw p e s m args below meth c hC H locs ls (k + c6) (n + sc6) hE (lv_sub hl [0, 1] rfl) hR hS (by omega) (by omega)
  · exact xb_pass hlocks (fun x hx9 => by rw [htab] at hx9; first | cases hx9 | (simp [tableOf] at hx9; rcases hx9 with rfl | rfl | rfl <;> decide)) (show (k + c6) ≤ MC by omega) (show (n + sc6) ≤ MS by omega) (hE.tr hEh4) hR hS hex hq

set_option maxHeartbeats 4000000 in
set_option maxRecDepth 100000 in
theorem ok_Reader_limitTo (l : Launch) (hfl : l.flags = pinnedFlags ++ [noTraceFlag]) (D : va_G) (A : Nat → Prop) (σ : Nat) (x0 : Nat) (x1 : Int32) (h : xb_H) (bc : Nat) (bs : Nat) (Qr : xb_H → Prop) (Qt : String → xb_H → Prop) (hw : w_Reader_limitTo x0 x1 h bc bs Qr Qt) : xt_Met l y_Reader_limitTo [.code y_Reader_limitTo b_Reader_limitTo 2 none] (xb_rm 3 bc bs) (xb_Pc D A σ h [.ref x0, .int x1]) (xb_Qc D A h (fun v h => v = none ∧ Qr h) Qt) bc bs A := by
  refine xb_ofAm (cc := b_Reader_limitTo) (by decide) (Nat.le_of_ble_eq_true rfl) ?_
  unfold w_Reader_limitTo at hw
  show xb_am l D A σ 3 bc bs h (fun v h => v = none ∧ Qr h) Qt y_Reader_limitTo.cls y_Reader_limitTo.name b_Reader_limitTo 2 ([] : List ExceptionTableEntry) none 0 [(0, .ref x0), (1, .int x1)] [] h bc bs
  obtain ⟨MC, hMC⟩ : ∃ x, x = bc := ⟨_, rfl⟩
  obtain ⟨MS, hMS⟩ : ∃ x, x = bs := ⟨_, rfl⟩
  rw [show xb_am l D A σ 3 bc bs = xb_am l D A σ 3 MC MS by rw [hMC, hMS]]
  obtain ⟨h0, hh0⟩ : ∃ x, x = h := ⟨_, rfl⟩
  rw [show xb_am l D A σ 3 MC MS h = xb_am l D A σ 3 MC MS h0 by rw [hh0]]
  intro p e s m args below meth c hC H locs ls k n hE hl hR hS hk hn
  obtain ⟨hx, hb, hown, hlocks, htab, hml, hr, hB, hA, hnm⟩ := id hC
  have hts := hB.1.1.at args
  refine lv_iload_n hx hb (xb_d D_Reader_limitTo 0 rfl) rfl (lv_at hl 1 rfl) ?_
  refine lv_if_lt (tgt := 17) hx hb (xb_d D_Reader_limitTo 1 rfl) rfl (fun hc1 => ?_) (fun hc1 => ?_)
  · have hw := hw.1 hc1
    exact am_Reader_limitTo_L17 l hfl D A σ MC MS h0 Qr Qt x0 x1 h bc bs hw p e s m args below meth c hC H locs ls k n hE (lv_sub hl [0, 1] rfl) hR hS (by omega) (by omega)
  · have hw := hw.2 hc1
    refine lv_iload_n hx hb (xb_d D_Reader_limitTo 2 rfl) rfl (lv_at hl 1 rfl) ?_
    refine lv_aload_n hx hb (xb_d D_Reader_limitTo 3 rfl) rfl (lv_at hl 0 rfl) ?_
    obtain ⟨hk2, hw⟩ := hw
    refine xb_getI (C := R_Reader) (T := F_Reader) (N := 6) hx hb 3 4 hts fin_Reader hown hR hk2 (by decide) rfl (by decide) rfl (hts _ m_49916c4b) (fun _ h9 => h9) (xb_d D_Reader_limitTo 4 rfl) ?_
    refine lv_aload_n hx hb (xb_d D_Reader_limitTo 5 rfl) rfl (lv_at hl 0 rfl) ?_
    refine xb_getI (C := R_Reader) (T := F_Reader) (N := 6) hx hb 3 3 hts fin_Reader hown hR hk2 (by decide) rfl (by decide) rfl (hts _ m_a9b84ac2) (fun _ h9 => h9) (xb_d D_Reader_limitTo 6 rfl) ?_
    refine lv_isub hx hb (xb_d D_Reader_limitTo 7 rfl) ?_
    refine lv_icmp_le (tgt := 29) hx hb (xb_d D_Reader_limitTo 8 rfl) rfl (fun hc3 => ?_) (fun hc3 => ?_)
    · have hw := hw.1 hc3
      exact am_Reader_limitTo_L29 l hfl D A σ MC MS h0 Qr Qt x0 x1 h bc bs hw p e s m args below meth c hC H locs ls k n hE (lv_sub hl [0, 1] rfl) hR hS (by omega) (by omega)
    · have hw := hw.2 hc3
      exact am_Reader_limitTo_L17 l hfl D A σ MC MS h0 Qr Qt x0 x1 h bc bs hw p e s m args below meth c hC H locs ls k n hE (lv_sub hl [0, 1] rfl) hR hS (by omega) (by omega)

set_option maxRecDepth 100000 in
def T_Reader_nextByte : List (Nat × Instr × Nat) := [(0, .aload_n 0, 1), (1, .getfield 41, 3), (4, .aload_n 0, 1), (5, .getfield 30, 3), (8, .if_icmp .lt 15, 3), (11, .aload_n 0, 1), (12, .getfield 15, 3), (15, .iconst 2, 1), (16, .aload_n 0, 1), (17, .getfield 30, 3), (20, .invokevirtual 37, 3), (23, .aload_n 0, 1), (24, .dup, 1), (25, .getfield 41, 3), (28, .iconst 1, 1), (29, .iadd, 1), (30, .putfield 41, 3), (33, .aload_n 0, 1), (34, .getfield 25, 3), (37, .aload_n 0, 1), (38, .getfield 41, 3), (41, .iconst 1, 1), (42, .isub, 1), (43, .baload, 1), (44, .sipush 255, 3), (47, .iand, 1), (48, .ireturn, 1)]
theorem D_Reader_nextByte : ∀ q ∈ T_Reader_nextByte, decode b_Reader_nextByte q.1 = .ok (q.2.1, q.2.2) := by decide +kernel
def w_Reader_nextByte_L23 (Qr : Int32 → xb_H → Prop) (Qt : String → xb_H → Prop) (x0 : Nat) (h : xb_H) (bc : Nat) (bs : Nat) : Prop :=
    xb_k h x0 = 4 ∧ ∀ h2 : xb_H, h2 = xb_I h x0 3 ((xb_i h x0 3) + 1) → ∃ b3 : Nat, (xb_r h2 x0 1) = some b3 ∧ xb_k h2 b3 = 100 ∧ vp_in ((xb_i h2 x0 3) - 1) (xb_n h2 b3) ∧ Qr ((xb_i h2 b3 (Int32.toNatClampNeg ((xb_i h2 x0 3) - 1))) &&& 255) h2

def w_Reader_nextByte (x0 : Nat) (h : xb_H) (bc : Nat) (bs : Nat) (Qr : Int32 → xb_H → Prop) (Qt : String → xb_H → Prop) : Prop :=
    xb_k h x0 = 4 ∧ (((xb_i h x0 3) < (xb_i h x0 4) → w_Reader_nextByte_L23 Qr Qt x0 h bc bs) ∧ (¬ (xb_i h x0 3) < (xb_i h x0 4) → ∃ b3 : Nat, (xb_r h x0 0) = some b3 ∧ xb_k h b3 = 3 ∧ ∃ c7 sc7 : Nat, c7 ≤ bc ∧ sc7 ≤ bs ∧ w_StackModule_fail b3 2 (xb_i h x0 4) h c7 sc7 (fun (h5 : xb_H) => xb_ext h h5 → w_Reader_nextByte_L23 Qr Qt x0 h5 (bc - c7) (bs - sc7)) Qt))

set_option maxHeartbeats 4000000 in
set_option maxRecDepth 100000 in
theorem am_Reader_nextByte_L23 (l : Launch) (hfl : l.flags = pinnedFlags ++ [noTraceFlag]) (D : va_G) (A : Nat → Prop) (σ MC MS : Nat) (h0 : xb_H) (Qr : Int32 → xb_H → Prop) (Qt : String → xb_H → Prop) (x0 : Nat) (h : xb_H) (bc : Nat) (bs : Nat) (hw : w_Reader_nextByte_L23 Qr Qt x0 h bc bs) : xb_am l D A σ 3 MC MS h0 (fun v h => ∃ r, v = some (.int r) ∧ Qr r h) Qt y_Reader_nextByte.cls y_Reader_nextByte.name b_Reader_nextByte 1 ([] : List ExceptionTableEntry) (some .int) 23 [(0, .ref x0)] [] h bc bs := by
  unfold w_Reader_nextByte_L23 at hw
  intro p e s m args below meth c hC H locs ls k n hE hl hR hS hk hn
  obtain ⟨hx, hb, hown, hlocks, htab, hml, hr, hB, hA, hnm⟩ := id hC
  have hts := hB.1.1.at args
  refine lv_aload_n hx hb (xb_d D_Reader_nextByte 11 rfl) rfl (lv_at hl 0 rfl) ?_
  refine lv_dup hx hb (xb_d D_Reader_nextByte 12 rfl) rfl ?_
  obtain ⟨hk1, hw⟩ := hw
  refine xb_getI (C := R_Reader) (T := F_Reader) (N := 6) hx hb 3 3 hts fin_Reader hown hR hk1 (by decide) rfl (by decide) rfl (hts _ m_a9b84ac2) (fun _ h9 => h9) (xb_d D_Reader_nextByte 13 rfl) ?_
  refine lv_iconst (v := 1) hx hb (xb_d D_Reader_nextByte 14 rfl) (by decide) ?_
  refine lv_iadd hx hb (xb_d D_Reader_nextByte 15 rfl) ?_
  refine xb_putI (C := R_Reader) (T := F_Reader) (N := 6) (ty := .int) (x := ((xb_i h x0 3) + 1)) hx hb 3 3 hts fin_Reader t_Reader t_Reader_ok n_Reader hown hR hS hk1 (by decide) rfl (by decide) rfl (hts _ m_a9b84ac2) (fun _ h9 => h9) rfl (by decide +kernel) rfl rfl (xb_d D_Reader_nextByte 16 rfl) (fun H locs hR hS => ?_)
  obtain ⟨h2, eh2⟩ : ∃ x : xb_H, x = xb_I h x0 3 ((xb_i h x0 3) + 1) := ⟨_, rfl⟩
  rw [← eh2] at hR
  have hw := hw h2 eh2
  have hE : xb_ext h0 h2 := by rw [eh2]; exact hE
  refine lv_aload_n hx hb (xb_d D_Reader_nextByte 17 rfl) rfl (lv_at hl 0 rfl) ?_
  have hk1 : xb_k h2 x0 = 4 := by rw [eh2]; exact hk1
  refine xb_getP (C := R_Reader) (T := F_Reader) (N := 6) hx hb 3 1 hts fin_Reader hown hR hk1 (by decide) rfl (by decide) rfl (hts _ m_d1ba4be8) (fun _ h9 => h9) (xb_d D_Reader_nextByte 18 rfl) ?_
  obtain ⟨b3, eb3, hw⟩ := hw
  refine xb_some eb3 ?_
  refine lv_aload_n hx hb (xb_d D_Reader_nextByte 19 rfl) rfl (lv_at hl 0 rfl) ?_
  refine xb_getI (C := R_Reader) (T := F_Reader) (N := 6) hx hb 3 3 hts fin_Reader hown hR hk1 (by decide) rfl (by decide) rfl (hts _ m_a9b84ac2) (fun _ h9 => h9) (xb_d D_Reader_nextByte 20 rfl) ?_
  refine lv_iconst (v := 1) hx hb (xb_d D_Reader_nextByte 21 rfl) (by decide) ?_
  refine lv_isub hx hb (xb_d D_Reader_nextByte 22 rfl) ?_
  obtain ⟨hk5, hw⟩ := hw
  obtain ⟨hi4, hw⟩ := hw
  refine xb_bald hx hb hR hk5 hi4 (xb_d D_Reader_nextByte 23 rfl) ?_
  refine lv_sipush (v := 255) hx hb (xb_d D_Reader_nextByte 24 rfl) (by decide) ?_
  refine lv_iand hx hb (xb_d D_Reader_nextByte 25 rfl) ?_
  exact xb_iret hx hb hr hlocks (show k ≤ MC by omega) (show n ≤ MS by omega) hE hR hS (xb_d D_Reader_nextByte 26 rfl) hw

set_option maxHeartbeats 4000000 in
set_option maxRecDepth 100000 in
theorem ok_Reader_nextByte (l : Launch) (hfl : l.flags = pinnedFlags ++ [noTraceFlag]) (D : va_G) (A : Nat → Prop) (σ : Nat) (x0 : Nat) (h : xb_H) (bc : Nat) (bs : Nat) (Qr : Int32 → xb_H → Prop) (Qt : String → xb_H → Prop) (hw : w_Reader_nextByte x0 h bc bs Qr Qt) : xt_Met l y_Reader_nextByte [.code y_Reader_nextByte b_Reader_nextByte 1 (some .int)] (xb_rm 3 bc bs) (xb_Pc D A σ h [.ref x0]) (xb_Qc D A h (fun v h => ∃ r, v = some (.int r) ∧ Qr r h) Qt) bc bs A := by
  refine xb_ofAm (cc := b_Reader_nextByte) (by decide) (Nat.le_of_ble_eq_true rfl) ?_
  unfold w_Reader_nextByte at hw
  show xb_am l D A σ 3 bc bs h (fun v h => ∃ r, v = some (.int r) ∧ Qr r h) Qt y_Reader_nextByte.cls y_Reader_nextByte.name b_Reader_nextByte 1 ([] : List ExceptionTableEntry) (some .int) 0 [(0, .ref x0)] [] h bc bs
  obtain ⟨MC, hMC⟩ : ∃ x, x = bc := ⟨_, rfl⟩
  obtain ⟨MS, hMS⟩ : ∃ x, x = bs := ⟨_, rfl⟩
  rw [show xb_am l D A σ 3 bc bs = xb_am l D A σ 3 MC MS by rw [hMC, hMS]]
  obtain ⟨h0, hh0⟩ : ∃ x, x = h := ⟨_, rfl⟩
  rw [show xb_am l D A σ 3 MC MS h = xb_am l D A σ 3 MC MS h0 by rw [hh0]]
  intro p e s m args below meth c hC H locs ls k n hE hl hR hS hk hn
  obtain ⟨hx, hb, hown, hlocks, htab, hml, hr, hB, hA, hnm⟩ := id hC
  have hts := hB.1.1.at args
  refine lv_aload_n hx hb (xb_d D_Reader_nextByte 0 rfl) rfl (lv_at hl 0 rfl) ?_
  obtain ⟨hk1, hw⟩ := hw
  refine xb_getI (C := R_Reader) (T := F_Reader) (N := 6) hx hb 3 3 hts fin_Reader hown hR hk1 (by decide) rfl (by decide) rfl (hts _ m_a9b84ac2) (fun _ h9 => h9) (xb_d D_Reader_nextByte 1 rfl) ?_
  refine lv_aload_n hx hb (xb_d D_Reader_nextByte 2 rfl) rfl (lv_at hl 0 rfl) ?_
  refine xb_getI (C := R_Reader) (T := F_Reader) (N := 6) hx hb 3 4 hts fin_Reader hown hR hk1 (by decide) rfl (by decide) rfl (hts _ m_49916c4b) (fun _ h9 => h9) (xb_d D_Reader_nextByte 3 rfl) ?_
  refine lv_icmp_lt (tgt := 23) hx hb (xb_d D_Reader_nextByte 4 rfl) rfl (fun hc2 => ?_) (fun hc2 => ?_)
  · have hw := hw.1 hc2
    exact am_Reader_nextByte_L23 l hfl D A σ MC MS h0 Qr Qt x0 h bc bs hw p e s m args below meth c hC H locs ls k n hE (lv_sub hl [0] rfl) hR hS (by omega) (by omega)
  · have hw := hw.2 hc2
    refine lv_aload_n hx hb (xb_d D_Reader_nextByte 5 rfl) rfl (lv_at hl 0 rfl) ?_
    refine xb_getP (C := R_Reader) (T := F_Reader) (N := 6) hx hb 3 0 hts fin_Reader hown hR hk1 (by decide) rfl (by decide) rfl (hts _ m_76d8349c) (fun _ h9 => h9) (xb_d D_Reader_nextByte 6 rfl) ?_
    obtain ⟨b3, eb3, hw⟩ := hw
    refine xb_some eb3 ?_
    refine lv_iconst (v := 2) hx hb (xb_d D_Reader_nextByte 7 rfl) (by decide) ?_
    refine lv_aload_n hx hb (xb_d D_Reader_nextByte 8 rfl) rfl (lv_at hl 0 rfl) ?_
    refine xb_getI (C := R_Reader) (T := F_Reader) (N := 6) hx hb 3 4 hts fin_Reader hown hR hk1 (by decide) rfl (by decide) rfl (hts _ m_49916c4b) (fun _ h9 => h9) (xb_d D_Reader_nextByte 9 rfl) ?_
    obtain ⟨hk4, hw⟩ := hw
    obtain ⟨c7, sc7, hlc7, hlsc7, hw⟩ := hw
    refine xb_call (D := D) (A := A) (σ := σ) (h := h) (d := 2) (mc := c7) (ms := sc7) (maxL := 3) (rest := []) (av := [.ref b3, .int 2, .int (xb_i h x0 4)]) (fun T hT X => by obtain ⟨cb, r1, r2, r3⟩ := xb_recv (ci := 2) hR rfl hk4 (by decide); exact xt_invV X hx hown (hts _ m_6fcde429) (hts _ m_865d5b07) (hts _ m_113f8f75) (xt_sigOf (hts _ m_73e65e5f)) nm_StackModule_fail (by rw [hT]; exact r1) r2 r3 (g := F0 m 20 ls [.int (xb_i h x0 4), .int 2, .ref b3]) rfl (argsL := [.int 2, .int (xb_i h x0 4)]) (rest := []) rfl rfl (by rw [hb]; exact (xb_d D_Reader_nextByte 10 rfl))) (ok_StackModule_fail l hfl D A σ b3 2 (xb_i h x0 4) h c7 sc7 _ _ hw) (hml.trans hl.1.symm) (by rw [hb]; exact (xb_d D_Reader_nextByte 10 rfl)) (Nat.le_of_ble_eq_true rfl) (Nat.le_of_ble_eq_true rfl) (Nat.le_of_ble_eq_true rfl) (show k + c7 ≤ MC by omega) (show n + sc7 ≤ MS by omega) (xt_w1 hB.1 m_73e65e5f) (xt_cdOf hB.1 m_73e65e5f) (hts _ m_9c375545) hB hR hS hA (fun vv h5 H locs hq hEh5 hR hS => ?_) (fun XX ax h5 H locs hq hEh5 hex hR hS => ?_)
    · obtain ⟨rfl, hw⟩ := hq
      have hw := hw hEh5
      have hE := hE.tr hEh5
      refine W.eq (g2 := F0 m 23 ls []) rfl ?_
      exact am_Reader_nextByte_L23 l hfl D A σ MC MS h0 Qr Qt x0 h5 (bc - c7) (bs - sc7) hw p e s m args below meth c hC H locs ls (k + c7) (n + sc7) hE (lv_sub hl [0] rfl) hR hS (by omega) (by omega)
    · exact xb_pass hlocks (fun x hx9 => by rw [htab] at hx9; first | cases hx9 | (simp [tableOf] at hx9; rcases hx9 with rfl | rfl | rfl <;> decide)) (show (k + c7) ≤ MC by omega) (show (n + sc7) ≤ MS by omega) (hE.tr hEh5) hR hS hex hq

theorem m_1a463606 : (.constantLong "StackHost$Reader" 129 255 : Cond) ∈ xt_tbl := xt_in (xt_t4 (List.mem_of_getElem? (i := 65) (by decide +kernel))) (by decide +kernel)
set_option maxRecDepth 100000 in
def T_Reader_plainBytes : List (Nat × Instr × Nat) := [(0, .iload_n 1, 1), (1, .aload_n 0, 1), (2, .getfield 30, 3), (5, .aload_n 0, 1), (6, .getfield 41, 3), (9, .isub, 1), (10, .if_icmp .le 15, 3), (13, .aload_n 0, 1), (14, .getfield 15, 3), (17, .iconst 2, 1), (18, .aload_n 0, 1), (19, .getfield 30, 3), (22, .invokevirtual 37, 3), (25, .lconst 0, 1), (26, .lstore_n 2, 1), (27, .iconst 0, 1), (28, .istore 4, 2), (30, .iload 4, 2), (32, .iload_n 1, 1), (33, .if_icmp .ge 35, 3), (36, .lload_n 2, 1), (37, .aload_n 0, 1), (38, .getfield 25, 3), (41, .aload_n 0, 1), (42, .getfield 41, 3), (45, .iload 4, 2), (47, .iadd, 1), (48, .baload, 1), (49, .i2l, 1), (50, .ldc2_w 129, 3), (53, .land, 1), (54, .bipush 8, 2), (56, .iload 4, 2), (58, .imul, 1), (59, .lshl, 1), (60, .lor, 1), (61, .lstore_n 2, 1), (62, .iinc 4 1, 3), (65, .goto (-35), 3), (68, .aload_n 0, 1), (69, .dup, 1), (70, .getfield 41, 3), (73, .iload_n 1, 1), (74, .iadd, 1), (75, .putfield 41, 3), (78, .lload_n 2, 1), (79, .lreturn, 1)]
theorem D_Reader_plainBytes : ∀ q ∈ T_Reader_plainBytes, decode b_Reader_plainBytes q.1 = .ok (q.2.1, q.2.2) := by decide +kernel
def w_Reader_plainBytes_L30 (Qr : Int64 → xb_H → Prop) (Qt : String → xb_H → Prop) : Nat → Nat → Int32 → Int64 → Int32 → xb_H → Nat → Nat → Prop
  | 0, _, _, _, _, _, _, _ => False
  | n9 + 1, x0, x1, x2, x4, h, bc, bs =>
    ((x1 ≤ x4 → xb_k h x0 = 4 ∧ ∀ h3 : xb_H, h3 = xb_I h x0 3 ((xb_i h x0 3) + x1) → Qr x2 h3) ∧ (¬ x1 ≤ x4 → xb_k h x0 = 4 ∧ ∃ b5 : Nat, (xb_r h x0 1) = some b5 ∧ xb_k h b5 = 100 ∧ vp_in ((xb_i h x0 3) + x4) (xb_n h b5) ∧ ∀ v8 : Int64, v8 = (x2 ||| (xb_lshl ((Int32.toInt64 (xb_i h b5 (Int32.toNatClampNeg ((xb_i h x0 3) + x4)))) &&& 255) (8 * x4))) → w_Reader_plainBytes_L30 Qr Qt n9 x0 x1 v8 (x4 + 1) h bc bs))

def w_Reader_plainBytes_L25 (Qr : Int64 → xb_H → Prop) (Qt : String → xb_H → Prop) (x0 : Nat) (x1 : Int32) (h : xb_H) (bc : Nat) (bs : Nat) : Prop :=
    (∃ n8 : Nat, w_Reader_plainBytes_L30 Qr Qt n8 x0 x1 0 0 h bc bs)

def w_Reader_plainBytes (x0 : Nat) (x1 : Int32) (h : xb_H) (bc : Nat) (bs : Nat) (Qr : Int64 → xb_H → Prop) (Qt : String → xb_H → Prop) : Prop :=
    xb_k h x0 = 4 ∧ ((x1 ≤ ((xb_i h x0 4) - (xb_i h x0 3)) → w_Reader_plainBytes_L25 Qr Qt x0 x1 h bc bs) ∧ (¬ x1 ≤ ((xb_i h x0 4) - (xb_i h x0 3)) → ∃ b3 : Nat, (xb_r h x0 0) = some b3 ∧ xb_k h b3 = 3 ∧ ∃ c7 sc7 : Nat, c7 ≤ bc ∧ sc7 ≤ bs ∧ w_StackModule_fail b3 2 (xb_i h x0 4) h c7 sc7 (fun (h5 : xb_H) => xb_ext h h5 → w_Reader_plainBytes_L25 Qr Qt x0 x1 h5 (bc - c7) (bs - sc7)) Qt))

set_option maxHeartbeats 4000000 in
set_option maxRecDepth 100000 in
theorem am_Reader_plainBytes_L30 (l : Launch) (hfl : l.flags = pinnedFlags ++ [noTraceFlag]) (D : va_G) (A : Nat → Prop) (σ MC MS : Nat) (h0 : xb_H) (Qr : Int64 → xb_H → Prop) (Qt : String → xb_H → Prop) (n9 : Nat) : ∀ (x0 : Nat) (x1 : Int32) (x2 : Int64) (x4 : Int32) (h : xb_H) (bc : Nat) (bs : Nat), w_Reader_plainBytes_L30 Qr Qt n9 x0 x1 x2 x4 h bc bs → xb_am l D A σ 3 MC MS h0 (fun v h => ∃ r, v = some (.long r) ∧ Qr r h) Qt y_Reader_plainBytes.cls y_Reader_plainBytes.name b_Reader_plainBytes 5 ([] : List ExceptionTableEntry) (some .long) 30 [(0, .ref x0), (1, .int x1), (2, .long x2), (4, .int x4)] [] h bc bs := by
  induction n9 with
  | zero => intro x0 x1 x2 x4 h bc bs hw; exact False.elim hw
  | succ n9 ih =>
    intro x0 x1 x2 x4 h bc bs hw
    unfold w_Reader_plainBytes_L30 at hw
    intro p e s m args below meth c hC H locs ls k n hE hl hR hS hk hn
    obtain ⟨hx, hb, hown, hlocks, htab, hml, hr, hB, hA, hnm⟩ := id hC
    have hts := hB.1.1.at args
    refine lv_iload hx hb (xb_d D_Reader_plainBytes 17 rfl) (lv_at hl 3 rfl) ?_
    refine lv_iload_n hx hb (xb_d D_Reader_plainBytes 18 rfl) rfl (lv_at hl 1 rfl) ?_
    refine lv_icmp_ge (tgt := 68) hx hb (xb_d D_Reader_plainBytes 19 rfl) rfl (fun hc1 => ?_) (fun hc1 => ?_)
    · have hw := hw.1 hc1
      refine lv_aload_n hx hb (xb_d D_Reader_plainBytes 39 rfl) rfl (lv_at hl 0 rfl) ?_
      refine lv_dup hx hb (xb_d D_Reader_plainBytes 40 rfl) rfl ?_
      obtain ⟨hk2, hw⟩ := hw
      refine xb_getI (C := R_Reader) (T := F_Reader) (N := 6) hx hb 3 3 hts fin_Reader hown hR hk2 (by decide) rfl (by decide) rfl (hts _ m_a9b84ac2) (fun _ h9 => h9) (xb_d D_Reader_plainBytes 41 rfl) ?_
      refine lv_iload_n hx hb (xb_d D_Reader_plainBytes 42 rfl) rfl (lv_at hl 1 rfl) ?_
      refine lv_iadd hx hb (xb_d D_Reader_plainBytes 43 rfl) ?_
      refine xb_putI (C := R_Reader) (T := F_Reader) (N := 6) (ty := .int) (x := ((xb_i h x0 3) + x1)) hx hb 3 3 hts fin_Reader t_Reader t_Reader_ok n_Reader hown hR hS hk2 (by decide) rfl (by decide) rfl (hts _ m_a9b84ac2) (fun _ h9 => h9) rfl (by decide +kernel) rfl rfl (xb_d D_Reader_plainBytes 44 rfl) (fun H locs hR hS => ?_)
      obtain ⟨h3, eh3⟩ : ∃ x : xb_H, x = xb_I h x0 3 ((xb_i h x0 3) + x1) := ⟨_, rfl⟩
      rw [← eh3] at hR
      have hw := hw h3 eh3
      have hE : xb_ext h0 h3 := by rw [eh3]; exact hE
      refine lv_lload_n hx hb (xb_d D_Reader_plainBytes 45 rfl) rfl (lv_at hl 2 rfl) ?_
      exact xb_lret hx hb hr hlocks (show k ≤ MC by omega) (show n ≤ MS by omega) hE hR hS (xb_d D_Reader_plainBytes 46 rfl) hw
    · have hw := hw.2 hc1
      refine lv_lload_n hx hb (xb_d D_Reader_plainBytes 20 rfl) rfl (lv_at hl 2 rfl) ?_
      refine lv_aload_n hx hb (xb_d D_Reader_plainBytes 21 rfl) rfl (lv_at hl 0 rfl) ?_
      obtain ⟨hk4, hw⟩ := hw
      refine xb_getP (C := R_Reader) (T := F_Reader) (N := 6) hx hb 3 1 hts fin_Reader hown hR hk4 (by decide) rfl (by decide) rfl (hts _ m_d1ba4be8) (fun _ h9 => h9) (xb_d D_Reader_plainBytes 22 rfl) ?_
      obtain ⟨b5, eb5, hw⟩ := hw
      refine xb_some eb5 ?_
      refine lv_aload_n hx hb (xb_d D_Reader_plainBytes 23 rfl) rfl (lv_at hl 0 rfl) ?_
      refine xb_getI (C := R_Reader) (T := F_Reader) (N := 6) hx hb 3 3 hts fin_Reader hown hR hk4 (by decide) rfl (by decide) rfl (hts _ m_a9b84ac2) (fun _ h9 => h9) (xb_d D_Reader_plainBytes 24 rfl) ?_
      refine lv_iload hx hb (xb_d D_Reader_plainBytes 25 rfl) (lv_at hl 3 rfl) ?_
      refine lv_iadd hx hb (xb_d D_Reader_plainBytes 26 rfl) ?_
      obtain ⟨hk7, hw⟩ := hw
      obtain ⟨hi6, hw⟩ := hw
      refine xb_bald hx hb hR hk7 hi6 (xb_d D_Reader_plainBytes 27 rfl) ?_
      refine lv_i2l hx hb (xb_d D_Reader_plainBytes 28 rfl) rfl ?_
      refine lv_ldc2 (v := 255) hx hb hown (hts _ m_1a463606) (xb_d D_Reader_plainBytes 29 rfl) ?_
      refine lv_land hx hb (xb_d D_Reader_plainBytes 30 rfl) ?_
      refine lv_bipush (v := 8) hx hb (xb_d D_Reader_plainBytes 31 rfl) (by decide) ?_
      refine lv_iload hx hb (xb_d D_Reader_plainBytes 32 rfl) (lv_at hl 3 rfl) ?_
      refine lv_imul hx hb (xb_d D_Reader_plainBytes 33 rfl) ?_
      refine lv_lshl (v := (xb_lshl ((Int32.toInt64 (xb_i h b5 (Int32.toNatClampNeg ((xb_i h x0 3) + x4)))) &&& 255) (8 * x4))) hx hb (xb_d D_Reader_plainBytes 34 rfl) rfl ?_
      refine lv_lor hx hb (xb_d D_Reader_plainBytes 35 rfl) ?_
      obtain ⟨v8, ev8⟩ : ∃ x : Int64, x = (x2 ||| (xb_lshl ((Int32.toInt64 (xb_i h b5 (Int32.toNatClampNeg ((xb_i h x0 3) + x4)))) &&& 255) (8 * x4))) := ⟨_, rfl⟩
      have hw := hw v8 ev8
      refine xt_numl (y := v8) ev8.symm ?_
      refine lv_lstore_n hx hb (xb_d D_Reader_plainBytes 36 rfl) rfl hl (by decide) rfl (fun ls hl => ?_)
      have hl : lv_has ls 5 [(2, .long v8), (0, .ref x0), (1, .int x1), (4, .int x4)] := hl
      refine lv_iinc (v := (x4 + 1)) (k := 3) hx hb (xb_d D_Reader_plainBytes 37 rfl) hl rfl (by first | rfl | decide) (by decide) rfl (fun ls hl => ?_)
      have hl : lv_has ls 5 [(4, .int (x4 + 1)), (2, .long v8), (0, .ref x0), (1, .int x1)] := hl
      refine lv_goto (tgt := 30) hx hb (xb_d D_Reader_plainBytes 38 rfl) rfl ?_
      exact ih x0 x1 v8 (x4 + 1) h bc bs hw p e s m args below meth c hC H locs ls k n hE (lv_sub hl [2, 3, 1, 0] rfl) hR hS (by omega) (by omega)

set_option maxHeartbeats 4000000 in
set_option maxRecDepth 100000 in
theorem am_Reader_plainBytes_L25 (l : Launch) (hfl : l.flags = pinnedFlags ++ [noTraceFlag]) (D : va_G) (A : Nat → Prop) (σ MC MS : Nat) (h0 : xb_H) (Qr : Int64 → xb_H → Prop) (Qt : String → xb_H → Prop) (x0 : Nat) (x1 : Int32) (h : xb_H) (bc : Nat) (bs : Nat) (hw : w_Reader_plainBytes_L25 Qr Qt x0 x1 h bc bs) : xb_am l D A σ 3 MC MS h0 (fun v h => ∃ r, v = some (.long r) ∧ Qr r h) Qt y_Reader_plainBytes.cls y_Reader_plainBytes.name b_Reader_plainBytes 5 ([] : List ExceptionTableEntry) (some .long) 25 [(0, .ref x0), (1, .int x1)] [] h bc bs := by
  unfold w_Reader_plainBytes_L25 at hw
  intro p e s m args below meth c hC H locs ls k n hE hl hR hS hk hn
  obtain ⟨hx, hb, hown, hlocks, htab, hml, hr, hB, hA, hnm⟩ := id hC
  have hts := hB.1.1.at args
  refine lv_lconst (v := 0) hx hb (xb_d D_Reader_plainBytes 13 rfl) (by decide) ?_
  refine lv_lstore_n hx hb (xb_d D_Reader_plainBytes 14 rfl) rfl hl (by decide) rfl (fun ls hl => ?_)
  have hl : lv_has ls 5 [(2, .long 0), (0, .ref x0), (1, .int x1)] := hl
  refine lv_iconst (v := 0) hx hb (xb_d D_Reader_plainBytes 15 rfl) (by decide) ?_
  refine lv_istore hx hb (xb_d D_Reader_plainBytes 16 rfl) hl (by decide) rfl (fun ls hl => ?_)
  have hl : lv_has ls 5 [(4, .int 0), (2, .long 0), (0, .ref x0), (1, .int x1)] := hl
  obtain ⟨n8, hw⟩ := hw
  exact am_Reader_plainBytes_L30 l hfl D A σ MC MS h0 Qr Qt n8 x0 x1 0 0 h bc bs hw p e s m args below meth c hC H locs ls k n hE (lv_sub hl [2, 3, 1, 0] rfl) hR hS (by omega) (by omega)

set_option maxHeartbeats 4000000 in
set_option maxRecDepth 100000 in
theorem ok_Reader_plainBytes (l : Launch) (hfl : l.flags = pinnedFlags ++ [noTraceFlag]) (D : va_G) (A : Nat → Prop) (σ : Nat) (x0 : Nat) (x1 : Int32) (h : xb_H) (bc : Nat) (bs : Nat) (Qr : Int64 → xb_H → Prop) (Qt : String → xb_H → Prop) (hw : w_Reader_plainBytes x0 x1 h bc bs Qr Qt) : xt_Met l y_Reader_plainBytes [.code y_Reader_plainBytes b_Reader_plainBytes 5 (some .long)] (xb_rm 3 bc bs) (xb_Pc D A σ h [.ref x0, .int x1]) (xb_Qc D A h (fun v h => ∃ r, v = some (.long r) ∧ Qr r h) Qt) bc bs A := by
  refine xb_ofAm (cc := b_Reader_plainBytes) (by decide) (Nat.le_of_ble_eq_true rfl) ?_
  unfold w_Reader_plainBytes at hw
  show xb_am l D A σ 3 bc bs h (fun v h => ∃ r, v = some (.long r) ∧ Qr r h) Qt y_Reader_plainBytes.cls y_Reader_plainBytes.name b_Reader_plainBytes 5 ([] : List ExceptionTableEntry) (some .long) 0 [(0, .ref x0), (1, .int x1)] [] h bc bs
  obtain ⟨MC, hMC⟩ : ∃ x, x = bc := ⟨_, rfl⟩
  obtain ⟨MS, hMS⟩ : ∃ x, x = bs := ⟨_, rfl⟩
  rw [show xb_am l D A σ 3 bc bs = xb_am l D A σ 3 MC MS by rw [hMC, hMS]]
  obtain ⟨h0, hh0⟩ : ∃ x, x = h := ⟨_, rfl⟩
  rw [show xb_am l D A σ 3 MC MS h = xb_am l D A σ 3 MC MS h0 by rw [hh0]]
  intro p e s m args below meth c hC H locs ls k n hE hl hR hS hk hn
  obtain ⟨hx, hb, hown, hlocks, htab, hml, hr, hB, hA, hnm⟩ := id hC
  have hts := hB.1.1.at args
  refine lv_iload_n hx hb (xb_d D_Reader_plainBytes 0 rfl) rfl (lv_at hl 1 rfl) ?_
  refine lv_aload_n hx hb (xb_d D_Reader_plainBytes 1 rfl) rfl (lv_at hl 0 rfl) ?_
  obtain ⟨hk1, hw⟩ := hw
  refine xb_getI (C := R_Reader) (T := F_Reader) (N := 6) hx hb 3 4 hts fin_Reader hown hR hk1 (by decide) rfl (by decide) rfl (hts _ m_49916c4b) (fun _ h9 => h9) (xb_d D_Reader_plainBytes 2 rfl) ?_
  refine lv_aload_n hx hb (xb_d D_Reader_plainBytes 3 rfl) rfl (lv_at hl 0 rfl) ?_
  refine xb_getI (C := R_Reader) (T := F_Reader) (N := 6) hx hb 3 3 hts fin_Reader hown hR hk1 (by decide) rfl (by decide) rfl (hts _ m_a9b84ac2) (fun _ h9 => h9) (xb_d D_Reader_plainBytes 4 rfl) ?_
  refine lv_isub hx hb (xb_d D_Reader_plainBytes 5 rfl) ?_
  refine lv_icmp_le (tgt := 25) hx hb (xb_d D_Reader_plainBytes 6 rfl) rfl (fun hc2 => ?_) (fun hc2 => ?_)
  · have hw := hw.1 hc2
    exact am_Reader_plainBytes_L25 l hfl D A σ MC MS h0 Qr Qt x0 x1 h bc bs hw p e s m args below meth c hC H locs ls k n hE (lv_sub hl [0, 1] rfl) hR hS (by omega) (by omega)
  · have hw := hw.2 hc2
    refine lv_aload_n hx hb (xb_d D_Reader_plainBytes 7 rfl) rfl (lv_at hl 0 rfl) ?_
    refine xb_getP (C := R_Reader) (T := F_Reader) (N := 6) hx hb 3 0 hts fin_Reader hown hR hk1 (by decide) rfl (by decide) rfl (hts _ m_76d8349c) (fun _ h9 => h9) (xb_d D_Reader_plainBytes 8 rfl) ?_
    obtain ⟨b3, eb3, hw⟩ := hw
    refine xb_some eb3 ?_
    refine lv_iconst (v := 2) hx hb (xb_d D_Reader_plainBytes 9 rfl) (by decide) ?_
    refine lv_aload_n hx hb (xb_d D_Reader_plainBytes 10 rfl) rfl (lv_at hl 0 rfl) ?_
    refine xb_getI (C := R_Reader) (T := F_Reader) (N := 6) hx hb 3 4 hts fin_Reader hown hR hk1 (by decide) rfl (by decide) rfl (hts _ m_49916c4b) (fun _ h9 => h9) (xb_d D_Reader_plainBytes 11 rfl) ?_
    obtain ⟨hk4, hw⟩ := hw
    obtain ⟨c7, sc7, hlc7, hlsc7, hw⟩ := hw
    refine xb_call (D := D) (A := A) (σ := σ) (h := h) (d := 2) (mc := c7) (ms := sc7) (maxL := 3) (rest := []) (av := [.ref b3, .int 2, .int (xb_i h x0 4)]) (fun T hT X => by obtain ⟨cb, r1, r2, r3⟩ := xb_recv (ci := 2) hR rfl hk4 (by decide); exact xt_invV X hx hown (hts _ m_6fcde429) (hts _ m_865d5b07) (hts _ m_113f8f75) (xt_sigOf (hts _ m_73e65e5f)) nm_StackModule_fail (by rw [hT]; exact r1) r2 r3 (g := F0 m 22 ls [.int (xb_i h x0 4), .int 2, .ref b3]) rfl (argsL := [.int 2, .int (xb_i h x0 4)]) (rest := []) rfl rfl (by rw [hb]; exact (xb_d D_Reader_plainBytes 12 rfl))) (ok_StackModule_fail l hfl D A σ b3 2 (xb_i h x0 4) h c7 sc7 _ _ hw) (hml.trans hl.1.symm) (by rw [hb]; exact (xb_d D_Reader_plainBytes 12 rfl)) (Nat.le_of_ble_eq_true rfl) (Nat.le_of_ble_eq_true rfl) (Nat.le_of_ble_eq_true rfl) (show k + c7 ≤ MC by omega) (show n + sc7 ≤ MS by omega) (xt_w1 hB.1 m_73e65e5f) (xt_cdOf hB.1 m_73e65e5f) (hts _ m_9c375545) hB hR hS hA (fun vv h5 H locs hq hEh5 hR hS => ?_) (fun XX ax h5 H locs hq hEh5 hex hR hS => ?_)
    · obtain ⟨rfl, hw⟩ := hq
      have hw := hw hEh5
      have hE := hE.tr hEh5
      refine W.eq (g2 := F0 m 25 ls []) rfl ?_
      exact am_Reader_plainBytes_L25 l hfl D A σ MC MS h0 Qr Qt x0 x1 h5 (bc - c7) (bs - sc7) hw p e s m args below meth c hC H locs ls (k + c7) (n + sc7) hE (lv_sub hl [0, 1] rfl) hR hS (by omega) (by omega)
    · exact xb_pass hlocks (fun x hx9 => by rw [htab] at hx9; first | cases hx9 | (simp [tableOf] at hx9; rcases hx9 with rfl | rfl | rfl <;> decide)) (show (k + c7) ≤ MC by omega) (show (n + sc7) ≤ MS by omega) (hE.tr hEh5) hR hS hex hq

set_option maxRecDepth 100000 in
def T_Reader_readMark : List (Nat × Instr × Nat) := [(0, .aload_n 0, 1), (1, .getfield 41, 3), (4, .aload_n 0, 1), (5, .getfield 30, 3), (8, .if_icmp .lt 15, 3), (11, .aload_n 0, 1), (12, .getfield 15, 3), (15, .iconst 2, 1), (16, .aload_n 0, 1), (17, .getfield 30, 3), (20, .invokevirtual 37, 3), (23, .aload_n 0, 1), (24, .getfield 25, 3), (27, .aload_n 0, 1), (28, .getfield 41, 3), (31, .baload, 1), (32, .iload_n 1, 1), (33, .if_icmp .eq 15, 3), (36, .aload_n 0, 1), (37, .getfield 15, 3), (40, .iconst 5, 1), (41, .aload_n 0, 1), (42, .getfield 41, 3), (45, .invokevirtual 37, 3), (48, .aload_n 0, 1), (49, .dup, 1), (50, .getfield 41, 3), (53, .iconst 1, 1), (54, .iadd, 1), (55, .putfield 41, 3), (58, .return_, 1)]
theorem D_Reader_readMark : ∀ q ∈ T_Reader_readMark, decode b_Reader_readMark q.1 = .ok (q.2.1, q.2.2) := by decide +kernel
def w_Reader_readMark_L48 (Qr : xb_H → Prop) (Qt : String → xb_H → Prop) (x0 : Nat) (h : xb_H) (bc : Nat) (bs : Nat) : Prop :=
    xb_k h x0 = 4 ∧ ∀ h2 : xb_H, h2 = xb_I h x0 3 ((xb_i h x0 3) + 1) → Qr h2

def w_Reader_readMark_L23 (Qr : xb_H → Prop) (Qt : String → xb_H → Prop) (x0 : Nat) (x1 : Int32) (h : xb_H) (bc : Nat) (bs : Nat) : Prop :=
    xb_k h x0 = 4 ∧ ∃ b2 : Nat, (xb_r h x0 1) = some b2 ∧ xb_k h b2 = 100 ∧ vp_in (xb_i h x0 3) (xb_n h b2) ∧ (((xb_i h b2 (Int32.toNatClampNeg (xb_i h x0 3))) = x1 → w_Reader_readMark_L48 Qr Qt x0 h bc bs) ∧ (¬ (xb_i h b2 (Int32.toNatClampNeg (xb_i h x0 3))) = x1 → ∃ b6 : Nat, (xb_r h x0 0) = some b6 ∧ xb_k h b6 = 3 ∧ ∃ c10 sc10 : Nat, c10 ≤ bc ∧ sc10 ≤ bs ∧ w_StackModule_fail b6 5 (xb_i h x0 3) h c10 sc10 (fun (h8 : xb_H) => xb_ext h h8 → w_Reader_readMark_L48 Qr Qt x0 h8 (bc - c10) (bs - sc10)) Qt))

def w_Reader_readMark (x0 : Nat) (x1 : Int32) (h : xb_H) (bc : Nat) (bs : Nat) (Qr : xb_H → Prop) (Qt : String → xb_H → Prop) : Prop :=
    xb_k h x0 = 4 ∧ (((xb_i h x0 3) < (xb_i h x0 4) → w_Reader_readMark_L23 Qr Qt x0 x1 h bc bs) ∧ (¬ (xb_i h x0 3) < (xb_i h x0 4) → ∃ b3 : Nat, (xb_r h x0 0) = some b3 ∧ xb_k h b3 = 3 ∧ ∃ c7 sc7 : Nat, c7 ≤ bc ∧ sc7 ≤ bs ∧ w_StackModule_fail b3 2 (xb_i h x0 4) h c7 sc7 (fun (h5 : xb_H) => xb_ext h h5 → w_Reader_readMark_L23 Qr Qt x0 x1 h5 (bc - c7) (bs - sc7)) Qt))

set_option maxHeartbeats 4000000 in
set_option maxRecDepth 100000 in
theorem am_Reader_readMark_L48 (l : Launch) (hfl : l.flags = pinnedFlags ++ [noTraceFlag]) (D : va_G) (A : Nat → Prop) (σ MC MS : Nat) (h0 : xb_H) (Qr : xb_H → Prop) (Qt : String → xb_H → Prop) (x0 : Nat) (h : xb_H) (bc : Nat) (bs : Nat) (hw : w_Reader_readMark_L48 Qr Qt x0 h bc bs) : xb_am l D A σ 3 MC MS h0 (fun v h => v = none ∧ Qr h) Qt y_Reader_readMark.cls y_Reader_readMark.name b_Reader_readMark 2 ([] : List ExceptionTableEntry) none 48 [(0, .ref x0)] [] h bc bs := by
  unfold w_Reader_readMark_L48 at hw
  intro p e s m args below meth c hC H locs ls k n hE hl hR hS hk hn
  obtain ⟨hx, hb, hown, hlocks, htab, hml, hr, hB, hA, hnm⟩ := id hC
  have hts := hB.1.1.at args
  refine lv_aload_n hx hb (xb_d D_Reader_readMark 24 rfl) rfl (lv_at hl 0 rfl) ?_
  refine lv_dup hx hb (xb_d D_Reader_readMark 25 rfl) rfl ?_
  obtain ⟨hk1, hw⟩ := hw
  refine xb_getI (C := R_Reader) (T := F_Reader) (N := 6) hx hb 3 3 hts fin_Reader hown hR hk1 (by decide) rfl (by decide) rfl (hts _ m_a9b84ac2) (fun _ h9 => h9) (xb_d D_Reader_readMark 26 rfl) ?_
  refine lv_iconst (v := 1) hx hb (xb_d D_Reader_readMark 27 rfl) (by decide) ?_
  refine lv_iadd hx hb (xb_d D_Reader_readMark 28 rfl) ?_
  refine xb_putI (C := R_Reader) (T := F_Reader) (N := 6) (ty := .int) (x := ((xb_i h x0 3) + 1)) hx hb 3 3 hts fin_Reader t_Reader t_Reader_ok n_Reader hown hR hS hk1 (by decide) rfl (by decide) rfl (hts _ m_a9b84ac2) (fun _ h9 => h9) rfl (by decide +kernel) rfl rfl (xb_d D_Reader_readMark 29 rfl) (fun H locs hR hS => ?_)
  obtain ⟨h2, eh2⟩ : ∃ x : xb_H, x = xb_I h x0 3 ((xb_i h x0 3) + 1) := ⟨_, rfl⟩
  rw [← eh2] at hR
  have hw := hw h2 eh2
  have hE : xb_ext h0 h2 := by rw [eh2]; exact hE
  exact xb_vret hx hb hr hlocks (show k ≤ MC by omega) (show n ≤ MS by omega) hE hR hS (xb_d D_Reader_readMark 30 rfl) hw

set_option maxHeartbeats 4000000 in
set_option maxRecDepth 100000 in
theorem am_Reader_readMark_L23 (l : Launch) (hfl : l.flags = pinnedFlags ++ [noTraceFlag]) (D : va_G) (A : Nat → Prop) (σ MC MS : Nat) (h0 : xb_H) (Qr : xb_H → Prop) (Qt : String → xb_H → Prop) (x0 : Nat) (x1 : Int32) (h : xb_H) (bc : Nat) (bs : Nat) (hw : w_Reader_readMark_L23 Qr Qt x0 x1 h bc bs) : xb_am l D A σ 3 MC MS h0 (fun v h => v = none ∧ Qr h) Qt y_Reader_readMark.cls y_Reader_readMark.name b_Reader_readMark 2 ([] : List ExceptionTableEntry) none 23 [(0, .ref x0), (1, .int x1)] [] h bc bs := by
  unfold w_Reader_readMark_L23 at hw
  intro p e s m args below meth c hC H locs ls k n hE hl hR hS hk hn
  obtain ⟨hx, hb, hown, hlocks, htab, hml, hr, hB, hA, hnm⟩ := id hC
  have hts := hB.1.1.at args
  refine lv_aload_n hx hb (xb_d D_Reader_readMark 11 rfl) rfl (lv_at hl 0 rfl) ?_
  obtain ⟨hk1, hw⟩ := hw
  refine xb_getP (C := R_Reader) (T := F_Reader) (N := 6) hx hb 3 1 hts fin_Reader hown hR hk1 (by decide) rfl (by decide) rfl (hts _ m_d1ba4be8) (fun _ h9 => h9) (xb_d D_Reader_readMark 12 rfl) ?_
  obtain ⟨b2, eb2, hw⟩ := hw
  refine xb_some eb2 ?_
  refine lv_aload_n hx hb (xb_d D_Reader_readMark 13 rfl) rfl (lv_at hl 0 rfl) ?_
  refine xb_getI (C := R_Reader) (T := F_Reader) (N := 6) hx hb 3 3 hts fin_Reader hown hR hk1 (by decide) rfl (by decide) rfl (hts _ m_a9b84ac2) (fun _ h9 => h9) (xb_d D_Reader_readMark 14 rfl) ?_
  obtain ⟨hk4, hw⟩ := hw
  obtain ⟨hi3, hw⟩ := hw
  refine xb_bald hx hb hR hk4 hi3 (xb_d D_Reader_readMark 15 rfl) ?_
  refine lv_iload_n hx hb (xb_d D_Reader_readMark 16 rfl) rfl (lv_at hl 1 rfl) ?_
  refine lv_icmp_eq (tgt := 48) hx hb (xb_d D_Reader_readMark 17 rfl) rfl (fun hc5 => ?_) (fun hc5 => ?_)
  · have hw := hw.1 hc5
    exact am_Reader_readMark_L48 l hfl D A σ MC MS h0 Qr Qt x0 h bc bs hw p e s m args below meth c hC H locs ls k n hE (lv_sub hl [0] rfl) hR hS (by omega) (by omega)
  · have hw := hw.2 hc5
    refine lv_aload_n hx hb (xb_d D_Reader_readMark 18 rfl) rfl (lv_at hl 0 rfl) ?_
    refine xb_getP (C := R_Reader) (T := F_Reader) (N := 6) hx hb 3 0 hts fin_Reader hown hR hk1 (by decide) rfl (by decide) rfl (hts _ m_76d8349c) (fun _ h9 => h9) (xb_d D_Reader_readMark 19 rfl) ?_
    obtain ⟨b6, eb6, hw⟩ := hw
    refine xb_some eb6 ?_
    refine lv_iconst (v := 5) hx hb (xb_d D_Reader_readMark 20 rfl) (by decide) ?_
    refine lv_aload_n hx hb (xb_d D_Reader_readMark 21 rfl) rfl (lv_at hl 0 rfl) ?_
    refine xb_getI (C := R_Reader) (T := F_Reader) (N := 6) hx hb 3 3 hts fin_Reader hown hR hk1 (by decide) rfl (by decide) rfl (hts _ m_a9b84ac2) (fun _ h9 => h9) (xb_d D_Reader_readMark 22 rfl) ?_
    obtain ⟨hk7, hw⟩ := hw
    obtain ⟨c10, sc10, hlc10, hlsc10, hw⟩ := hw
    refine xb_call (D := D) (A := A) (σ := σ) (h := h) (d := 2) (mc := c10) (ms := sc10) (maxL := 3) (rest := []) (av := [.ref b6, .int 5, .int (xb_i h x0 3)]) (fun T hT X => by obtain ⟨cb, r1, r2, r3⟩ := xb_recv (ci := 2) hR rfl hk7 (by decide); exact xt_invV X hx hown (hts _ m_6fcde429) (hts _ m_865d5b07) (hts _ m_113f8f75) (xt_sigOf (hts _ m_73e65e5f)) nm_StackModule_fail (by rw [hT]; exact r1) r2 r3 (g := F0 m 45 ls [.int (xb_i h x0 3), .int 5, .ref b6]) rfl (argsL := [.int 5, .int (xb_i h x0 3)]) (rest := []) rfl rfl (by rw [hb]; exact (xb_d D_Reader_readMark 23 rfl))) (ok_StackModule_fail l hfl D A σ b6 5 (xb_i h x0 3) h c10 sc10 _ _ hw) (hml.trans hl.1.symm) (by rw [hb]; exact (xb_d D_Reader_readMark 23 rfl)) (Nat.le_of_ble_eq_true rfl) (Nat.le_of_ble_eq_true rfl) (Nat.le_of_ble_eq_true rfl) (show k + c10 ≤ MC by omega) (show n + sc10 ≤ MS by omega) (xt_w1 hB.1 m_73e65e5f) (xt_cdOf hB.1 m_73e65e5f) (hts _ m_9c375545) hB hR hS hA (fun vv h8 H locs hq hEh8 hR hS => ?_) (fun XX ax h8 H locs hq hEh8 hex hR hS => ?_)
    · obtain ⟨rfl, hw⟩ := hq
      have hw := hw hEh8
      have hE := hE.tr hEh8
      refine W.eq (g2 := F0 m 48 ls []) rfl ?_
      exact am_Reader_readMark_L48 l hfl D A σ MC MS h0 Qr Qt x0 h8 (bc - c10) (bs - sc10) hw p e s m args below meth c hC H locs ls (k + c10) (n + sc10) hE (lv_sub hl [0] rfl) hR hS (by omega) (by omega)
    · exact xb_pass hlocks (fun x hx9 => by rw [htab] at hx9; first | cases hx9 | (simp [tableOf] at hx9; rcases hx9 with rfl | rfl | rfl <;> decide)) (show (k + c10) ≤ MC by omega) (show (n + sc10) ≤ MS by omega) (hE.tr hEh8) hR hS hex hq

set_option maxHeartbeats 4000000 in
set_option maxRecDepth 100000 in
theorem ok_Reader_readMark (l : Launch) (hfl : l.flags = pinnedFlags ++ [noTraceFlag]) (D : va_G) (A : Nat → Prop) (σ : Nat) (x0 : Nat) (x1 : Int32) (h : xb_H) (bc : Nat) (bs : Nat) (Qr : xb_H → Prop) (Qt : String → xb_H → Prop) (hw : w_Reader_readMark x0 x1 h bc bs Qr Qt) : xt_Met l y_Reader_readMark [.code y_Reader_readMark b_Reader_readMark 2 none] (xb_rm 3 bc bs) (xb_Pc D A σ h [.ref x0, .int x1]) (xb_Qc D A h (fun v h => v = none ∧ Qr h) Qt) bc bs A := by
  refine xb_ofAm (cc := b_Reader_readMark) (by decide) (Nat.le_of_ble_eq_true rfl) ?_
  unfold w_Reader_readMark at hw
  show xb_am l D A σ 3 bc bs h (fun v h => v = none ∧ Qr h) Qt y_Reader_readMark.cls y_Reader_readMark.name b_Reader_readMark 2 ([] : List ExceptionTableEntry) none 0 [(0, .ref x0), (1, .int x1)] [] h bc bs
  obtain ⟨MC, hMC⟩ : ∃ x, x = bc := ⟨_, rfl⟩
  obtain ⟨MS, hMS⟩ : ∃ x, x = bs := ⟨_, rfl⟩
  rw [show xb_am l D A σ 3 bc bs = xb_am l D A σ 3 MC MS by rw [hMC, hMS]]
  obtain ⟨h0, hh0⟩ : ∃ x, x = h := ⟨_, rfl⟩
  rw [show xb_am l D A σ 3 MC MS h = xb_am l D A σ 3 MC MS h0 by rw [hh0]]
  intro p e s m args below meth c hC H locs ls k n hE hl hR hS hk hn
  obtain ⟨hx, hb, hown, hlocks, htab, hml, hr, hB, hA, hnm⟩ := id hC
  have hts := hB.1.1.at args
  refine lv_aload_n hx hb (xb_d D_Reader_readMark 0 rfl) rfl (lv_at hl 0 rfl) ?_
  obtain ⟨hk1, hw⟩ := hw
  refine xb_getI (C := R_Reader) (T := F_Reader) (N := 6) hx hb 3 3 hts fin_Reader hown hR hk1 (by decide) rfl (by decide) rfl (hts _ m_a9b84ac2) (fun _ h9 => h9) (xb_d D_Reader_readMark 1 rfl) ?_
  refine lv_aload_n hx hb (xb_d D_Reader_readMark 2 rfl) rfl (lv_at hl 0 rfl) ?_
  refine xb_getI (C := R_Reader) (T := F_Reader) (N := 6) hx hb 3 4 hts fin_Reader hown hR hk1 (by decide) rfl (by decide) rfl (hts _ m_49916c4b) (fun _ h9 => h9) (xb_d D_Reader_readMark 3 rfl) ?_
  refine lv_icmp_lt (tgt := 23) hx hb (xb_d D_Reader_readMark 4 rfl) rfl (fun hc2 => ?_) (fun hc2 => ?_)
  · have hw := hw.1 hc2
    exact am_Reader_readMark_L23 l hfl D A σ MC MS h0 Qr Qt x0 x1 h bc bs hw p e s m args below meth c hC H locs ls k n hE (lv_sub hl [0, 1] rfl) hR hS (by omega) (by omega)
  · have hw := hw.2 hc2
    refine lv_aload_n hx hb (xb_d D_Reader_readMark 5 rfl) rfl (lv_at hl 0 rfl) ?_
    refine xb_getP (C := R_Reader) (T := F_Reader) (N := 6) hx hb 3 0 hts fin_Reader hown hR hk1 (by decide) rfl (by decide) rfl (hts _ m_76d8349c) (fun _ h9 => h9) (xb_d D_Reader_readMark 6 rfl) ?_
    obtain ⟨b3, eb3, hw⟩ := hw
    refine xb_some eb3 ?_
    refine lv_iconst (v := 2) hx hb (xb_d D_Reader_readMark 7 rfl) (by decide) ?_
    refine lv_aload_n hx hb (xb_d D_Reader_readMark 8 rfl) rfl (lv_at hl 0 rfl) ?_
    refine xb_getI (C := R_Reader) (T := F_Reader) (N := 6) hx hb 3 4 hts fin_Reader hown hR hk1 (by decide) rfl (by decide) rfl (hts _ m_49916c4b) (fun _ h9 => h9) (xb_d D_Reader_readMark 9 rfl) ?_
    obtain ⟨hk4, hw⟩ := hw
    obtain ⟨c7, sc7, hlc7, hlsc7, hw⟩ := hw
    refine xb_call (D := D) (A := A) (σ := σ) (h := h) (d := 2) (mc := c7) (ms := sc7) (maxL := 3) (rest := []) (av := [.ref b3, .int 2, .int (xb_i h x0 4)]) (fun T hT X => by obtain ⟨cb, r1, r2, r3⟩ := xb_recv (ci := 2) hR rfl hk4 (by decide); exact xt_invV X hx hown (hts _ m_6fcde429) (hts _ m_865d5b07) (hts _ m_113f8f75) (xt_sigOf (hts _ m_73e65e5f)) nm_StackModule_fail (by rw [hT]; exact r1) r2 r3 (g := F0 m 20 ls [.int (xb_i h x0 4), .int 2, .ref b3]) rfl (argsL := [.int 2, .int (xb_i h x0 4)]) (rest := []) rfl rfl (by rw [hb]; exact (xb_d D_Reader_readMark 10 rfl))) (ok_StackModule_fail l hfl D A σ b3 2 (xb_i h x0 4) h c7 sc7 _ _ hw) (hml.trans hl.1.symm) (by rw [hb]; exact (xb_d D_Reader_readMark 10 rfl)) (Nat.le_of_ble_eq_true rfl) (Nat.le_of_ble_eq_true rfl) (Nat.le_of_ble_eq_true rfl) (show k + c7 ≤ MC by omega) (show n + sc7 ≤ MS by omega) (xt_w1 hB.1 m_73e65e5f) (xt_cdOf hB.1 m_73e65e5f) (hts _ m_9c375545) hB hR hS hA (fun vv h5 H locs hq hEh5 hR hS => ?_) (fun XX ax h5 H locs hq hEh5 hex hR hS => ?_)
    · obtain ⟨rfl, hw⟩ := hq
      have hw := hw hEh5
      have hE := hE.tr hEh5
      refine W.eq (g2 := F0 m 23 ls []) rfl ?_
      exact am_Reader_readMark_L23 l hfl D A σ MC MS h0 Qr Qt x0 x1 h5 (bc - c7) (bs - sc7) hw p e s m args below meth c hC H locs ls (k + c7) (n + sc7) hE (lv_sub hl [0, 1] rfl) hR hS (by omega) (by omega)
    · exact xb_pass hlocks (fun x hx9 => by rw [htab] at hx9; first | cases hx9 | (simp [tableOf] at hx9; rcases hx9 with rfl | rfl | rfl <;> decide)) (show (k + c7) ≤ MC by omega) (show (n + sc7) ≤ MS by omega) (hE.tr hEh5) hR hS hex hq

theorem m_1b4cc923 : (.methodLink "StackHost$Reader" 44 Lib.Math.max.name : Cond) ∈ xt_tbl := xt_in (xt_t3 (List.mem_of_getElem? (i := 180) (by decide +kernel))) (by decide +kernel)
theorem m_ec6fdc25 : (.methodLink "StackHost$Reader" 125 y_Reader_endsSigned : Cond) ∈ xt_tbl := xt_in (xt_t4 (List.mem_of_getElem? (i := 54) (by decide +kernel))) (by decide +kernel)
theorem m_95bd78c4 : (.static y_Reader_endsSigned : Cond) ∈ xt_tbl := xt_in (xt_t4 (List.mem_of_getElem? (i := 55) (by decide +kernel))) (by decide +kernel)
theorem m_938fcec4 : (.initialized "StackHost$Reader" : Cond) ∈ xt_tbl := xt_in (xt_t1 (List.mem_of_getElem? (i := 2) (by decide +kernel))) (by decide +kernel)
theorem m_9c37fa6e : (.code y_Reader_endsSigned b_Reader_endsSigned 2 (some .boolean) : Cond) ∈ xt_tbl := xt_in (xt_t4 (List.mem_of_getElem? (i := 56) (by decide +kernel))) (by decide +kernel)
theorem nm_Reader_endsSigned : xt_nm y_Reader_endsSigned 2 := ⟨by decide +kernel, by decide +kernel⟩
set_option maxRecDepth 100000 in
def T_Reader_signed : List (Nat × Instr × Nat) := [(0, .lconst 0, 1), (1, .lstore_n 2, 1), (2, .iconst 0, 1), (3, .istore 4, 2), (5, .iconst 0, 1), (6, .istore 5, 2), (8, .iload 5, 2), (10, .iload_n 1, 1), (11, .if_icmp .ge 121, 3), (14, .aload_n 0, 1), (15, .getfield 41, 3), (18, .aload_n 0, 1), (19, .getfield 30, 3), (22, .if_icmp .lt 15, 3), (25, .aload_n 0, 1), (26, .getfield 15, 3), (29, .iconst 2, 1), (30, .aload_n 0, 1), (31, .getfield 30, 3), (34, .invokevirtual 37, 3), (37, .aload_n 0, 1), (38, .getfield 25, 3), (41, .aload_n 0, 1), (42, .getfield 41, 3), (45, .baload, 1), (46, .sipush 255, 3), (49, .iand, 1), (50, .istore 6, 2), (52, .iload 5, 2), (54, .iload_n 1, 1), (55, .iconst 1, 1), (56, .isub, 1), (57, .if_icmp .ne 24, 3), (60, .iload 6, 2), (62, .iload_n 1, 1), (63, .invokestatic 125, 3), (66, .ifCond .ne 15, 3), (69, .aload_n 0, 1), (70, .getfield 15, 3), (73, .iconst 3, 1), (74, .aload_n 0, 1), (75, .getfield 41, 3), (78, .invokevirtual 37, 3), (81, .aload_n 0, 1), (82, .dup, 1), (83, .getfield 41, 3), (86, .iconst 1, 1), (87, .iadd, 1), (88, .putfield 41, 3), (91, .lload_n 2, 1), (92, .iload 6, 2), (94, .bipush 127, 2), (96, .iand, 1), (97, .i2l, 1), (98, .bipush 7, 2), (100, .iload 5, 2), (102, .imul, 1), (103, .lshl, 1), (104, .lor, 1), (105, .lstore_n 2, 1), (106, .bipush 7, 2), (108, .iload 5, 2), (110, .iconst 1, 1), (111, .iadd, 1), (112, .imul, 1), (113, .istore 4, 2), (115, .iload 6, 2), (117, .sipush 128, 3), (120, .if_icmp .ge 6, 3), (123, .goto 9, 3), (126, .iinc 5 1, 3), (129, .goto (-121), 3), (132, .iconst 0, 1), (133, .bipush 64, 2), (135, .iload 4, 2), (137, .isub, 1), (138, .invokestatic 44, 3), (141, .istore 5, 2), (143, .lload_n 2, 1), (144, .iload 5, 2), (146, .lshl, 1), (147, .iload 5, 2), (149, .lshr, 1), (150, .lreturn, 1)]
theorem D_Reader_signed : ∀ q ∈ T_Reader_signed, decode b_Reader_signed q.1 = .ok (q.2.1, q.2.2) := by decide +kernel
def w_Reader_signed_L132 (Qr : Int64 → xb_H → Prop) (Qt : String → xb_H → Prop) (x2 : Int64) (x4 : Int32) (h : xb_H) (bc : Nat) (bs : Nat) : Prop :=
    ∀ v1 : Int32, v1 = (if 0 < (64 - x4) then (64 - x4) else 0) → Qr (xb_lshr (xb_lshl x2 v1) v1) h

def w_Reader_signed_L81 (K8 : Nat → Int32 → Int64 → Int32 → Int32 → xb_H → Nat → Nat → Prop) (Qr : Int64 → xb_H → Prop) (Qt : String → xb_H → Prop) (x0 : Nat) (x1 : Int32) (x2 : Int64) (x5 : Int32) (x6 : Int32) (h : xb_H) (bc : Nat) (bs : Nat) : Prop :=
    xb_k h x0 = 4 ∧ ∀ h2 : xb_H, h2 = xb_I h x0 3 ((xb_i h x0 3) + 1) → ∀ v3 : Int64, v3 = (x2 ||| (xb_lshl (Int32.toInt64 (x6 &&& 127)) (7 * x5))) → ∀ v4 : Int32, v4 = (7 * (x5 + 1)) → (((128 : Int32) ≤ x6 → K8 x0 x1 v3 v4 (x5 + 1) h2 bc bs) ∧ (¬ (128 : Int32) ≤ x6 → w_Reader_signed_L132 Qr Qt v3 v4 h2 bc bs))

def w_Reader_signed_L37 (K8 : Nat → Int32 → Int64 → Int32 → Int32 → xb_H → Nat → Nat → Prop) (Qr : Int64 → xb_H → Prop) (Qt : String → xb_H → Prop) (x0 : Nat) (x1 : Int32) (x2 : Int64) (x5 : Int32) (h : xb_H) (bc : Nat) (bs : Nat) : Prop :=
    xb_k h x0 = 4 ∧ ∃ b2 : Nat, (xb_r h x0 1) = some b2 ∧ xb_k h b2 = 100 ∧ vp_in (xb_i h x0 3) (xb_n h b2) ∧ ∀ v5 : Int32, v5 = ((xb_i h b2 (Int32.toNatClampNeg (xb_i h x0 3))) &&& 255) → ((¬ x5 = (x1 - 1) → w_Reader_signed_L81 K8 Qr Qt x0 x1 x2 x5 v5 h bc bs) ∧ (x5 = (x1 - 1) → w_Reader_endsSigned v5 x1 h (fun (r8 : Int32) (h7 : xb_H) => xb_ext h h7 → ((¬ r8 = (0 : Int32) → w_Reader_signed_L81 K8 Qr Qt x0 x1 x2 x5 v5 h7 bc bs) ∧ (r8 = (0 : Int32) → ∃ b10 : Nat, (xb_r h7 x0 0) = some b10 ∧ xb_k h7 b10 = 3 ∧ ∃ c14 sc14 : Nat, c14 ≤ bc ∧ sc14 ≤ bs ∧ w_StackModule_fail b10 3 (xb_i h7 x0 3) h7 c14 sc14 (fun (h12 : xb_H) => xb_ext h7 h12 → w_Reader_signed_L81 K8 Qr Qt x0 x1 x2 x5 v5 h12 (bc - c14) (bs - sc14)) Qt)))))

def w_Reader_signed_L8 (Qr : Int64 → xb_H → Prop) (Qt : String → xb_H → Prop) : Nat → Nat → Int32 → Int64 → Int32 → Int32 → xb_H → Nat → Nat → Prop
  | 0, _, _, _, _, _, _, _, _ => False
  | n9 + 1, x0, x1, x2, x4, x5, h, bc, bs =>
    ((x1 ≤ x5 → w_Reader_signed_L132 Qr Qt x2 x4 h bc bs) ∧ (¬ x1 ≤ x5 → xb_k h x0 = 4 ∧ (((xb_i h x0 3) < (xb_i h x0 4) → w_Reader_signed_L37 (w_Reader_signed_L8 Qr Qt n9) Qr Qt x0 x1 x2 x5 h bc bs) ∧ (¬ (xb_i h x0 3) < (xb_i h x0 4) → ∃ b4 : Nat, (xb_r h x0 0) = some b4 ∧ xb_k h b4 = 3 ∧ ∃ c8 sc8 : Nat, c8 ≤ bc ∧ sc8 ≤ bs ∧ w_StackModule_fail b4 2 (xb_i h x0 4) h c8 sc8 (fun (h6 : xb_H) => xb_ext h h6 → w_Reader_signed_L37 (w_Reader_signed_L8 Qr Qt n9) Qr Qt x0 x1 x2 x5 h6 (bc - c8) (bs - sc8)) Qt))))

def w_Reader_signed (x0 : Nat) (x1 : Int32) (h : xb_H) (bc : Nat) (bs : Nat) (Qr : Int64 → xb_H → Prop) (Qt : String → xb_H → Prop) : Prop :=
    (∃ n8 : Nat, w_Reader_signed_L8 Qr Qt n8 x0 x1 0 0 0 h bc bs)

set_option maxHeartbeats 4000000 in
set_option maxRecDepth 100000 in
theorem am_Reader_signed_L132 (l : Launch) (hfl : l.flags = pinnedFlags ++ [noTraceFlag]) (D : va_G) (A : Nat → Prop) (σ MC MS : Nat) (h0 : xb_H) (Qr : Int64 → xb_H → Prop) (Qt : String → xb_H → Prop) (x2 : Int64) (x4 : Int32) (h : xb_H) (bc : Nat) (bs : Nat) (hw : w_Reader_signed_L132 Qr Qt x2 x4 h bc bs) : xb_am l D A σ 3 MC MS h0 (fun v h => ∃ r, v = some (.long r) ∧ Qr r h) Qt y_Reader_signed.cls y_Reader_signed.name b_Reader_signed 7 ([] : List ExceptionTableEntry) (some .long) 132 [(2, .long x2), (4, .int x4)] [] h bc bs := by
  unfold w_Reader_signed_L132 at hw
  intro p e s m args below meth c hC H locs ls k n hE hl hR hS hk hn
  obtain ⟨hx, hb, hown, hlocks, htab, hml, hr, hB, hA, hnm⟩ := id hC
  have hts := hB.1.1.at args
  refine lv_iconst (v := 0) hx hb (xb_d D_Reader_signed 72 rfl) (by decide) ?_
  refine lv_bipush (v := 64) hx hb (xb_d D_Reader_signed 73 rfl) (by decide) ?_
  refine lv_iload hx hb (xb_d D_Reader_signed 74 rfl) (lv_at hl 1 rfl) ?_
  refine lv_isub hx hb (xb_d D_Reader_signed 75 rfl) ?_
  refine va_mmax hx hb (hml.trans hl.1.symm) hown (hts _ m_1b4cc923) (hts _ m_80a2ec50) (hts _ m_868a9286) (hts _ m_b6349a14) (by show 1 ≤ 8 + _; omega) (Nat.le_trans (Nat.le_of_ble_eq_true rfl : _ ≤ 60) (by show 60 ≤ 120 + _; omega)) (show k ≤ MC by omega) (show n ≤ MS by omega) (xb_d D_Reader_signed 76 rfl) ?_
  obtain ⟨v1, ev1⟩ : ∃ x : Int32, x = (if 0 < (64 - x4) then (64 - x4) else 0) := ⟨_, rfl⟩
  have hw := hw v1 ev1
  refine xt_numi (y := v1) ev1.symm ?_
  refine lv_istore hx hb (xb_d D_Reader_signed 77 rfl) hl (by decide) rfl (fun ls hl => ?_)
  have hl : lv_has ls 7 [(5, .int v1), (2, .long x2), (4, .int x4)] := hl
  refine lv_lload_n hx hb (xb_d D_Reader_signed 78 rfl) rfl (lv_at hl 1 rfl) ?_
  refine lv_iload hx hb (xb_d D_Reader_signed 79 rfl) (lv_at hl 0 rfl) ?_
  refine lv_lshl (v := (xb_lshl x2 v1)) hx hb (xb_d D_Reader_signed 80 rfl) rfl ?_
  refine lv_iload hx hb (xb_d D_Reader_signed 81 rfl) (lv_at hl 0 rfl) ?_
  refine lv_lshr (v := (xb_lshr (xb_lshl x2 v1) v1)) hx hb (xb_d D_Reader_signed 82 rfl) rfl ?_
  exact xb_lret hx hb hr hlocks (show k ≤ MC by omega) (show n ≤ MS by omega) hE hR hS (xb_d D_Reader_signed 83 rfl) hw

set_option maxHeartbeats 4000000 in
set_option maxRecDepth 100000 in
theorem am_Reader_signed_L81 (l : Launch) (hfl : l.flags = pinnedFlags ++ [noTraceFlag]) (D : va_G) (A : Nat → Prop) (σ MC MS : Nat) (h0 : xb_H) (Qr : Int64 → xb_H → Prop) (Qt : String → xb_H → Prop) (K8 : Nat → Int32 → Int64 → Int32 → Int32 → xb_H → Nat → Nat → Prop) (hK8 : ∀ (x0 : Nat) (x1 : Int32) (x2 : Int64) (x4 : Int32) (x5 : Int32) (h : xb_H) (bc : Nat) (bs : Nat), K8 x0 x1 x2 x4 x5 h bc bs → xb_am l D A σ 3 MC MS h0 (fun v h => ∃ r, v = some (.long r) ∧ Qr r h) Qt y_Reader_signed.cls y_Reader_signed.name b_Reader_signed 7 ([] : List ExceptionTableEntry) (some .long) 8 [(0, .ref x0), (1, .int x1), (2, .long x2), (4, .int x4), (5, .int x5)] [] h bc bs) (x0 : Nat) (x1 : Int32) (x2 : Int64) (x5 : Int32) (x6 : Int32) (h : xb_H) (bc : Nat) (bs : Nat) (hw : w_Reader_signed_L81 K8 Qr Qt x0 x1 x2 x5 x6 h bc bs) : xb_am l D A σ 3 MC MS h0 (fun v h => ∃ r, v = some (.long r) ∧ Qr r h) Qt y_Reader_signed.cls y_Reader_signed.name b_Reader_signed 7 ([] : List ExceptionTableEntry) (some .long) 81 [(0, .ref x0), (1, .int x1), (2, .long x2), (5, .int x5), (6, .int x6)] [] h bc bs := by
  unfold w_Reader_signed_L81 at hw
  intro p e s m args below meth c hC H locs ls k n hE hl hR hS hk hn
  obtain ⟨hx, hb, hown, hlocks, htab, hml, hr, hB, hA, hnm⟩ := id hC
  have hts := hB.1.1.at args
  refine lv_aload_n hx hb (xb_d D_Reader_signed 43 rfl) rfl (lv_at hl 0 rfl) ?_
  refine lv_dup hx hb (xb_d D_Reader_signed 44 rfl) rfl ?_
  obtain ⟨hk1, hw⟩ := hw
  refine xb_getI (C := R_Reader) (T := F_Reader) (N := 6) hx hb 3 3 hts fin_Reader hown hR hk1 (by decide) rfl (by decide) rfl (hts _ m_a9b84ac2) (fun _ h9 => h9) (xb_d D_Reader_signed 45 rfl) ?_
  refine lv_iconst (v := 1) hx hb (xb_d D_Reader_signed 46 rfl) (by decide) ?_
  refine lv_iadd hx hb (xb_d D_Reader_signed 47 rfl) ?_
  refine xb_putI (C := R_Reader) (T := F_Reader) (N := 6) (ty := .int) (x := ((xb_i h x0 3) + 1)) hx hb 3 3 hts fin_Reader t_Reader t_Reader_ok n_Reader hown hR hS hk1 (by decide) rfl (by decide) rfl (hts _ m_a9b84ac2) (fun _ h9 => h9) rfl (by decide +kernel) rfl rfl (xb_d D_Reader_signed 48 rfl) (fun H locs hR hS => ?_)
  obtain ⟨h2, eh2⟩ : ∃ x : xb_H, x = xb_I h x0 3 ((xb_i h x0 3) + 1) := ⟨_, rfl⟩
  rw [← eh2] at hR
  have hw := hw h2 eh2
  have hE : xb_ext h0 h2 := by rw [eh2]; exact hE
  refine lv_lload_n hx hb (xb_d D_Reader_signed 49 rfl) rfl (lv_at hl 2 rfl) ?_
  refine lv_iload hx hb (xb_d D_Reader_signed 50 rfl) (lv_at hl 4 rfl) ?_
  refine lv_bipush (v := 127) hx hb (xb_d D_Reader_signed 51 rfl) (by decide) ?_
  refine lv_iand hx hb (xb_d D_Reader_signed 52 rfl) ?_
  refine lv_i2l hx hb (xb_d D_Reader_signed 53 rfl) rfl ?_
  refine lv_bipush (v := 7) hx hb (xb_d D_Reader_signed 54 rfl) (by decide) ?_
  refine lv_iload hx hb (xb_d D_Reader_signed 55 rfl) (lv_at hl 3 rfl) ?_
  refine lv_imul hx hb (xb_d D_Reader_signed 56 rfl) ?_
  refine lv_lshl (v := (xb_lshl (Int32.toInt64 (x6 &&& 127)) (7 * x5))) hx hb (xb_d D_Reader_signed 57 rfl) rfl ?_
  refine lv_lor hx hb (xb_d D_Reader_signed 58 rfl) ?_
  obtain ⟨v3, ev3⟩ : ∃ x : Int64, x = (x2 ||| (xb_lshl (Int32.toInt64 (x6 &&& 127)) (7 * x5))) := ⟨_, rfl⟩
  have hw := hw v3 ev3
  refine xt_numl (y := v3) ev3.symm ?_
  refine lv_lstore_n hx hb (xb_d D_Reader_signed 59 rfl) rfl hl (by decide) rfl (fun ls hl => ?_)
  have hl : lv_has ls 7 [(2, .long v3), (0, .ref x0), (1, .int x1), (5, .int x5), (6, .int x6)] := hl
  refine lv_bipush (v := 7) hx hb (xb_d D_Reader_signed 60 rfl) (by decide) ?_
  refine lv_iload hx hb (xb_d D_Reader_signed 61 rfl) (lv_at hl 3 rfl) ?_
  refine lv_iconst (v := 1) hx hb (xb_d D_Reader_signed 62 rfl) (by decide) ?_
  refine lv_iadd hx hb (xb_d D_Reader_signed 63 rfl) ?_
  refine lv_imul hx hb (xb_d D_Reader_signed 64 rfl) ?_
  obtain ⟨v4, ev4⟩ : ∃ x : Int32, x = (7 * (x5 + 1)) := ⟨_, rfl⟩
  have hw := hw v4 ev4
  refine xt_numi (y := v4) ev4.symm ?_
  refine lv_istore hx hb (xb_d D_Reader_signed 65 rfl) hl (by decide) rfl (fun ls hl => ?_)
  have hl : lv_has ls 7 [(4, .int v4), (2, .long v3), (0, .ref x0), (1, .int x1), (5, .int x5), (6, .int x6)] := hl
  refine lv_iload hx hb (xb_d D_Reader_signed 66 rfl) (lv_at hl 5 rfl) ?_
  refine lv_sipush (v := 128) hx hb (xb_d D_Reader_signed 67 rfl) (by decide) ?_
  refine lv_icmp_ge (tgt := 126) hx hb (xb_d D_Reader_signed 68 rfl) rfl (fun hc5 => ?_) (fun hc5 => ?_)
  · have hw := hw.1 hc5
    refine lv_iinc (v := (x5 + 1)) (k := 4) hx hb (xb_d D_Reader_signed 70 rfl) hl rfl (by first | rfl | decide) (by decide) rfl (fun ls hl => ?_)
    have hl : lv_has ls 7 [(5, .int (x5 + 1)), (4, .int v4), (2, .long v3), (0, .ref x0), (1, .int x1), (6, .int x6)] := hl
    refine lv_goto (tgt := 8) hx hb (xb_d D_Reader_signed 71 rfl) rfl ?_
    exact hK8 x0 x1 v3 v4 (x5 + 1) h2 bc bs hw p e s m args below meth c hC H locs ls k n hE (lv_sub hl [3, 4, 2, 1, 0] rfl) hR hS (by omega) (by omega)
  · have hw := hw.2 hc5
    refine lv_goto (tgt := 132) hx hb (xb_d D_Reader_signed 69 rfl) rfl ?_
    exact am_Reader_signed_L132 l hfl D A σ MC MS h0 Qr Qt v3 v4 h2 bc bs hw p e s m args below meth c hC H locs ls k n hE (lv_sub hl [1, 0] rfl) hR hS (by omega) (by omega)

set_option maxHeartbeats 4000000 in
set_option maxRecDepth 100000 in
theorem am_Reader_signed_L37 (l : Launch) (hfl : l.flags = pinnedFlags ++ [noTraceFlag]) (D : va_G) (A : Nat → Prop) (σ MC MS : Nat) (h0 : xb_H) (Qr : Int64 → xb_H → Prop) (Qt : String → xb_H → Prop) (K8 : Nat → Int32 → Int64 → Int32 → Int32 → xb_H → Nat → Nat → Prop) (hK8 : ∀ (x0 : Nat) (x1 : Int32) (x2 : Int64) (x4 : Int32) (x5 : Int32) (h : xb_H) (bc : Nat) (bs : Nat), K8 x0 x1 x2 x4 x5 h bc bs → xb_am l D A σ 3 MC MS h0 (fun v h => ∃ r, v = some (.long r) ∧ Qr r h) Qt y_Reader_signed.cls y_Reader_signed.name b_Reader_signed 7 ([] : List ExceptionTableEntry) (some .long) 8 [(0, .ref x0), (1, .int x1), (2, .long x2), (4, .int x4), (5, .int x5)] [] h bc bs) (x0 : Nat) (x1 : Int32) (x2 : Int64) (x5 : Int32) (h : xb_H) (bc : Nat) (bs : Nat) (hw : w_Reader_signed_L37 K8 Qr Qt x0 x1 x2 x5 h bc bs) : xb_am l D A σ 3 MC MS h0 (fun v h => ∃ r, v = some (.long r) ∧ Qr r h) Qt y_Reader_signed.cls y_Reader_signed.name b_Reader_signed 7 ([] : List ExceptionTableEntry) (some .long) 37 [(0, .ref x0), (1, .int x1), (2, .long x2), (5, .int x5)] [] h bc bs := by
  unfold w_Reader_signed_L37 at hw
  intro p e s m args below meth c hC H locs ls k n hE hl hR hS hk hn
  obtain ⟨hx, hb, hown, hlocks, htab, hml, hr, hB, hA, hnm⟩ := id hC
  have hts := hB.1.1.at args
  refine lv_aload_n hx hb (xb_d D_Reader_signed 20 rfl) rfl (lv_at hl 0 rfl) ?_
  obtain ⟨hk1, hw⟩ := hw
  refine xb_getP (C := R_Reader) (T := F_Reader) (N := 6) hx hb 3 1 hts fin_Reader hown hR hk1 (by decide) rfl (by decide) rfl (hts _ m_d1ba4be8) (fun _ h9 => h9) (xb_d D_Reader_signed 21 rfl) ?_
  obtain ⟨b2, eb2, hw⟩ := hw
  refine xb_some eb2 ?_
  refine lv_aload_n hx hb (xb_d D_Reader_signed 22 rfl) rfl (lv_at hl 0 rfl) ?_
  refine xb_getI (C := R_Reader) (T := F_Reader) (N := 6) hx hb 3 3 hts fin_Reader hown hR hk1 (by decide) rfl (by decide) rfl (hts _ m_a9b84ac2) (fun _ h9 => h9) (xb_d D_Reader_signed 23 rfl) ?_
  obtain ⟨hk4, hw⟩ := hw
  obtain ⟨hi3, hw⟩ := hw
  refine xb_bald hx hb hR hk4 hi3 (xb_d D_Reader_signed 24 rfl) ?_
  refine lv_sipush (v := 255) hx hb (xb_d D_Reader_signed 25 rfl) (by decide) ?_
  refine lv_iand hx hb (xb_d D_Reader_signed 26 rfl) ?_
  obtain ⟨v5, ev5⟩ : ∃ x : Int32, x = ((xb_i h b2 (Int32.toNatClampNeg (xb_i h x0 3))) &&& 255) := ⟨_, rfl⟩
  have hw := hw v5 ev5
  refine xt_numi (y := v5) ev5.symm ?_
  refine lv_istore hx hb (xb_d D_Reader_signed 27 rfl) hl (by decide) rfl (fun ls hl => ?_)
  have hl : lv_has ls 7 [(6, .int v5), (0, .ref x0), (1, .int x1), (2, .long x2), (5, .int x5)] := hl
  refine lv_iload hx hb (xb_d D_Reader_signed 28 rfl) (lv_at hl 4 rfl) ?_
  refine lv_iload_n hx hb (xb_d D_Reader_signed 29 rfl) rfl (lv_at hl 2 rfl) ?_
  refine lv_iconst (v := 1) hx hb (xb_d D_Reader_signed 30 rfl) (by decide) ?_
  refine lv_isub hx hb (xb_d D_Reader_signed 31 rfl) ?_
  refine lv_icmp_ne (tgt := 81) hx hb (xb_d D_Reader_signed 32 rfl) rfl (fun hc6 => ?_) (fun hc6 => ?_)
  · have hw := hw.1 hc6
    exact am_Reader_signed_L81 l hfl D A σ MC MS h0 Qr Qt K8 hK8 x0 x1 x2 x5 v5 h bc bs hw p e s m args below meth c hC H locs ls k n hE (lv_sub hl [1, 2, 3, 4, 0] rfl) hR hS (by omega) (by omega)
  · have hw := hw.2 hc6
    refine lv_iload hx hb (xb_d D_Reader_signed 33 rfl) (lv_at hl 0 rfl) ?_
    refine lv_iload_n hx hb (xb_d D_Reader_signed 34 rfl) rfl (lv_at hl 2 rfl) ?_
    refine xb_call (D := D) (A := A) (σ := σ) (h := h) (d := 2) (mc := 0) (ms := 0) (maxL := 2) (rest := []) (av := [.int v5, .int x1]) (fun T hT X => xt_invS X hx hown (hts _ m_ec6fdc25) (hts _ m_95bd78c4) (hts _ m_938fcec4) (xt_sgS (hts _ m_9c37fa6e)).1 (xt_sgS (hts _ m_9c37fa6e)).2 nm_Reader_endsSigned (g := F0 m 63 ls [.int x1, .int v5]) rfl (argsL := [.int v5, .int x1]) (rest := []) rfl rfl (by rw [hb]; exact (xb_d D_Reader_signed 35 rfl))) (ok_Reader_endsSigned l hfl D A σ v5 x1 h _ hw) (hml.trans hl.1.symm) (by rw [hb]; exact (xb_d D_Reader_signed 35 rfl)) (Nat.le_of_ble_eq_true rfl) (Nat.le_of_ble_eq_true rfl) (Nat.le_of_ble_eq_true rfl) (show k + 0 ≤ MC by omega) (show n + 0 ≤ MS by omega) (xt_w1 hB.1 m_9c37fa6e) (xt_cdOf hB.1 m_9c37fa6e) (hts _ m_938fcec4) hB hR hS hA (fun vv h7 H locs hq hEh7 hR hS => ?_) (fun XX ax h7 H locs hq hEh7 hex hR hS => ?_)
    · obtain ⟨r8, rfl, hw⟩ := hq
      have hw := hw hEh7
      have hE := hE.tr hEh7
      refine W.eq (g2 := F0 m 66 ls [.int r8]) rfl ?_
      refine lv_if_ne (tgt := 81) hx hb (xb_d D_Reader_signed 36 rfl) rfl (fun hc9 => ?_) (fun hc9 => ?_)
      · have hw := hw.1 hc9
        exact am_Reader_signed_L81 l hfl D A σ MC MS h0 Qr Qt K8 hK8 x0 x1 x2 x5 v5 h7 bc bs hw p e s m args below meth c hC H locs ls k n hE (lv_sub hl [1, 2, 3, 4, 0] rfl) hR hS (by omega) (by omega)
      · have hw := hw.2 hc9
        refine lv_aload_n hx hb (xb_d D_Reader_signed 37 rfl) rfl (lv_at hl 1 rfl) ?_
        have hk1 : xb_k h7 x0 = 4 := hEh7.k hk1
        refine xb_getP (C := R_Reader) (T := F_Reader) (N := 6) hx hb 3 0 hts fin_Reader hown hR hk1 (by decide) rfl (by decide) rfl (hts _ m_76d8349c) (fun _ h9 => h9) (xb_d D_Reader_signed 38 rfl) ?_
        obtain ⟨b10, eb10, hw⟩ := hw
        refine xb_some eb10 ?_
        refine lv_iconst (v := 3) hx hb (xb_d D_Reader_signed 39 rfl) (by decide) ?_
        refine lv_aload_n hx hb (xb_d D_Reader_signed 40 rfl) rfl (lv_at hl 1 rfl) ?_
        refine xb_getI (C := R_Reader) (T := F_Reader) (N := 6) hx hb 3 3 hts fin_Reader hown hR hk1 (by decide) rfl (by decide) rfl (hts _ m_a9b84ac2) (fun _ h9 => h9) (xb_d D_Reader_signed 41 rfl) ?_
        obtain ⟨hk11, hw⟩ := hw
        obtain ⟨c14, sc14, hlc14, hlsc14, hw⟩ := hw
        refine xb_call (D := D) (A := A) (σ := σ) (h := h7) (d := 2) (mc := c14) (ms := sc14) (maxL := 3) (rest := []) (av := [.ref b10, .int 3, .int (xb_i h7 x0 3)]) (fun T hT X => by obtain ⟨cb, r1, r2, r3⟩ := xb_recv (ci := 2) hR rfl hk11 (by decide); exact xt_invV X hx hown (hts _ m_6fcde429) (hts _ m_865d5b07) (hts _ m_113f8f75) (xt_sigOf (hts _ m_73e65e5f)) nm_StackModule_fail (by rw [hT]; exact r1) r2 r3 (g := F0 m 78 ls [.int (xb_i h7 x0 3), .int 3, .ref b10]) rfl (argsL := [.int 3, .int (xb_i h7 x0 3)]) (rest := []) rfl rfl (by rw [hb]; exact (xb_d D_Reader_signed 42 rfl))) (ok_StackModule_fail l hfl D A σ b10 3 (xb_i h7 x0 3) h7 c14 sc14 _ _ hw) (hml.trans hl.1.symm) (by rw [hb]; exact (xb_d D_Reader_signed 42 rfl)) (Nat.le_of_ble_eq_true rfl) (Nat.le_of_ble_eq_true rfl) (Nat.le_of_ble_eq_true rfl) (show k + c14 ≤ MC by omega) (show n + sc14 ≤ MS by omega) (xt_w1 hB.1 m_73e65e5f) (xt_cdOf hB.1 m_73e65e5f) (hts _ m_9c375545) hB hR hS hA (fun vv h12 H locs hq hEh12 hR hS => ?_) (fun XX ax h12 H locs hq hEh12 hex hR hS => ?_)
        · obtain ⟨rfl, hw⟩ := hq
          have hw := hw hEh12
          have hE := hE.tr hEh12
          refine W.eq (g2 := F0 m 81 ls []) rfl ?_
          exact am_Reader_signed_L81 l hfl D A σ MC MS h0 Qr Qt K8 hK8 x0 x1 x2 x5 v5 h12 (bc - c14) (bs - sc14) hw p e s m args below meth c hC H locs ls (k + c14) (n + sc14) hE (lv_sub hl [1, 2, 3, 4, 0] rfl) hR hS (by omega) (by omega)
        · exact xb_pass hlocks (fun x hx9 => by rw [htab] at hx9; first | cases hx9 | (simp [tableOf] at hx9; rcases hx9 with rfl | rfl | rfl <;> decide)) (show (k + c14) ≤ MC by omega) (show (n + sc14) ≤ MS by omega) (hE.tr hEh12) hR hS hex hq
    · exact False.elim hq

set_option maxHeartbeats 4000000 in
set_option maxRecDepth 100000 in
theorem am_Reader_signed_L8 (l : Launch) (hfl : l.flags = pinnedFlags ++ [noTraceFlag]) (D : va_G) (A : Nat → Prop) (σ MC MS : Nat) (h0 : xb_H) (Qr : Int64 → xb_H → Prop) (Qt : String → xb_H → Prop) (n9 : Nat) : ∀ (x0 : Nat) (x1 : Int32) (x2 : Int64) (x4 : Int32) (x5 : Int32) (h : xb_H) (bc : Nat) (bs : Nat), w_Reader_signed_L8 Qr Qt n9 x0 x1 x2 x4 x5 h bc bs → xb_am l D A σ 3 MC MS h0 (fun v h => ∃ r, v = some (.long r) ∧ Qr r h) Qt y_Reader_signed.cls y_Reader_signed.name b_Reader_signed 7 ([] : List ExceptionTableEntry) (some .long) 8 [(0, .ref x0), (1, .int x1), (2, .long x2), (4, .int x4), (5, .int x5)] [] h bc bs := by
  induction n9 with
  | zero => intro x0 x1 x2 x4 x5 h bc bs hw; exact False.elim hw
  | succ n9 ih =>
    intro x0 x1 x2 x4 x5 h bc bs hw
    unfold w_Reader_signed_L8 at hw
    intro p e s m args below meth c hC H locs ls k n hE hl hR hS hk hn
    obtain ⟨hx, hb, hown, hlocks, htab, hml, hr, hB, hA, hnm⟩ := id hC
    have hts := hB.1.1.at args
    refine lv_iload hx hb (xb_d D_Reader_signed 6 rfl) (lv_at hl 4 rfl) ?_
    refine lv_iload_n hx hb (xb_d D_Reader_signed 7 rfl) rfl (lv_at hl 1 rfl) ?_
    refine lv_icmp_ge (tgt := 132) hx hb (xb_d D_Reader_signed 8 rfl) rfl (fun hc1 => ?_) (fun hc1 => ?_)
    · have hw := hw.1 hc1
      exact am_Reader_signed_L132 l hfl D A σ MC MS h0 Qr Qt x2 x4 h bc bs hw p e s m args below meth c hC H locs ls k n hE (lv_sub hl [2, 3] rfl) hR hS (by omega) (by omega)
    · have hw := hw.2 hc1
      refine lv_aload_n hx hb (xb_d D_Reader_signed 9 rfl) rfl (lv_at hl 0 rfl) ?_
      obtain ⟨hk2, hw⟩ := hw
      refine xb_getI (C := R_Reader) (T := F_Reader) (N := 6) hx hb 3 3 hts fin_Reader hown hR hk2 (by decide) rfl (by decide) rfl (hts _ m_a9b84ac2) (fun _ h9 => h9) (xb_d D_Reader_signed 10 rfl) ?_
      refine lv_aload_n hx hb (xb_d D_Reader_signed 11 rfl) rfl (lv_at hl 0 rfl) ?_
      refine xb_getI (C := R_Reader) (T := F_Reader) (N := 6) hx hb 3 4 hts fin_Reader hown hR hk2 (by decide) rfl (by decide) rfl (hts _ m_49916c4b) (fun _ h9 => h9) (xb_d D_Reader_signed 12 rfl) ?_
      refine lv_icmp_lt (tgt := 37) hx hb (xb_d D_Reader_signed 13 rfl) rfl (fun hc3 => ?_) (fun hc3 => ?_)
      · have hw := hw.1 hc3
        exact am_Reader_signed_L37 l hfl D A σ MC MS h0 Qr Qt (w_Reader_signed_L8 Qr Qt n9) ih x0 x1 x2 x5 h bc bs hw p e s m args below meth c hC H locs ls k n hE (lv_sub hl [0, 1, 2, 4] rfl) hR hS (by omega) (by omega)
      · have hw := hw.2 hc3
        refine lv_aload_n hx hb (xb_d D_Reader_signed 14 rfl) rfl (lv_at hl 0 rfl) ?_
        refine xb_getP (C := R_Reader) (T := F_Reader) (N := 6) hx hb 3 0 hts fin_Reader hown hR hk2 (by decide) rfl (by decide) rfl (hts _ m_76d8349c) (fun _ h9 => h9) (xb_d D_Reader_signed 15 rfl) ?_
        obtain ⟨b4, eb4, hw⟩ := hw
        refine xb_some eb4 ?_
        refine lv_iconst (v := 2) hx hb (xb_d D_Reader_signed 16 rfl) (by decide) ?_
        refine lv_aload_n hx hb (xb_d D_Reader_signed 17 rfl) rfl (lv_at hl 0 rfl) ?_
        refine xb_getI (C := R_Reader) (T := F_Reader) (N := 6) hx hb 3 4 hts fin_Reader hown hR hk2 (by decide) rfl (by decide) rfl (hts _ m_49916c4b) (fun _ h9 => h9) (xb_d D_Reader_signed 18 rfl) ?_
        obtain ⟨hk5, hw⟩ := hw
        obtain ⟨c8, sc8, hlc8, hlsc8, hw⟩ := hw
        refine xb_call (D := D) (A := A) (σ := σ) (h := h) (d := 2) (mc := c8) (ms := sc8) (maxL := 3) (rest := []) (av := [.ref b4, .int 2, .int (xb_i h x0 4)]) (fun T hT X => by obtain ⟨cb, r1, r2, r3⟩ := xb_recv (ci := 2) hR rfl hk5 (by decide); exact xt_invV X hx hown (hts _ m_6fcde429) (hts _ m_865d5b07) (hts _ m_113f8f75) (xt_sigOf (hts _ m_73e65e5f)) nm_StackModule_fail (by rw [hT]; exact r1) r2 r3 (g := F0 m 34 ls [.int (xb_i h x0 4), .int 2, .ref b4]) rfl (argsL := [.int 2, .int (xb_i h x0 4)]) (rest := []) rfl rfl (by rw [hb]; exact (xb_d D_Reader_signed 19 rfl))) (ok_StackModule_fail l hfl D A σ b4 2 (xb_i h x0 4) h c8 sc8 _ _ hw) (hml.trans hl.1.symm) (by rw [hb]; exact (xb_d D_Reader_signed 19 rfl)) (Nat.le_of_ble_eq_true rfl) (Nat.le_of_ble_eq_true rfl) (Nat.le_of_ble_eq_true rfl) (show k + c8 ≤ MC by omega) (show n + sc8 ≤ MS by omega) (xt_w1 hB.1 m_73e65e5f) (xt_cdOf hB.1 m_73e65e5f) (hts _ m_9c375545) hB hR hS hA (fun vv h6 H locs hq hEh6 hR hS => ?_) (fun XX ax h6 H locs hq hEh6 hex hR hS => ?_)
        · obtain ⟨rfl, hw⟩ := hq
          have hw := hw hEh6
          have hE := hE.tr hEh6
          refine W.eq (g2 := F0 m 37 ls []) rfl ?_
          exact am_Reader_signed_L37 l hfl D A σ MC MS h0 Qr Qt (w_Reader_signed_L8 Qr Qt n9) ih x0 x1 x2 x5 h6 (bc - c8) (bs - sc8) hw p e s m args below meth c hC H locs ls (k + c8) (n + sc8) hE (lv_sub hl [0, 1, 2, 4] rfl) hR hS (by omega) (by omega)
        · exact xb_pass hlocks (fun x hx9 => by rw [htab] at hx9; first | cases hx9 | (simp [tableOf] at hx9; rcases hx9 with rfl | rfl | rfl <;> decide)) (show (k + c8) ≤ MC by omega) (show (n + sc8) ≤ MS by omega) (hE.tr hEh6) hR hS hex hq

set_option maxHeartbeats 4000000 in
set_option maxRecDepth 100000 in
theorem ok_Reader_signed (l : Launch) (hfl : l.flags = pinnedFlags ++ [noTraceFlag]) (D : va_G) (A : Nat → Prop) (σ : Nat) (x0 : Nat) (x1 : Int32) (h : xb_H) (bc : Nat) (bs : Nat) (Qr : Int64 → xb_H → Prop) (Qt : String → xb_H → Prop) (hw : w_Reader_signed x0 x1 h bc bs Qr Qt) : xt_Met l y_Reader_signed [.code y_Reader_signed b_Reader_signed 7 (some .long)] (xb_rm 3 bc bs) (xb_Pc D A σ h [.ref x0, .int x1]) (xb_Qc D A h (fun v h => ∃ r, v = some (.long r) ∧ Qr r h) Qt) bc bs A := by
  refine xb_ofAm (cc := b_Reader_signed) (by decide) (Nat.le_of_ble_eq_true rfl) ?_
  unfold w_Reader_signed at hw
  show xb_am l D A σ 3 bc bs h (fun v h => ∃ r, v = some (.long r) ∧ Qr r h) Qt y_Reader_signed.cls y_Reader_signed.name b_Reader_signed 7 ([] : List ExceptionTableEntry) (some .long) 0 [(0, .ref x0), (1, .int x1)] [] h bc bs
  obtain ⟨MC, hMC⟩ : ∃ x, x = bc := ⟨_, rfl⟩
  obtain ⟨MS, hMS⟩ : ∃ x, x = bs := ⟨_, rfl⟩
  rw [show xb_am l D A σ 3 bc bs = xb_am l D A σ 3 MC MS by rw [hMC, hMS]]
  obtain ⟨h0, hh0⟩ : ∃ x, x = h := ⟨_, rfl⟩
  rw [show xb_am l D A σ 3 MC MS h = xb_am l D A σ 3 MC MS h0 by rw [hh0]]
  intro p e s m args below meth c hC H locs ls k n hE hl hR hS hk hn
  obtain ⟨hx, hb, hown, hlocks, htab, hml, hr, hB, hA, hnm⟩ := id hC
  have hts := hB.1.1.at args
  refine lv_lconst (v := 0) hx hb (xb_d D_Reader_signed 0 rfl) (by decide) ?_
  refine lv_lstore_n hx hb (xb_d D_Reader_signed 1 rfl) rfl hl (by decide) rfl (fun ls hl => ?_)
  have hl : lv_has ls 7 [(2, .long 0), (0, .ref x0), (1, .int x1)] := hl
  refine lv_iconst (v := 0) hx hb (xb_d D_Reader_signed 2 rfl) (by decide) ?_
  refine lv_istore hx hb (xb_d D_Reader_signed 3 rfl) hl (by decide) rfl (fun ls hl => ?_)
  have hl : lv_has ls 7 [(4, .int 0), (2, .long 0), (0, .ref x0), (1, .int x1)] := hl
  refine lv_iconst (v := 0) hx hb (xb_d D_Reader_signed 4 rfl) (by decide) ?_
  refine lv_istore hx hb (xb_d D_Reader_signed 5 rfl) hl (by decide) rfl (fun ls hl => ?_)
  have hl : lv_has ls 7 [(5, .int 0), (4, .int 0), (2, .long 0), (0, .ref x0), (1, .int x1)] := hl
  obtain ⟨n8, hw⟩ := hw
  exact am_Reader_signed_L8 l hfl D A σ MC MS h0 Qr Qt n8 x0 x1 0 0 0 h bc bs hw p e s m args below meth c hC H locs ls k n hE (lv_sub hl [3, 4, 2, 1, 0] rfl) hR hS (by omega) (by omega)

theorem m_671d72d9 : (.methodLink "StackHost$Row" 17 Lib.Math.max.name : Cond) ∈ xt_tbl := xt_in (xt_t3 (List.mem_of_getElem? (i := 232) (by decide +kernel))) (by decide +kernel)
theorem m_1ef749e8 : (.methodLink "StackHost$Row" 23 y_Arrays_copyOf1 : Cond) ∈ xt_tbl := xt_in (xt_t3 (List.mem_of_getElem? (i := 233) (by decide +kernel))) (by decide +kernel)
set_option maxRecDepth 100000 in
def T_Row_makeRoom : List (Nat × Instr × Nat) := [(0, .iload_n 1, 1), (1, .aload_n 0, 1), (2, .getfield 13, 3), (5, .arraylength, 1), (6, .if_icmp .le 25, 3), (9, .aload_n 0, 1), (10, .aload_n 0, 1), (11, .getfield 13, 3), (14, .iload_n 1, 1), (15, .iconst 2, 1), (16, .aload_n 0, 1), (17, .getfield 13, 3), (20, .arraylength, 1), (21, .imul, 1), (22, .invokestatic 17, 3), (25, .invokestatic 23, 3), (28, .putfield 13, 3), (31, .return_, 1)]
theorem D_Row_makeRoom : ∀ q ∈ T_Row_makeRoom, decode b_Row_makeRoom q.1 = .ok (q.2.1, q.2.2) := by decide +kernel
def w_Row_makeRoom_L31 (Qr : xb_H → Prop) (h : xb_H) (bc : Nat) (bs : Nat) : Prop :=
    Qr h

def w_Row_makeRoom (x0 : Nat) (x1 : Int32) (h : xb_H) (bc : Nat) (bs : Nat) (Qr : xb_H → Prop) : Prop :=
    xb_k h x0 = 2 ∧ ∃ b2 : Nat, (xb_r h x0 0) = some b2 ∧ xb_k h b2 = 103 ∧ ((x1 ≤ (nI (xb_n h b2)) → w_Row_makeRoom_L31 Qr h bc bs) ∧ (¬ x1 ≤ (nI (xb_n h b2)) → ∃ b5 : Nat, (xb_r h x0 0) = some b5 ∧ ∃ b6 : Nat, (xb_r h x0 0) = some b6 ∧ xb_k h b6 = 103 ∧ ∃ c10 sc10 : Nat, c10 ≤ bc ∧ sc10 ≤ bs ∧ w_Arrays_copyOf1 b5 (if x1 < (2 * (nI (xb_n h b6))) then (2 * (nI (xb_n h b6))) else x1) h c10 sc10 (fun (r9 : Nat) (h8 : xb_H) => xb_ext h h8 → ∀ h11 : xb_H, h11 = xb_P h8 x0 0 (some r9) → w_Row_makeRoom_L31 Qr h11 (bc - c10) (bs - sc10))))

set_option maxHeartbeats 4000000 in
set_option maxRecDepth 100000 in
theorem am_Row_makeRoom_L31 (l : Launch) (hfl : l.flags = pinnedFlags ++ [noTraceFlag]) (D : va_G) (A : Nat → Prop) (σ MC MS : Nat) (h0 : xb_H) (Qr : xb_H → Prop) (h : xb_H) (bc : Nat) (bs : Nat) (hw : w_Row_makeRoom_L31 Qr h bc bs) : xb_am l D A σ 3 MC MS h0 (fun v h => v = none ∧ Qr h) (fun _ _ => False) y_Row_makeRoom.cls y_Row_makeRoom.name b_Row_makeRoom 2 ([] : List ExceptionTableEntry) none 31 [] [] h bc bs := by
  unfold w_Row_makeRoom_L31 at hw
  intro p e s m args below meth c hC H locs ls k n hE hl hR hS hk hn
  obtain ⟨hx, hb, hown, hlocks, htab, hml, hr, hB, hA, hnm⟩ := id hC
  have hts := hB.1.1.at args
  exact xb_vret hx hb hr hlocks (show k ≤ MC by omega) (show n ≤ MS by omega) hE hR hS (xb_d D_Row_makeRoom 17 rfl) hw

set_option maxHeartbeats 4000000 in
set_option maxRecDepth 100000 in
theorem ok_Row_makeRoom (l : Launch) (hfl : l.flags = pinnedFlags ++ [noTraceFlag]) (D : va_G) (A : Nat → Prop) (σ : Nat) (x0 : Nat) (x1 : Int32) (h : xb_H) (bc : Nat) (bs : Nat) (Qr : xb_H → Prop) (hw : w_Row_makeRoom x0 x1 h bc bs Qr) : xt_Met l y_Row_makeRoom [.code y_Row_makeRoom b_Row_makeRoom 2 none] (xb_rm 3 bc bs) (xb_Pc D A σ h [.ref x0, .int x1]) (xb_Qc D A h (fun v h => v = none ∧ Qr h) (fun _ _ => False)) bc bs A := by
  refine xb_ofAm (cc := b_Row_makeRoom) (by decide) (Nat.le_of_ble_eq_true rfl) ?_
  unfold w_Row_makeRoom at hw
  show xb_am l D A σ 3 bc bs h (fun v h => v = none ∧ Qr h) (fun _ _ => False) y_Row_makeRoom.cls y_Row_makeRoom.name b_Row_makeRoom 2 ([] : List ExceptionTableEntry) none 0 [(0, .ref x0), (1, .int x1)] [] h bc bs
  obtain ⟨MC, hMC⟩ : ∃ x, x = bc := ⟨_, rfl⟩
  obtain ⟨MS, hMS⟩ : ∃ x, x = bs := ⟨_, rfl⟩
  rw [show xb_am l D A σ 3 bc bs = xb_am l D A σ 3 MC MS by rw [hMC, hMS]]
  obtain ⟨h0, hh0⟩ : ∃ x, x = h := ⟨_, rfl⟩
  rw [show xb_am l D A σ 3 MC MS h = xb_am l D A σ 3 MC MS h0 by rw [hh0]]
  intro p e s m args below meth c hC H locs ls k n hE hl hR hS hk hn
  obtain ⟨hx, hb, hown, hlocks, htab, hml, hr, hB, hA, hnm⟩ := id hC
  have hts := hB.1.1.at args
  refine lv_iload_n hx hb (xb_d D_Row_makeRoom 0 rfl) rfl (lv_at hl 1 rfl) ?_
  refine lv_aload_n hx hb (xb_d D_Row_makeRoom 1 rfl) rfl (lv_at hl 0 rfl) ?_
  obtain ⟨hk1, hw⟩ := hw
  refine xb_getP (C := R_Row) (T := F_Row) (N := 3) hx hb 1 0 hts fin_Row hown hR hk1 (by decide) rfl (by decide) rfl (hts _ m_8e18d96c) (fun _ h9 => h9) (xb_d D_Row_makeRoom 2 rfl) ?_
  obtain ⟨b2, eb2, hw⟩ := hw
  refine xb_some eb2 ?_
  obtain ⟨hk3, hw⟩ := hw
  refine xb_alen hx hb hR hk3 (by decide) (xb_d D_Row_makeRoom 3 rfl) ?_
  refine lv_icmp_le (tgt := 31) hx hb (xb_d D_Row_makeRoom 4 rfl) rfl (fun hc4 => ?_) (fun hc4 => ?_)
  · have hw := hw.1 hc4
    exact am_Row_makeRoom_L31 l hfl D A σ MC MS h0 Qr h bc bs hw p e s m args below meth c hC H locs ls k n hE (lv_sub hl [] rfl) hR hS (by omega) (by omega)
  · have hw := hw.2 hc4
    refine lv_aload_n hx hb (xb_d D_Row_makeRoom 5 rfl) rfl (lv_at hl 0 rfl) ?_
    refine lv_aload_n hx hb (xb_d D_Row_makeRoom 6 rfl) rfl (lv_at hl 0 rfl) ?_
    refine xb_getP (C := R_Row) (T := F_Row) (N := 3) hx hb 1 0 hts fin_Row hown hR hk1 (by decide) rfl (by decide) rfl (hts _ m_8e18d96c) (fun _ h9 => h9) (xb_d D_Row_makeRoom 7 rfl) ?_
    obtain ⟨b5, eb5, hw⟩ := hw
    refine xb_some eb5 ?_
    refine lv_iload_n hx hb (xb_d D_Row_makeRoom 8 rfl) rfl (lv_at hl 1 rfl) ?_
    refine lv_iconst (v := 2) hx hb (xb_d D_Row_makeRoom 9 rfl) (by decide) ?_
    refine lv_aload_n hx hb (xb_d D_Row_makeRoom 10 rfl) rfl (lv_at hl 0 rfl) ?_
    refine xb_getP (C := R_Row) (T := F_Row) (N := 3) hx hb 1 0 hts fin_Row hown hR hk1 (by decide) rfl (by decide) rfl (hts _ m_8e18d96c) (fun _ h9 => h9) (xb_d D_Row_makeRoom 11 rfl) ?_
    obtain ⟨b6, eb6, hw⟩ := hw
    refine xb_some eb6 ?_
    obtain ⟨hk7, hw⟩ := hw
    refine xb_alen hx hb hR hk7 (by decide) (xb_d D_Row_makeRoom 12 rfl) ?_
    refine lv_imul hx hb (xb_d D_Row_makeRoom 13 rfl) ?_
    refine va_mmax hx hb (hml.trans hl.1.symm) hown (hts _ m_671d72d9) (hts _ m_80a2ec50) (hts _ m_868a9286) (hts _ m_b6349a14) (by show 1 ≤ 8 + _; omega) (Nat.le_trans (Nat.le_of_ble_eq_true rfl : _ ≤ 60) (by show 60 ≤ 120 + _; omega)) (show k ≤ MC by omega) (show n ≤ MS by omega) (xb_d D_Row_makeRoom 14 rfl) ?_
    obtain ⟨c10, sc10, hlc10, hlsc10, hw⟩ := hw
    refine xb_call (D := D) (A := A) (σ := σ) (h := h) (d := 2) (mc := c10) (ms := sc10) (maxL := 3) (rest := [.ref x0]) (av := [.ref b5, .int (if x1 < (2 * (nI (xb_n h b6))) then (2 * (nI (xb_n h b6))) else x1)]) (fun T hT X => xt_invS X hx hown (hts _ m_1ef749e8) (hts _ m_92cbae34) (hts _ m_b999e92a) (xt_sgS (hts _ m_00ffaf1f)).1 (xt_sgS (hts _ m_00ffaf1f)).2 nm_Arrays_copyOf1 (g := F0 m 25 ls [.int (if x1 < (2 * (nI (xb_n h b6))) then (2 * (nI (xb_n h b6))) else x1), .ref b5, .ref x0]) rfl (argsL := [.ref b5, .int (if x1 < (2 * (nI (xb_n h b6))) then (2 * (nI (xb_n h b6))) else x1)]) (rest := [.ref x0]) rfl rfl (by rw [hb]; exact (xb_d D_Row_makeRoom 15 rfl))) (ok_Arrays_copyOf1 l hfl D A σ b5 (if x1 < (2 * (nI (xb_n h b6))) then (2 * (nI (xb_n h b6))) else x1) h c10 sc10 _ hw) (hml.trans hl.1.symm) (by rw [hb]; exact (xb_d D_Row_makeRoom 15 rfl)) (Nat.le_of_ble_eq_true rfl) (Nat.le_of_ble_eq_true rfl) (Nat.le_of_ble_eq_true rfl) (show k + c10 ≤ MC by omega) (show n + sc10 ≤ MS by omega) (xt_w1 hB.1 m_00ffaf1f) (xt_cdOf hB.1 m_00ffaf1f) (hts _ m_b999e92a) hB hR hS hA (fun vv h8 H locs hq hEh8 hR hS => ?_) (fun XX ax h8 H locs hq hEh8 hex hR hS => ?_)
    · obtain ⟨r9, rfl, hw⟩ := hq
      have hw := hw hEh8
      have hE := hE.tr hEh8
      refine W.eq (g2 := F0 m 28 ls [.ref r9, .ref x0]) rfl ?_
      have hk1 : xb_k h8 x0 = 2 := hEh8.k hk1
      refine xb_putP (C := R_Row) (T := F_Row) (N := 3) (ty := .array .long) (x := (some r9)) hx hb 1 0 hts fin_Row t_Row t_Row_ok n_Row hown hR hS hk1 (by decide) rfl (by decide) rfl (hts _ m_8e18d96c) (fun _ h9 => h9) rfl (by decide +kernel) (xb_pnA _ _).1 (xb_pnA _ _).2 (xb_d D_Row_makeRoom 16 rfl) (fun H locs hR hS => ?_)
      obtain ⟨h11, eh11⟩ : ∃ x : xb_H, x = xb_P h8 x0 0 (some r9) := ⟨_, rfl⟩
      rw [← eh11] at hR
      have hw := hw h11 eh11
      have hE : xb_ext h0 h11 := by rw [eh11]; exact hE
      exact am_Row_makeRoom_L31 l hfl D A σ MC MS h0 Qr h11 (bc - c10) (bs - sc10) hw p e s m args below meth c hC H locs ls (k + c10) (n + sc10) hE (lv_sub hl [] rfl) hR hS (by omega) (by omega)
    · exact False.elim hq

