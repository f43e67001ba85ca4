theorem m_2a8e4982 : (.methodLink "StackHost" 83 y_H_feedNumber : Cond) ∈ xt_tbl := xt_in (xt_t2 (List.mem_of_getElem? (i := 239) (by decide +kernel))) (by decide +kernel)
theorem m_4cd16fab : (.instanceMethod y_H_feedNumber : Cond) ∈ xt_tbl := xt_in (xt_t3 (List.mem_of_getElem? (i := 1) (by decide +kernel))) (by decide +kernel)
theorem m_7a03d19d : (.selects "StackHost" y_H_feedNumber y_H_feedNumber : Cond) ∈ xt_tbl := xt_in (xt_v1 (q := (⟨"StackHost", "feedNumber", "(I)V"⟩, 11)) (List.mem_of_getElem? (i := 1) (by decide +kernel))) (by decide +kernel)
theorem m_053ad4c0 : (.code y_H_feedNumber b_H_feedNumber 3 none : Cond) ∈ xt_tbl := xt_in (xt_t3 (List.mem_of_getElem? (i := 2) (by decide +kernel))) (by decide +kernel)
theorem m_ba0734f5 : (.initialized "StackHost" : Cond) ∈ xt_tbl := xt_in (xt_t1 (List.mem_of_getElem? (i := 1) (by decide +kernel))) (by decide +kernel)
theorem m_4732199b : (.constant "StackHost" 62 65516 : Cond) ∈ xt_tbl := xt_in (xt_t2 (List.mem_of_getElem? (i := 152) (by decide +kernel))) (by decide +kernel)
theorem m_1c5b51e6 : (.constant "StackHost" 70 65536 : Cond) ∈ xt_tbl := xt_in (xt_t2 (List.mem_of_getElem? (i := 221) (by decide +kernel))) (by decide +kernel)
theorem m_38053281 : (.methodLink "StackHost" 71 Lib.Math.min.name : Cond) ∈ xt_tbl := xt_in (xt_t2 (List.mem_of_getElem? (i := 222) (by decide +kernel))) (by decide +kernel)
theorem m_b8219f1e : (.methodLink "StackHost" 77 y_Arrays_copyOf0 : Cond) ∈ xt_tbl := xt_in (xt_t2 (List.mem_of_getElem? (i := 225) (by decide +kernel))) (by decide +kernel)
theorem m_16c212e6 : (.static y_Arrays_copyOf0 : Cond) ∈ xt_tbl := xt_in (xt_t2 (List.mem_of_getElem? (i := 226) (by decide +kernel))) (by decide +kernel)
theorem m_b999e92a : (.initialized "java/util/Arrays" : Cond) ∈ xt_tbl := xt_in (xt_t1 (List.mem_of_getElem? (i := 15) (by decide +kernel))) (by decide +kernel)
theorem m_d6a3543a : (.code y_Arrays_copyOf0 b_Arrays_copyOf0 3 (some (.array .byte)) : Cond) ∈ xt_tbl := xt_in (xt_t2 (List.mem_of_getElem? (i := 227) (by decide +kernel))) (by decide +kernel)
theorem nm_H_feedNumber : xt_nm y_H_feedNumber 1 := ⟨by decide +kernel, by decide +kernel⟩
theorem nm_Arrays_copyOf0 : xt_nm y_Arrays_copyOf0 2 := ⟨by decide +kernel, by decide +kernel⟩
set_option maxRecDepth 100000 in
def T_H_feed : List (Nat × Instr × Nat) := [(0, .aload_n 0, 1), (1, .getfield 58, 3), (4, .ldc 62, 2), (6, .if_icmp .le 13, 3), (9, .new 63, 3), (12, .dup, 1), (13, .ldc 65, 2), (15, .invokespecial 67, 3), (18, .athrow, 1), (19, .aload_n 0, 1), (20, .getfield 58, 3), (23, .bipush 20, 2), (25, .iadd, 1), (26, .aload_n 0, 1), (27, .getfield 9, 3), (30, .arraylength, 1), (31, .if_icmp .le 28, 3), (34, .aload_n 0, 1), (35, .aload_n 0, 1), (36, .getfield 9, 3), (39, .ldc 70, 2), (41, .iconst 2, 1), (42, .aload_n 0, 1), (43, .getfield 58, 3), (46, .bipush 20, 2), (48, .iadd, 1), (49, .imul, 1), (50, .invokestatic 71, 3), (53, .invokestatic 77, 3), (56, .putfield 9, 3), (59, .aload_n 0, 1), (60, .iload_n 1, 1), (61, .invokevirtual 83, 3), (64, .aload_n 0, 1), (65, .iload_n 2, 1), (66, .invokevirtual 83, 3), (69, .aload_n 0, 1), (70, .iload_n 3, 1), (71, .invokevirtual 83, 3), (74, .aload_n 0, 1), (75, .iload 4, 2), (77, .invokevirtual 83, 3), (80, .aload_n 0, 1), (81, .iload 5, 2), (83, .invokevirtual 83, 3), (86, .aload_n 0, 1), (87, .getfield 58, 3), (90, .ireturn, 1)]
theorem D_H_feed : ∀ q ∈ T_H_feed, decode b_H_feed q.1 = .ok (q.2.1, q.2.2) := by decide +kernel

set_option maxHeartbeats 4000000 in
set_option maxRecDepth 100000 in
theorem am_H_feed_L59 (l : Launch) (hfl : l.flags = pinnedFlags ++ [noTraceFlag]) (D : va_G) (A : Nat → Prop) (σ MC MS : Nat) (h0 : xb_H) (Qr : Int32 → xb_H → Nat → Nat → Prop) (Qt : String → xb_H → Nat → Nat → Prop) (x0 : Nat) (x1 : Int32) (x2 : Int32) (x3 : Int32) (x4 : Int32) (x5 : Int32) (h : xb_H) (bc : Nat) (bs : Nat) (hw : w_H_feed_L59 Qr Qt x0 x1 x2 x3 x4 x5 h bc bs) : xb_am l D A σ 3 MC MS h0 (fun v h bc bs => ∃ r, v = some (.int r) ∧ Qr r h bc bs) Qt y_H_feed.cls y_H_feed.name b_H_feed 6 ([] : List ExceptionTableEntry) (some .int) 59 [(0, .ref x0), (1, .int x1), (2, .int x2), (3, .int x3), (4, .int x4), (5, .int x5)] [] h bc bs := by
  unfold w_H_feed_L59 at hw
  intro p e s m args below meth c hC H locs ls k n hE hl hR hS hk hn
  obtain ⟨hx, hb, hown, hlocks, htab, hml, hr, hB, hA, hnm⟩ := id hC
  have hts := hB.1.1.at args
  refine lv_aload_n hx hb (xb_d D_H_feed 30 rfl) rfl (lv_at hl 0 rfl) ?_
  refine lv_iload_n hx hb (xb_d D_H_feed 31 rfl) rfl (lv_at hl 1 rfl) ?_
  obtain ⟨hk1, hw⟩ := hw
  refine xb_call0 (D := D) (A := A) (σ := σ) (h := h) (d := 2) (maxL := 3) (rest := []) (av := [.ref x0, .int x1]) (fun T hT X => by obtain ⟨cb9, ra9, rb9, rc9⟩ := xb_recv (ci := 0) hR rfl hk1 (by decide); exact xt_invV X hx hown (hts _ m_2a8e4982) (hts _ m_4cd16fab) (hts _ m_7a03d19d) (xt_sigOf (hts _ m_053ad4c0)) nm_H_feedNumber (by rw [hT]; exact ra9) rb9 rc9 (g := F0 m 61 ls [.int x1, .ref x0]) rfl (argsL := [.int x1]) (rest := []) rfl rfl (by rw [hb]; exact (xb_d D_H_feed 32 rfl))) (ok_H_feedNumber l hfl D A σ x0 x1 h _ hw) (hml.trans hl.1.symm) (by rw [hb]; exact (xb_d D_H_feed 32 rfl)) (Nat.le_of_ble_eq_true rfl) (Nat.le_of_ble_eq_true rfl) (Nat.le_of_ble_eq_true rfl) (show k ≤ MC by omega) (show n ≤ MS by omega) (xt_w1 hB.1 m_053ad4c0) (xt_cdOf hB.1 m_053ad4c0) (hts _ m_ba0734f5) hB hR hS hA (fun vv h2 H locs hq hEh2 hR hS => ?_)
  obtain ⟨rfl, hw⟩ := hq
  have hw := hw hEh2
  have hE := hE.tr hEh2
  refine W.eq (g2 := F0 m 64 ls []) rfl ?_
  refine lv_aload_n hx hb (xb_d D_H_feed 33 rfl) rfl (lv_at hl 0 rfl) ?_
  refine lv_iload_n hx hb (xb_d D_H_feed 34 rfl) rfl (lv_at hl 2 rfl) ?_
  have hk1 : xb_k h2 x0 = 1 := hEh2.k hk1
  refine xb_call0 (D := D) (A := A) (σ := σ) (h := h2) (d := 2) (maxL := 3) (rest := []) (av := [.ref x0, .int x2]) (fun T hT X => by obtain ⟨cb9, ra9, rb9, rc9⟩ := xb_recv (ci := 0) hR rfl hk1 (by decide); exact xt_invV X hx hown (hts _ m_2a8e4982) (hts _ m_4cd16fab) (hts _ m_7a03d19d) (xt_sigOf (hts _ m_053ad4c0)) nm_H_feedNumber (by rw [hT]; exact ra9) rb9 rc9 (g := F0 m 66 ls [.int x2, .ref x0]) rfl (argsL := [.int x2]) (rest := []) rfl rfl (by rw [hb]; exact (xb_d D_H_feed 35 rfl))) (ok_H_feedNumber l hfl D A σ x0 x2 h2 _ hw) (hml.trans hl.1.symm) (by rw [hb]; exact (xb_d D_H_feed 35 rfl)) (Nat.le_of_ble_eq_true rfl) (Nat.le_of_ble_eq_true rfl) (Nat.le_of_ble_eq_true rfl) (show k ≤ MC by omega) (show n ≤ MS by omega) (xt_w1 hB.1 m_053ad4c0) (xt_cdOf hB.1 m_053ad4c0) (hts _ m_ba0734f5) hB hR hS hA (fun vv h4 H locs hq hEh4 hR hS => ?_)
  obtain ⟨rfl, hw⟩ := hq
  have hw := hw hEh4
  have hE := hE.tr hEh4
  refine W.eq (g2 := F0 m 69 ls []) rfl ?_
  refine lv_aload_n hx hb (xb_d D_H_feed 36 rfl) rfl (lv_at hl 0 rfl) ?_
  refine lv_iload_n hx hb (xb_d D_H_feed 37 rfl) rfl (lv_at hl 3 rfl) ?_
  have hk1 : xb_k h4 x0 = 1 := hEh4.k hk1
  refine xb_call0 (D := D) (A := A) (σ := σ) (h := h4) (d := 2) (maxL := 3) (rest := []) (av := [.ref x0, .int x3]) (fun T hT X => by obtain ⟨cb9, ra9, rb9, rc9⟩ := xb_recv (ci := 0) hR rfl hk1 (by decide); exact xt_invV X hx hown (hts _ m_2a8e4982) (hts _ m_4cd16fab) (hts _ m_7a03d19d) (xt_sigOf (hts _ m_053ad4c0)) nm_H_feedNumber (by rw [hT]; exact ra9) rb9 rc9 (g := F0 m 71 ls [.int x3, .ref x0]) rfl (argsL := [.int x3]) (rest := []) rfl rfl (by rw [hb]; exact (xb_d D_H_feed 38 rfl))) (ok_H_feedNumber l hfl D A σ x0 x3 h4 _ hw) (hml.trans hl.1.symm) (by rw [hb]; exact (xb_d D_H_feed 38 rfl)) (Nat.le_of_ble_eq_true rfl) (Nat.le_of_ble_eq_true rfl) (Nat.le_of_ble_eq_true rfl) (show k ≤ MC by omega) (show n ≤ MS by omega) (xt_w1 hB.1 m_053ad4c0) (xt_cdOf hB.1 m_053ad4c0) (hts _ m_ba0734f5) hB hR hS hA (fun vv h6 H locs hq hEh6 hR hS => ?_)
  obtain ⟨rfl, hw⟩ := hq
  have hw := hw hEh6
  have hE := hE.tr hEh6
  refine W.eq (g2 := F0 m 74 ls []) rfl ?_
  refine lv_aload_n hx hb (xb_d D_H_feed 39 rfl) rfl (lv_at hl 0 rfl) ?_
  refine lv_iload hx hb (xb_d D_H_feed 40 rfl) (lv_at hl 4 rfl) ?_
  have hk1 : xb_k h6 x0 = 1 := hEh6.k hk1
  refine xb_call0 (D := D) (A := A) (σ := σ) (h := h6) (d := 2) (maxL := 3) (rest := []) (av := [.ref x0, .int x4]) (fun T hT X => by obtain ⟨cb9, ra9, rb9, rc9⟩ := xb_recv (ci := 0) hR rfl hk1 (by decide); exact xt_invV X hx hown (hts _ m_2a8e4982) (hts _ m_4cd16fab) (hts _ m_7a03d19d) (xt_sigOf (hts _ m_053ad4c0)) nm_H_feedNumber (by rw [hT]; exact ra9) rb9 rc9 (g := F0 m 77 ls [.int x4, .ref x0]) rfl (argsL := [.int x4]) (rest := []) rfl rfl (by rw [hb]; exact (xb_d D_H_feed 41 rfl))) (ok_H_feedNumber l hfl D A σ x0 x4 h6 _ hw) (hml.trans hl.1.symm) (by rw [hb]; exact (xb_d D_H_feed 41 rfl)) (Nat.le_of_ble_eq_true rfl) (Nat.le_of_ble_eq_true rfl) (Nat.le_of_ble_eq_true rfl) (show k ≤ MC by omega) (show n ≤ MS by omega) (xt_w1 hB.1 m_053ad4c0) (xt_cdOf hB.1 m_053ad4c0) (hts _ m_ba0734f5) hB hR hS hA (fun vv h8 H locs hq hEh8 hR hS => ?_)
  obtain ⟨rfl, hw⟩ := hq
  have hw := hw hEh8
  have hE := hE.tr hEh8
  refine W.eq (g2 := F0 m 80 ls []) rfl ?_
  refine lv_aload_n hx hb (xb_d D_H_feed 42 rfl) rfl (lv_at hl 0 rfl) ?_
  refine lv_iload hx hb (xb_d D_H_feed 43 rfl) (lv_at hl 5 rfl) ?_
  have hk1 : xb_k h8 x0 = 1 := hEh8.k hk1
  refine xb_call0 (D := D) (A := A) (σ := σ) (h := h8) (d := 2) (maxL := 3) (rest := []) (av := [.ref x0, .int x5]) (fun T hT X => by obtain ⟨cb9, ra9, rb9, rc9⟩ := xb_recv (ci := 0) hR rfl hk1 (by decide); exact xt_invV X hx hown (hts _ m_2a8e4982) (hts _ m_4cd16fab) (hts _ m_7a03d19d) (xt_sigOf (hts _ m_053ad4c0)) nm_H_feedNumber (by rw [hT]; exact ra9) rb9 rc9 (g := F0 m 83 ls [.int x5, .ref x0]) rfl (argsL := [.int x5]) (rest := []) rfl rfl (by rw [hb]; exact (xb_d D_H_feed 44 rfl))) (ok_H_feedNumber l hfl D A σ x0 x5 h8 _ hw) (hml.trans hl.1.symm) (by rw [hb]; exact (xb_d D_H_feed 44 rfl)) (Nat.le_of_ble_eq_true rfl) (Nat.le_of_ble_eq_true rfl) (Nat.le_of_ble_eq_true rfl) (show k ≤ MC by omega) (show n ≤ MS by omega) (xt_w1 hB.1 m_053ad4c0) (xt_cdOf hB.1 m_053ad4c0) (hts _ m_ba0734f5) hB hR hS hA (fun vv h10 H locs hq hEh10 hR hS => ?_)
  obtain ⟨rfl, hw⟩ := hq
  have hw := hw hEh10
  have hE := hE.tr hEh10
  refine W.eq (g2 := F0 m 86 ls []) rfl ?_
  refine lv_aload_n hx hb (xb_d D_H_feed 45 rfl) rfl (lv_at hl 0 rfl) ?_
  have hk1 : xb_k h10 x0 = 1 := hEh10.k hk1
  refine xb_getI (C := R_H) (T := F_H) (N := 11) hx hb 0 1 hts fin_H hown hR hk1 (by decide) rfl (by decide) rfl (hts _ m_1ee8d2b8) (fun _ h9 => h9) (xb_d D_H_feed 46 rfl) ?_
  exact xb_iret bc bs hx hb hr hlocks (show k + bc ≤ MC by omega) (show n + bs ≤ MS by omega) hE hR hS (xb_d D_H_feed 47 rfl) hw

set_option maxHeartbeats 4000000 in
set_option maxRecDepth 100000 in
theorem ok_H_feed (l : Launch) (hfl : l.flags = pinnedFlags ++ [noTraceFlag]) (D : va_G) (A : Nat → Prop) (σ : Nat) (x0 : Nat) (x1 : Int32) (x2 : Int32) (x3 : Int32) (x4 : Int32) (x5 : Int32) (h : xb_H) (bc : Nat) (bs : Nat) (Qr : Int32 → xb_H → Nat → Nat → Prop) (Qt : String → xb_H → Nat → Nat → Prop) (hw : w_H_feed x0 x1 x2 x3 x4 x5 h bc bs Qr Qt) : xb_Met l y_H_feed [.code y_H_feed b_H_feed 6 (some .int)] (xb_rm 3 bc bs) (xb_Pc D A σ h [.ref x0, .int x1, .int x2, .int x3, .int x4, .int x5]) (xb_Qc D A h bc bs (fun v h bc bs => ∃ r, v = some (.int r) ∧ Qr r h bc bs) Qt) A := by
  refine xb_ofAm (cc := b_H_feed) (by decide) (Nat.le_of_ble_eq_true rfl) ?_
  unfold w_H_feed at hw
  show xb_am l D A σ 3 bc bs h (fun v h bc bs => ∃ r, v = some (.int r) ∧ Qr r h bc bs) Qt y_H_feed.cls y_H_feed.name b_H_feed 6 ([] : List ExceptionTableEntry) (some .int) 0 [(0, .ref x0), (1, .int x1), (2, .int x2), (3, .int x3), (4, .int x4), (5, .int x5)] [] h bc bs
  obtain ⟨MC, hMC⟩ : ∃ x, x = bc := ⟨_, rfl⟩
  obtain ⟨MS, hMS⟩ : ∃ x, x = bs := ⟨_, rfl⟩
  rw [show xb_am l D A σ 3 bc bs = xb_am l D A σ 3 MC MS by rw [hMC, hMS]]
  obtain ⟨h0, hh0⟩ : ∃ x, x = h := ⟨_, rfl⟩
  rw [show xb_am l D A σ 3 MC MS h = xb_am l D A σ 3 MC MS h0 by rw [hh0]]
  intro p e s m args below meth c hC H locs ls k n hE hl hR hS hk hn
  obtain ⟨hx, hb, hown, hlocks, htab, hml, hr, hB, hA, hnm⟩ := id hC
  have hts := hB.1.1.at args
  refine lv_aload_n hx hb (xb_d D_H_feed 0 rfl) rfl (lv_at hl 0 rfl) ?_
  obtain ⟨hk1, hw⟩ := hw
  refine xb_getI (C := R_H) (T := F_H) (N := 11) hx hb 0 1 hts fin_H hown hR hk1 (by decide) rfl (by decide) rfl (hts _ m_1ee8d2b8) (fun _ h9 => h9) (xb_d D_H_feed 1 rfl) ?_
  refine lv_ldc (v := 65516) hx hb hown (hts _ m_4732199b) (xb_d D_H_feed 2 rfl) ?_
  refine lv_icmp_le (tgt := 19) hx hb (xb_d D_H_feed 3 rfl) rfl (fun hc2 => ?_) (fun hc2 => ?_)
  · have hw := hw.1 hc2
    refine lv_aload_n hx hb (xb_d D_H_feed 9 rfl) rfl (lv_at hl 0 rfl) ?_
    refine xb_getI (C := R_H) (T := F_H) (N := 11) hx hb 0 1 hts fin_H hown hR hk1 (by decide) rfl (by decide) rfl (hts _ m_1ee8d2b8) (fun _ h9 => h9) (xb_d D_H_feed 10 rfl) ?_
    refine lv_bipush (v := 20) hx hb (xb_d D_H_feed 11 rfl) (by decide) ?_
    refine lv_iadd hx hb (xb_d D_H_feed 12 rfl) ?_
    refine lv_aload_n hx hb (xb_d D_H_feed 13 rfl) rfl (lv_at hl 0 rfl) ?_
    refine xb_getP (C := R_H) (T := F_H) (N := 11) hx hb 0 0 hts fin_H hown hR hk1 (by decide) rfl (by decide) rfl (hts _ m_4570233e) (fun _ h9 => h9) (xb_d D_H_feed 14 rfl) ?_
    obtain ⟨b3, eb3, hw⟩ := hw
    refine xb_some eb3 ?_
    obtain ⟨hk4, hw⟩ := hw
    refine xb_alen hx hb hR hk4 (by decide) (xb_d D_H_feed 15 rfl) ?_
    refine lv_icmp_le (tgt := 59) hx hb (xb_d D_H_feed 16 rfl) rfl (fun hc5 => ?_) (fun hc5 => ?_)
    · have hw := hw.1 hc5
      exact am_H_feed_L59 l hfl D A σ MC MS h0 Qr Qt x0 x1 x2 x3 x4 x5 h bc bs hw p e s m args below meth c hC H locs ls k n hE (lv_sub hl [0, 1, 2, 3, 4, 5] rfl) hR hS (by omega) (by omega)
    · have hw := hw.2 hc5
      refine lv_aload_n hx hb (xb_d D_H_feed 17 rfl) rfl (lv_at hl 0 rfl) ?_
      refine lv_aload_n hx hb (xb_d D_H_feed 18 rfl) rfl (lv_at hl 0 rfl) ?_
      refine xb_getP (C := R_H) (T := F_H) (N := 11) hx hb 0 0 hts fin_H hown hR hk1 (by decide) rfl (by decide) rfl (hts _ m_4570233e) (fun _ h9 => h9) (xb_d D_H_feed 19 rfl) ?_
      obtain ⟨b6, eb6, hw⟩ := hw
      refine xb_some eb6 ?_
      refine lv_ldc (v := 65536) hx hb hown (hts _ m_1c5b51e6) (xb_d D_H_feed 20 rfl) ?_
      refine lv_iconst (v := 2) hx hb (xb_d D_H_feed 21 rfl) (by decide) ?_
      refine lv_aload_n hx hb (xb_d D_H_feed 22 rfl) rfl (lv_at hl 0 rfl) ?_
      refine xb_getI (C := R_H) (T := F_H) (N := 11) hx hb 0 1 hts fin_H hown hR hk1 (by decide) rfl (by decide) rfl (hts _ m_1ee8d2b8) (fun _ h9 => h9) (xb_d D_H_feed 23 rfl) ?_
      refine lv_bipush (v := 20) hx hb (xb_d D_H_feed 24 rfl) (by decide) ?_
      refine lv_iadd hx hb (xb_d D_H_feed 25 rfl) ?_
      refine lv_imul hx hb (xb_d D_H_feed 26 rfl) ?_
      refine va_mmin hx hb (hml.trans hl.1.symm) hown (hts _ m_38053281) (hts _ m_79b26afc) (hts _ m_868a9286) (hts _ m_0fd793e2) (by show 1 ≤ 8 + _; omega) (Nat.le_trans (Nat.le_of_ble_eq_true rfl : _ ≤ 60) (by show 60 ≤ 120 + _; omega)) (show k ≤ MC by omega) (show n ≤ MS by omega) (xb_d D_H_feed 27 rfl) ?_
      refine xb_call (D := D) (A := A) (σ := σ) (h := h) (d := 2) (mc := bc) (ms := bs) (maxL := 3) (rest := [.ref x0]) (av := [.ref b6, .int (if (2 * ((xb_i h x0 1) + 20)) < 65536 then (2 * ((xb_i h x0 1) + 20)) else 65536)]) (fun T hT X => xt_invS X hx hown (hts _ m_b8219f1e) (hts _ m_16c212e6) (hts _ m_b999e92a) (xt_sgS (hts _ m_d6a3543a)).1 (xt_sgS (hts _ m_d6a3543a)).2 nm_Arrays_copyOf0 (g := F0 m 53 ls [.int (if (2 * ((xb_i h x0 1) + 20)) < 65536 then (2 * ((xb_i h x0 1) + 20)) else 65536), .ref b6, .ref x0]) rfl (argsL := [.ref b6, .int (if (2 * ((xb_i h x0 1) + 20)) < 65536 then (2 * ((xb_i h x0 1) + 20)) else 65536)]) (rest := [.ref x0]) rfl rfl (by rw [hb]; exact (xb_d D_H_feed 28 rfl))) (ok_Arrays_copyOf0 l hfl D A σ b6 (if (2 * ((xb_i h x0 1) + 20)) < 65536 then (2 * ((xb_i h x0 1) + 20)) else 65536) h bc bs _ hw) (hml.trans hl.1.symm) (by rw [hb]; exact (xb_d D_H_feed 28 rfl)) (Nat.le_of_ble_eq_true rfl) (Nat.le_of_ble_eq_true rfl) (Nat.le_of_ble_eq_true rfl) (show k + bc ≤ MC by omega) (show n + bs ≤ MS by omega) (xt_w1 hB.1 m_d6a3543a) (xt_cdOf hB.1 m_d6a3543a) (hts _ m_b999e92a) hB hR hS hA (fun vv h7 bc8 bs8 kk8 nn8 H locs hk8 hn8 hq hEh7 hR hS => ?_) (fun XX ax h7 bc8 bs8 kk8 nn8 H locs hk8 hn8 hq hEh7 hex hR hS => ?_)
      · obtain ⟨r8, rfl, hw⟩ := hq
        have hw := hw hEh7
        have hE := hE.tr hEh7
        refine W.eq (g2 := F0 m 56 ls [.ref r8, .ref x0]) rfl ?_
        have hk1 : xb_k h7 x0 = 1 := hEh7.k hk1
        refine xb_putP (C := R_H) (T := F_H) (N := 11) (ty := .array .byte) (x := (some r8)) hx hb 0 0 hts fin_H t_H t_H_ok n_H hown hR hS hk1 (by decide) rfl (by decide) rfl (hts _ m_4570233e) (fun _ h9 => h9) rfl (by decide +kernel) (xb_pnA _ _).1 (xb_pnA _ _).2 (xb_d D_H_feed 29 rfl) (fun H locs hR hS => ?_)
        obtain ⟨h9, eh9⟩ : ∃ x : xb_H, x = xb_P h7 x0 0 (some r8) := ⟨_, rfl⟩
        rw [← eh9] at hR
        have hw := hw h9 eh9
        have hE : xb_ext h0 h9 := by rw [eh9]; exact hE
        exact am_H_feed_L59 l hfl D A σ MC MS h0 Qr Qt x0 x1 x2 x3 x4 x5 h9 bc8 bs8 hw p e s m args below meth c hC H locs ls (k + kk8) (n + nn8) hE (lv_sub hl [0, 1, 2, 3, 4, 5] rfl) hR hS (by omega) (by omega)
      · exact False.elim hq
  · have hw := hw.2 hc2
    obtain ⟨hc9, hs9, hw⟩ := hw
    exact xb_throw (names := ["java/lang/RuntimeException", "java/lang/Exception"]) hx hb (hml.trans hl.1.symm) hlocks hfl hown xsite_a1ef0b hB hS (show k + bc ≤ MC by omega) (show n + bs ≤ MS by omega) hc9 hs9 (by decide) (Nat.le_of_ble_eq_true rfl) htab (xb_d D_H_feed 4 rfl) (xb_d D_H_feed 5 rfl) xt_l2 (xb_d D_H_feed 6 rfl) (xb_d D_H_feed 7 rfl) (xb_d D_H_feed 8 rfl) hE hR hw

theorem m_63e9a525 : (.methodLink "StackHost" 200 y_H_instanceNumbered : Cond) ∈ xt_tbl := xt_in (xt_t7 (List.mem_of_getElem? (i := 127) (by decide +kernel))) (by decide +kernel)
theorem m_93abae91 : (.instanceMethod y_H_instanceNumbered : Cond) ∈ xt_tbl := xt_in (xt_t7 (List.mem_of_getElem? (i := 129) (by decide +kernel))) (by decide +kernel)
theorem m_f44e4f6a : (.selects "StackHost" y_H_instanceNumbered y_H_instanceNumbered : Cond) ∈ xt_tbl := xt_in (xt_v6 (q := (⟨"StackHost", "instanceNumbered", "(I)LStackHost$Instance;"⟩, 11)) (List.mem_of_getElem? (i := 2) (by decide +kernel))) (by decide +kernel)
theorem m_925de4f3 : (.code y_H_instanceNumbered b_H_instanceNumbered 2 (some (.object "StackHost$Instance")) : Cond) ∈ xt_tbl := xt_in (xt_t7 (List.mem_of_getElem? (i := 130) (by decide +kernel))) (by decide +kernel)
theorem m_8e5ca99a : (.fieldLink "StackHost" 283 "StackHost$Instance" "memory" "LStackHost$Memory;" : Cond) ∈ xt_tbl := xt_in (xt_t7 (List.mem_of_getElem? (i := 19) (by decide +kernel))) (by decide +kernel)
theorem m_ebe74d61 : (.methodLink "StackHost" 299 y_Memory_bytes : Cond) ∈ xt_tbl := xt_in (xt_t9 (List.mem_of_getElem? (i := 49) (by decide +kernel))) (by decide +kernel)
theorem m_68bf618d : (.instanceMethod y_Memory_bytes : Cond) ∈ xt_tbl := xt_in (xt_t6 (List.mem_of_getElem? (i := 225) (by decide +kernel))) (by decide +kernel)
theorem m_e440a9a2 : (.selects "StackHost$Memory" y_Memory_bytes y_Memory_bytes : Cond) ∈ xt_tbl := xt_in (xt_t6 (List.mem_of_getElem? (i := 226) (by decide +kernel))) (by decide +kernel)
theorem m_f2e0b002 : (.code y_Memory_bytes b_Memory_bytes 1 (some .int) : Cond) ∈ xt_tbl := xt_in (xt_t6 (List.mem_of_getElem? (i := 227) (by decide +kernel))) (by decide +kernel)
theorem m_e7289b5f : (.initialized "StackHost$Memory" : Cond) ∈ xt_tbl := xt_in (xt_t1 (List.mem_of_getElem? (i := 31) (by decide +kernel))) (by decide +kernel)
theorem nm_H_instanceNumbered : xt_nm y_H_instanceNumbered 1 := ⟨by decide +kernel, by decide +kernel⟩
theorem nm_Memory_bytes : xt_nm y_Memory_bytes 0 := ⟨by decide +kernel, by decide +kernel⟩
set_option maxRecDepth 100000 in
def T_H_memoryWith : List (Nat × Instr × Nat) := [(0, .aload_n 0, 1), (1, .iload_n 1, 1), (2, .invokevirtual 200, 3), (5, .getfield 283, 3), (8, .astore_n 3, 1), (9, .aload_n 3, 1), (10, .ifnull 15, 3), (13, .iload_n 2, 1), (14, .ifCond .lt 11, 3), (17, .iload_n 2, 1), (18, .aload_n 3, 1), (19, .invokevirtual 299, 3), (22, .if_icmp .lt 14, 3), (25, .new 117, 3), (28, .dup, 1), (29, .ldc_w 302, 3), (32, .invokespecial 121, 3), (35, .athrow, 1), (36, .aload_n 3, 1), (37, .areturn, 1)]
theorem D_H_memoryWith : ∀ q ∈ T_H_memoryWith, decode b_H_memoryWith q.1 = .ok (q.2.1, q.2.2) := by decide +kernel

set_option maxHeartbeats 4000000 in
set_option maxRecDepth 100000 in
theorem am_H_memoryWith_L25 (l : Launch) (hfl : l.flags = pinnedFlags ++ [noTraceFlag]) (D : va_G) (A : Nat → Prop) (σ MC MS : Nat) (h0 : xb_H) (Qr : Nat → xb_H → Nat → Nat → Prop) (Qt : String → xb_H → Nat → Nat → Prop) (h : xb_H) (bc : Nat) (bs : Nat) (hw : w_H_memoryWith_L25 Qr Qt h bc bs) : xb_am l D A σ 3 MC MS h0 (fun v h bc bs => ∃ r, v = some (.ref r) ∧ Qr r h bc bs) Qt y_H_memoryWith.cls y_H_memoryWith.name b_H_memoryWith 4 ([] : List ExceptionTableEntry) (some (.object "StackHost$Memory")) 25 [] [] h bc bs := by
  unfold w_H_memoryWith_L25 at hw
  intro p e s m args below meth c hC H locs ls k n hE hl hR hS hk hn
  obtain ⟨hx, hb, hown, hlocks, htab, hml, hr, hB, hA, hnm⟩ := id hC
  have hts := hB.1.1.at args
  obtain ⟨hc9, hs9, hw⟩ := hw
  exact xb_throw (names := ["java/lang/RuntimeException", "java/lang/Exception"]) hx hb (hml.trans hl.1.symm) hlocks hfl hown xsite_58dbc3 hB hS (show k + bc ≤ MC by omega) (show n + bs ≤ MS by omega) hc9 hs9 (by decide) (Nat.le_of_ble_eq_true rfl) htab (xb_d D_H_memoryWith 13 rfl) (xb_d D_H_memoryWith 14 rfl) xt_l3 (xb_d D_H_memoryWith 15 rfl) (xb_d D_H_memoryWith 16 rfl) (xb_d D_H_memoryWith 17 rfl) hE hR hw

set_option maxHeartbeats 4000000 in
set_option maxRecDepth 100000 in
theorem ok_H_memoryWith (l : Launch) (hfl : l.flags = pinnedFlags ++ [noTraceFlag]) (D : va_G) (A : Nat → Prop) (σ : Nat) (x0 : Nat) (x1 : Int32) (x2 : Int32) (h : xb_H) (bc : Nat) (bs : Nat) (Qr : Nat → xb_H → Nat → Nat → Prop) (Qt : String → xb_H → Nat → Nat → Prop) (hw : w_H_memoryWith x0 x1 x2 h bc bs Qr Qt) : xb_Met l y_H_memoryWith [.code y_H_memoryWith b_H_memoryWith 4 (some (.object "StackHost$Memory"))] (xb_rm 3 bc bs) (xb_Pc D A σ h [.ref x0, .int x1, .int x2]) (xb_Qc D A h bc bs (fun v h bc bs => ∃ r, v = some (.ref r) ∧ Qr r h bc bs) Qt) A := by
  refine xb_ofAm (cc := b_H_memoryWith) (by decide) (Nat.le_of_ble_eq_true rfl) ?_
  unfold w_H_memoryWith at hw
  show xb_am l D A σ 3 bc bs h (fun v h bc bs => ∃ r, v = some (.ref r) ∧ Qr r h bc bs) Qt y_H_memoryWith.cls y_H_memoryWith.name b_H_memoryWith 4 ([] : List ExceptionTableEntry) (some (.object "StackHost$Memory")) 0 [(0, .ref x0), (1, .int x1), (2, .int x2)] [] h bc bs
  obtain ⟨MC, hMC⟩ : ∃ x, x = bc := ⟨_, rfl⟩
  obtain ⟨MS, hMS⟩ : ∃ x, x = bs := ⟨_, rfl⟩
  rw [show xb_am l D A σ 3 bc bs = xb_am l D A σ 3 MC MS by rw [hMC, hMS]]
  obtain ⟨h0, hh0⟩ : ∃ x, x = h := ⟨_, rfl⟩
  rw [show xb_am l D A σ 3 MC MS h = xb_am l D A σ 3 MC MS h0 by rw [hh0]]
  intro p e s m args below meth c hC H locs ls k n hE hl hR hS hk hn
  obtain ⟨hx, hb, hown, hlocks, htab, hml, hr, hB, hA, hnm⟩ := id hC
  have hts := hB.1.1.at args
  refine lv_aload_n hx hb (xb_d D_H_memoryWith 0 rfl) rfl (lv_at hl 0 rfl) ?_
  refine lv_iload_n hx hb (xb_d D_H_memoryWith 1 rfl) rfl (lv_at hl 1 rfl) ?_
  obtain ⟨hk1, hw⟩ := hw
  refine xb_call (D := D) (A := A) (σ := σ) (h := h) (d := 2) (mc := bc) (ms := bs) (maxL := 2) (rest := []) (av := [.ref x0, .int x1]) (fun T hT X => by obtain ⟨cb9, ra9, rb9, rc9⟩ := xb_recv (ci := 0) hR rfl hk1 (by decide); exact xt_invV X hx hown (hts _ m_63e9a525) (hts _ m_93abae91) (hts _ m_f44e4f6a) (xt_sigOf (hts _ m_925de4f3)) nm_H_instanceNumbered (by rw [hT]; exact ra9) rb9 rc9 (g := F0 m 2 ls [.int x1, .ref x0]) rfl (argsL := [.int x1]) (rest := []) rfl rfl (by rw [hb]; exact (xb_d D_H_memoryWith 2 rfl))) (ok_H_instanceNumbered l hfl D A σ x0 x1 h bc bs _ _ hw) (hml.trans hl.1.symm) (by rw [hb]; exact (xb_d D_H_memoryWith 2 rfl)) (Nat.le_of_ble_eq_true rfl) (Nat.le_of_ble_eq_true rfl) (Nat.le_of_ble_eq_true rfl) (show k + bc ≤ MC by omega) (show n + bs ≤ MS by omega) (xt_w1 hB.1 m_925de4f3) (xt_cdOf hB.1 m_925de4f3) (hts _ m_ba0734f5) hB hR hS hA (fun vv h2 bc3 bs3 kk3 nn3 H locs hk3 hn3 hq hEh2 hR hS => ?_) (fun XX ax h2 bc3 bs3 kk3 nn3 H locs hk3 hn3 hq hEh2 hex hR hS => ?_)
  · obtain ⟨r3, rfl, hw⟩ := hq
    have hw := hw hEh2
    have hE := hE.tr hEh2
    refine W.eq (g2 := F0 m 5 ls [.ref r3]) rfl ?_
    obtain ⟨hk4, hw⟩ := hw
    refine xb_getP (C := R_Instance) (T := F_Instance) (N := 8) hx hb 10 7 hts fin_Instance hown hR hk4 (by decide) rfl (by decide) rfl (hts _ m_8e5ca99a) (fun _ h9 => h9) (xb_d D_H_memoryWith 3 rfl) ?_
    refine xb_split (fun ho => ?_) (fun b5 ho => ?_)
    · have hw := hw.1 ho
      refine lv_astore_nN hx hb (xb_d D_H_memoryWith 4 rfl) rfl hl (by decide) rfl (fun ls hl => ?_)
      have hl : lv_has ls 4 [(3, .null), (0, .ref x0), (1, .int x1), (2, .int x2)] := hl
      refine lv_aload_nN hx hb (xb_d D_H_memoryWith 5 rfl) rfl (lv_at hl 0 rfl) ?_
      refine lv_ifnullN (tgt := 25) hx hb (xb_d D_H_memoryWith 6 rfl) rfl ?_
      exact am_H_memoryWith_L25 l hfl D A σ MC MS h0 Qr Qt h2 bc3 bs3 hw p e s m args below meth c hC H locs ls (k + kk3) (n + nn3) hE (lv_sub hl [] rfl) hR hS (by omega) (by omega)
    · have hw := hw.2 b5 ho
      refine lv_astore_n hx hb (xb_d D_H_memoryWith 4 rfl) rfl hl (by decide) rfl (fun ls hl => ?_)
      have hl : lv_has ls 4 [(3, .ref b5), (0, .ref x0), (1, .int x1), (2, .int x2)] := hl
      refine lv_aload_n hx hb (xb_d D_H_memoryWith 5 rfl) rfl (lv_at hl 0 rfl) ?_
      refine lv_ifnull hx hb (xb_d D_H_memoryWith 6 rfl) ?_
      refine lv_iload_n hx hb (xb_d D_H_memoryWith 7 rfl) rfl (lv_at hl 3 rfl) ?_
      refine lv_if_lt (tgt := 25) hx hb (xb_d D_H_memoryWith 8 rfl) rfl (fun hc6 => ?_) (fun hc6 => ?_)
      · have hw := hw.1 hc6
        exact am_H_memoryWith_L25 l hfl D A σ MC MS h0 Qr Qt h2 bc3 bs3 hw p e s m args below meth c hC H locs ls (k + kk3) (n + nn3) hE (lv_sub hl [] rfl) hR hS (by omega) (by omega)
      · have hw := hw.2 hc6
        refine lv_iload_n hx hb (xb_d D_H_memoryWith 9 rfl) rfl (lv_at hl 3 rfl) ?_
        refine lv_aload_n hx hb (xb_d D_H_memoryWith 10 rfl) rfl (lv_at hl 0 rfl) ?_
        obtain ⟨hk7, hw⟩ := hw
        refine xb_call0 (D := D) (A := A) (σ := σ) (h := h2) (d := 2) (maxL := 1) (rest := [.int x2]) (av := [.ref b5]) (fun T hT X => by obtain ⟨cb9, ra9, rb9, rc9⟩ := xb_recv (ci := 12) hR rfl hk7 (by decide); exact xt_invV X hx hown (hts _ m_ebe74d61) (hts _ m_68bf618d) (hts _ m_e440a9a2) (xt_sigOf (hts _ m_f2e0b002)) nm_Memory_bytes (by rw [hT]; exact ra9) rb9 rc9 (g := F0 m 19 ls [.ref b5, .int x2]) rfl (argsL := []) (rest := [.int x2]) rfl rfl (by rw [hb]; exact (xb_d D_H_memoryWith 11 rfl))) (ok_Memory_bytes l hfl D A σ b5 h2 _ hw) (hml.trans hl.1.symm) (by rw [hb]; exact (xb_d D_H_memoryWith 11 rfl)) (Nat.le_of_ble_eq_true rfl) (Nat.le_of_ble_eq_true rfl) (Nat.le_of_ble_eq_true rfl) (show (k + kk3) ≤ MC by omega) (show (n + nn3) ≤ MS by omega) (xt_w1 hB.1 m_f2e0b002) (xt_cdOf hB.1 m_f2e0b002) (hts _ m_e7289b5f) hB hR hS hA (fun vv h8 H locs hq hEh8 hR hS => ?_)
        obtain ⟨r9, rfl, hw⟩ := hq
        have hw := hw hEh8
        have hE := hE.tr hEh8
        refine W.eq (g2 := F0 m 22 ls [.int r9, .int x2]) rfl ?_
        refine lv_icmp_lt (tgt := 36) hx hb (xb_d D_H_memoryWith 12 rfl) rfl (fun hc10 => ?_) (fun hc10 => ?_)
        · have hw := hw.1 hc10
          refine lv_aload_n hx hb (xb_d D_H_memoryWith 18 rfl) rfl (lv_at hl 0 rfl) ?_
          exact xb_aret bc3 bs3 hx hb hr (by first | exact Or.inl ⟨_, rfl⟩ | exact Or.inr ⟨_, rfl⟩) hlocks (show (k + kk3) + bc3 ≤ MC by omega) (show (n + nn3) + bs3 ≤ MS by omega) hE hR hS (xb_d D_H_memoryWith 19 rfl) hw
        · have hw := hw.2 hc10
          exact am_H_memoryWith_L25 l hfl D A σ MC MS h0 Qr Qt h8 bc3 bs3 hw p e s m args below meth c hC H locs ls (k + kk3) (n + nn3) hE (lv_sub hl [] rfl) hR hS (by omega) (by omega)
  · exact xb_pass hlocks (fun x hx9 => by rw [htab] at hx9; first | (cases hx9; done) | (simp [tableOf] at hx9; subst hx9; decide) | (simp [tableOf] at hx9; rcases hx9 with rfl | rfl <;> decide) | (simp [tableOf] at hx9; rcases hx9 with rfl | rfl | rfl <;> decide)) (show (k + kk3) + bc3 ≤ MC by omega) (show (n + nn3) + bs3 ≤ MS by omega) (hE.tr hEh2) hR hS hex hq

theorem m_abdd1028 : (.methodLink "StackHost" 122 y_H_moduleNumbered : Cond) ∈ xt_tbl := xt_in (xt_t6 (List.mem_of_getElem? (i := 84) (by decide +kernel))) (by decide +kernel)
theorem m_38480b8a : (.instanceMethod y_H_moduleNumbered : Cond) ∈ xt_tbl := xt_in (xt_t6 (List.mem_of_getElem? (i := 86) (by decide +kernel))) (by decide +kernel)
theorem m_1e19a5c0 : (.selects "StackHost" y_H_moduleNumbered y_H_moduleNumbered : Cond) ∈ xt_tbl := xt_in (xt_v5 (q := (⟨"StackHost", "moduleNumbered", "(I)LStackHost$StackModule;"⟩, 11)) (List.mem_of_getElem? (i := 0) (by decide +kernel))) (by decide +kernel)
theorem m_3c5d4c65 : (.code y_H_moduleNumbered b_H_moduleNumbered 2 (some (.object "StackHost$StackModule")) : Cond) ∈ xt_tbl := xt_in (xt_t6 (List.mem_of_getElem? (i := 87) (by decide +kernel))) (by decide +kernel)
theorem m_43e79519 : (.fieldLink "StackHost" 126 "StackHost$StackModule" "types" "LStackHost$Row;" : Cond) ∈ xt_tbl := xt_in (xt_t3 (List.mem_of_getElem? (i := 58) (by decide +kernel))) (by decide +kernel)
theorem m_8bc4588a : (.methodLink "StackHost" 129 y_Row_lines : Cond) ∈ xt_tbl := xt_in (xt_t6 (List.mem_of_getElem? (i := 89) (by decide +kernel))) (by decide +kernel)
theorem m_ded65609 : (.instanceMethod y_Row_lines : Cond) ∈ xt_tbl := xt_in (xt_t4 (List.mem_of_getElem? (i := 75) (by decide +kernel))) (by decide +kernel)
theorem m_a4161156 : (.selects "StackHost$Row" y_Row_lines y_Row_lines : Cond) ∈ xt_tbl := xt_in (xt_t4 (List.mem_of_getElem? (i := 76) (by decide +kernel))) (by decide +kernel)
theorem m_83ba3721 : (.code y_Row_lines b_Row_lines 1 (some .int) : Cond) ∈ xt_tbl := xt_in (xt_t4 (List.mem_of_getElem? (i := 77) (by decide +kernel))) (by decide +kernel)
theorem m_c1bef504 : (.initialized "StackHost$Row" : Cond) ∈ xt_tbl := xt_in (xt_t1 (List.mem_of_getElem? (i := 5) (by decide +kernel))) (by decide +kernel)
theorem m_02b1de98 : (.fieldLink "StackHost" 133 "StackHost$StackModule" "imports" "LStackHost$Row;" : Cond) ∈ xt_tbl := xt_in (xt_t3 (List.mem_of_getElem? (i := 63) (by decide +kernel))) (by decide +kernel)
theorem m_81f120f6 : (.fieldLink "StackHost" 136 "StackHost$StackModule" "functions" "LStackHost$Row;" : Cond) ∈ xt_tbl := xt_in (xt_t3 (List.mem_of_getElem? (i := 68) (by decide +kernel))) (by decide +kernel)
theorem m_8737856f : (.fieldLink "StackHost" 139 "StackHost$StackModule" "tables" "LStackHost$Row;" : Cond) ∈ xt_tbl := xt_in (xt_t3 (List.mem_of_getElem? (i := 72) (by decide +kernel))) (by decide +kernel)
theorem m_bd7bb30d : (.fieldLink "StackHost" 142 "StackHost$StackModule" "memories" "LStackHost$Row;" : Cond) ∈ xt_tbl := xt_in (xt_t3 (List.mem_of_getElem? (i := 78) (by decide +kernel))) (by decide +kernel)
theorem m_0be66937 : (.fieldLink "StackHost" 145 "StackHost$StackModule" "variables" "LStackHost$Row;" : Cond) ∈ xt_tbl := xt_in (xt_t3 (List.mem_of_getElem? (i := 81) (by decide +kernel))) (by decide +kernel)
theorem m_47aa209b : (.fieldLink "StackHost" 148 "StackHost$StackModule" "exports" "LStackHost$Row;" : Cond) ∈ xt_tbl := xt_in (xt_t3 (List.mem_of_getElem? (i := 87) (by decide +kernel))) (by decide +kernel)
theorem m_3a65a0f1 : (.fieldLink "StackHost" 151 "StackHost$StackModule" "elements" "LStackHost$Row;" : Cond) ∈ xt_tbl := xt_in (xt_t3 (List.mem_of_getElem? (i := 92) (by decide +kernel))) (by decide +kernel)
theorem m_e5cd153e : (.fieldLink "StackHost" 154 "StackHost$StackModule" "data" "LStackHost$Row;" : Cond) ∈ xt_tbl := xt_in (xt_t3 (List.mem_of_getElem? (i := 109) (by decide +kernel))) (by decide +kernel)
theorem nm_H_moduleNumbered : xt_nm y_H_moduleNumbered 1 := ⟨by decide +kernel, by decide +kernel⟩
theorem nm_Row_lines : xt_nm y_Row_lines 0 := ⟨by decide +kernel, by decide +kernel⟩
set_option maxRecDepth 100000 in
def T_H_module : List (Nat × Instr × Nat) := [(0, .aload_n 0, 1), (1, .iload_n 1, 1), (2, .invokevirtual 122, 3), (5, .astore_n 3, 1), (6, .iload_n 2, 1), (7, .tableswitch 121 0 8 #[49, 57, 65, 73, 81, 89, 97, 105, 113], 49), (56, .aload_n 3, 1), (57, .getfield 126, 3), (60, .invokevirtual 129, 3), (63, .ireturn, 1), (64, .aload_n 3, 1), (65, .getfield 133, 3), (68, .invokevirtual 129, 3), (71, .ireturn, 1), (72, .aload_n 3, 1), (73, .getfield 136, 3), (76, .invokevirtual 129, 3), (79, .ireturn, 1), (80, .aload_n 3, 1), (81, .getfield 139, 3), (84, .invokevirtual 129, 3), (87, .ireturn, 1), (88, .aload_n 3, 1), (89, .getfield 142, 3), (92, .invokevirtual 129, 3), (95, .ireturn, 1), (96, .aload_n 3, 1), (97, .getfield 145, 3), (100, .invokevirtual 129, 3), (103, .ireturn, 1), (104, .aload_n 3, 1), (105, .getfield 148, 3), (108, .invokevirtual 129, 3), (111, .ireturn, 1), (112, .aload_n 3, 1), (113, .getfield 151, 3), (116, .invokevirtual 129, 3), (119, .ireturn, 1), (120, .aload_n 3, 1), (121, .getfield 154, 3), (124, .invokevirtual 129, 3), (127, .ireturn, 1), (128, .new 117, 3), (131, .dup, 1), (132, .ldc 157, 2), (134, .invokespecial 121, 3), (137, .athrow, 1)]
theorem D_H_module : ∀ q ∈ T_H_module, decode b_H_module q.1 = .ok (q.2.1, q.2.2) := by decide +kernel

set_option maxHeartbeats 4000000 in
set_option maxRecDepth 100000 in
theorem ok_H_module (l : Launch) (hfl : l.flags = pinnedFlags ++ [noTraceFlag]) (D : va_G) (A : Nat → Prop) (σ : Nat) (x0 : Nat) (x1 : Int32) (x2 : Int32) (h : xb_H) (bc : Nat) (bs : Nat) (Qr : Int32 → xb_H → Nat → Nat → Prop) (Qt : String → xb_H → Nat → Nat → Prop) (hw : w_H_module x0 x1 x2 h bc bs Qr Qt) : xb_Met l y_H_module [.code y_H_module b_H_module 4 (some .int)] (xb_rm 3 bc bs) (xb_Pc D A σ h [.ref x0, .int x1, .int x2]) (xb_Qc D A h bc bs (fun v h bc bs => ∃ r, v = some (.int r) ∧ Qr r h bc bs) Qt) A := by
  refine xb_ofAm (cc := b_H_module) (by decide) (Nat.le_of_ble_eq_true rfl) ?_
  unfold w_H_module at hw
  show xb_am l D A σ 3 bc bs h (fun v h bc bs => ∃ r, v = some (.int r) ∧ Qr r h bc bs) Qt y_H_module.cls y_H_module.name b_H_module 4 ([] : List ExceptionTableEntry) (some .int) 0 [(0, .ref x0), (1, .int x1), (2, .int x2)] [] h bc bs
  obtain ⟨MC, hMC⟩ : ∃ x, x = bc := ⟨_, rfl⟩
  obtain ⟨MS, hMS⟩ : ∃ x, x = bs := ⟨_, rfl⟩
  rw [show xb_am l D A σ 3 bc bs = xb_am l D A σ 3 MC MS by rw [hMC, hMS]]
  obtain ⟨h0, hh0⟩ : ∃ x, x = h := ⟨_, rfl⟩
  rw [show xb_am l D A σ 3 MC MS h = xb_am l D A σ 3 MC MS h0 by rw [hh0]]
  intro p e s m args below meth c hC H locs ls k n hE hl hR hS hk hn
  obtain ⟨hx, hb, hown, hlocks, htab, hml, hr, hB, hA, hnm⟩ := id hC
  have hts := hB.1.1.at args
  refine lv_aload_n hx hb (xb_d D_H_module 0 rfl) rfl (lv_at hl 0 rfl) ?_
  refine lv_iload_n hx hb (xb_d D_H_module 1 rfl) rfl (lv_at hl 1 rfl) ?_
  obtain ⟨hk1, hw⟩ := hw
  refine xb_call (D := D) (A := A) (σ := σ) (h := h) (d := 2) (mc := bc) (ms := bs) (maxL := 2) (rest := []) (av := [.ref x0, .int x1]) (fun T hT X => by obtain ⟨cb9, ra9, rb9, rc9⟩ := xb_recv (ci := 0) hR rfl hk1 (by decide); exact xt_invV X hx hown (hts _ m_abdd1028) (hts _ m_38480b8a) (hts _ m_1e19a5c0) (xt_sigOf (hts _ m_3c5d4c65)) nm_H_moduleNumbered (by rw [hT]; exact ra9) rb9 rc9 (g := F0 m 2 ls [.int x1, .ref x0]) rfl (argsL := [.int x1]) (rest := []) rfl rfl (by rw [hb]; exact (xb_d D_H_module 2 rfl))) (ok_H_moduleNumbered l hfl D A σ x0 x1 h bc bs _ _ hw) (hml.trans hl.1.symm) (by rw [hb]; exact (xb_d D_H_module 2 rfl)) (Nat.le_of_ble_eq_true rfl) (Nat.le_of_ble_eq_true rfl) (Nat.le_of_ble_eq_true rfl) (show k + bc ≤ MC by omega) (show n + bs ≤ MS by omega) (xt_w1 hB.1 m_3c5d4c65) (xt_cdOf hB.1 m_3c5d4c65) (hts _ m_ba0734f5) hB hR hS hA (fun vv h2 bc3 bs3 kk3 nn3 H locs hk3 hn3 hq hEh2 hR hS => ?_) (fun XX ax h2 bc3 bs3 kk3 nn3 H locs hk3 hn3 hq hEh2 hex hR hS => ?_)
  · obtain ⟨r3, rfl, hw⟩ := hq
    have hw := hw hEh2
    have hE := hE.tr hEh2
    refine W.eq (g2 := F0 m 5 ls [.ref r3]) rfl ?_
    refine lv_astore_n hx hb (xb_d D_H_module 3 rfl) rfl hl (by decide) rfl (fun ls hl => ?_)
    have hl : lv_has ls 4 [(3, .ref r3), (0, .ref x0), (1, .int x1), (2, .int x2)] := hl
    refine lv_iload_n hx hb (xb_d D_H_module 4 rfl) rfl (lv_at hl 3 rfl) ?_
    by_cases hc4 : x2 = 0
    · have hw := hw.1 hc4
      refine xt_numi hc4 ?_
      refine lv_tableIn (off := 49) (tgt := 56) hx hb (xb_d D_H_module 5 rfl) (by decide +kernel) (by decide +kernel) (by decide +kernel) (by decide) ?_
      refine lv_aload_n hx hb (xb_d D_H_module 6 rfl) rfl (lv_at hl 0 rfl) ?_
      obtain ⟨hk5, hw⟩ := hw
      refine xb_getP (C := R_StackModule) (T := F_StackModule) (N := 19) hx hb 2 2 hts fin_StackModule hown hR hk5 (by decide) rfl (by decide) rfl (hts _ m_43e79519) (fun _ h9 => h9) (xb_d D_H_module 7 rfl) ?_
      obtain ⟨b6, eb6, hw⟩ := hw
      refine xb_some eb6 ?_
      obtain ⟨hk7, hw⟩ := hw
      refine xb_call0 (D := D) (A := A) (σ := σ) (h := h2) (d := 2) (maxL := 1) (rest := []) (av := [.ref b6]) (fun T hT X => by obtain ⟨cb9, ra9, rb9, rc9⟩ := xb_recv (ci := 1) hR rfl hk7 (by decide); exact xt_invV X hx hown (hts _ m_8bc4588a) (hts _ m_ded65609) (hts _ m_a4161156) (xt_sigOf (hts _ m_83ba3721)) nm_Row_lines (by rw [hT]; exact ra9) rb9 rc9 (g := F0 m 60 ls [.ref b6]) rfl (argsL := []) (rest := []) rfl rfl (by rw [hb]; exact (xb_d D_H_module 8 rfl))) (ok_Row_lines l hfl D A σ b6 h2 _ hw) (hml.trans hl.1.symm) (by rw [hb]; exact (xb_d D_H_module 8 rfl)) (Nat.le_of_ble_eq_true rfl) (Nat.le_of_ble_eq_true rfl) (Nat.le_of_ble_eq_true rfl) (show (k + kk3) ≤ MC by omega) (show (n + nn3) ≤ MS by omega) (xt_w1 hB.1 m_83ba3721) (xt_cdOf hB.1 m_83ba3721) (hts _ m_c1bef504) hB hR hS hA (fun vv h8 H locs hq hEh8 hR hS => ?_)
      obtain ⟨r9, rfl, hw⟩ := hq
      have hw := hw hEh8
      have hE := hE.tr hEh8
      refine W.eq (g2 := F0 m 63 ls [.int r9]) rfl ?_
      exact xb_iret bc3 bs3 hx hb hr hlocks (show (k + kk3) + bc3 ≤ MC by omega) (show (n + nn3) + bs3 ≤ MS by omega) hE hR hS (xb_d D_H_module 9 rfl) hw
    have hw := hw.2
    by_cases hc10 : x2 = 1
    · have hw := hw.1 hc10
      refine xt_numi hc10 ?_
      refine lv_tableIn (off := 57) (tgt := 64) hx hb (xb_d D_H_module 5 rfl) (by decide +kernel) (by decide +kernel) (by decide +kernel) (by decide) ?_
      refine lv_aload_n hx hb (xb_d D_H_module 10 rfl) rfl (lv_at hl 0 rfl) ?_
      obtain ⟨hk11, hw⟩ := hw
      refine xb_getP (C := R_StackModule) (T := F_StackModule) (N := 19) hx hb 2 3 hts fin_StackModule hown hR hk11 (by decide) rfl (by decide) rfl (hts _ m_02b1de98) (fun _ h9 => h9) (xb_d D_H_module 11 rfl) ?_
      obtain ⟨b12, eb12, hw⟩ := hw
      refine xb_some eb12 ?_
      obtain ⟨hk13, hw⟩ := hw
      refine xb_call0 (D := D) (A := A) (σ := σ) (h := h2) (d := 2) (maxL := 1) (rest := []) (av := [.ref b12]) (fun T hT X => by obtain ⟨cb9, ra9, rb9, rc9⟩ := xb_recv (ci := 1) hR rfl hk13 (by decide); exact xt_invV X hx hown (hts _ m_8bc4588a) (hts _ m_ded65609) (hts _ m_a4161156) (xt_sigOf (hts _ m_83ba3721)) nm_Row_lines (by rw [hT]; exact ra9) rb9 rc9 (g := F0 m 68 ls [.ref b12]) rfl (argsL := []) (rest := []) rfl rfl (by rw [hb]; exact (xb_d D_H_module 12 rfl))) (ok_Row_lines l hfl D A σ b12 h2 _ hw) (hml.trans hl.1.symm) (by rw [hb]; exact (xb_d D_H_module 12 rfl)) (Nat.le_of_ble_eq_true rfl) (Nat.le_of_ble_eq_true rfl) (Nat.le_of_ble_eq_true rfl) (show (k + kk3) ≤ MC by omega) (show (n + nn3) ≤ MS by omega) (xt_w1 hB.1 m_83ba3721) (xt_cdOf hB.1 m_83ba3721) (hts _ m_c1bef504) hB hR hS hA (fun vv h14 H locs hq hEh14 hR hS => ?_)
      obtain ⟨r15, rfl, hw⟩ := hq
      have hw := hw hEh14
      have hE := hE.tr hEh14
      refine W.eq (g2 := F0 m 71 ls [.int r15]) rfl ?_
      exact xb_iret bc3 bs3 hx hb hr hlocks (show (k + kk3) + bc3 ≤ MC by omega) (show (n + nn3) + bs3 ≤ MS by omega) hE hR hS (xb_d D_H_module 13 rfl) hw
    have hw := hw.2
    by_cases hc16 : x2 = 2
    · have hw := hw.1 hc16
      refine xt_numi hc16 ?_
      refine lv_tableIn (off := 65) (tgt := 72) hx hb (xb_d D_H_module 5 rfl) (by decide +kernel) (by decide +kernel) (by decide +kernel) (by decide) ?_
      refine lv_aload_n hx hb (xb_d D_H_module 14 rfl) rfl (lv_at hl 0 rfl) ?_
      obtain ⟨hk17, hw⟩ := hw
      refine xb_getP (C := R_StackModule) (T := F_StackModule) (N := 19) hx hb 2 4 hts fin_StackModule hown hR hk17 (by decide) rfl (by decide) rfl (hts _ m_81f120f6) (fun _ h9 => h9) (xb_d D_H_module 15 rfl) ?_
      obtain ⟨b18, eb18, hw⟩ := hw
      refine xb_some eb18 ?_
      obtain ⟨hk19, hw⟩ := hw
      refine xb_call0 (D := D) (A := A) (σ := σ) (h := h2) (d := 2) (maxL := 1) (rest := []) (av := [.ref b18]) (fun T hT X => by obtain ⟨cb9, ra9, rb9, rc9⟩ := xb_recv (ci := 1) hR rfl hk19 (by decide); exact xt_invV X hx hown (hts _ m_8bc4588a) (hts _ m_ded65609) (hts _ m_a4161156) (xt_sigOf (hts _ m_83ba3721)) nm_Row_lines (by rw [hT]; exact ra9) rb9 rc9 (g := F0 m 76 ls [.ref b18]) rfl (argsL := []) (rest := []) rfl rfl (by rw [hb]; exact (xb_d D_H_module 16 rfl))) (ok_Row_lines l hfl D A σ b18 h2 _ hw) (hml.trans hl.1.symm) (by rw [hb]; exact (xb_d D_H_module 16 rfl)) (Nat.le_of_ble_eq_true rfl) (Nat.le_of_ble_eq_true rfl) (Nat.le_of_ble_eq_true rfl) (show (k + kk3) ≤ MC by omega) (show (n + nn3) ≤ MS by omega) (xt_w1 hB.1 m_83ba3721) (xt_cdOf hB.1 m_83ba3721) (hts _ m_c1bef504) hB hR hS hA (fun vv h20 H locs hq hEh20 hR hS => ?_)
      obtain ⟨r21, rfl, hw⟩ := hq
      have hw := hw hEh20
      have hE := hE.tr hEh20
      refine W.eq (g2 := F0 m 79 ls [.int r21]) rfl ?_
      exact xb_iret bc3 bs3 hx hb hr hlocks (show (k + kk3) + bc3 ≤ MC by omega) (show (n + nn3) + bs3 ≤ MS by omega) hE hR hS (xb_d D_H_module 17 rfl) hw
    have hw := hw.2
    by_cases hc22 : x2 = 3
    · have hw := hw.1 hc22
      refine xt_numi hc22 ?_
      refine lv_tableIn (off := 73) (tgt := 80) hx hb (xb_d D_H_module 5 rfl) (by decide +kernel) (by decide +kernel) (by decide +kernel) (by decide) ?_
      refine lv_aload_n hx hb (xb_d D_H_module 18 rfl) rfl (lv_at hl 0 rfl) ?_
      obtain ⟨hk23, hw⟩ := hw
      refine xb_getP (C := R_StackModule) (T := F_StackModule) (N := 19) hx hb 2 5 hts fin_StackModule hown hR hk23 (by decide) rfl (by decide) rfl (hts _ m_8737856f) (fun _ h9 => h9) (xb_d D_H_module 19 rfl) ?_
      obtain ⟨b24, eb24, hw⟩ := hw
      refine xb_some eb24 ?_
      obtain ⟨hk25, hw⟩ := hw
      refine xb_call0 (D := D) (A := A) (σ := σ) (h := h2) (d := 2) (maxL := 1) (rest := []) (av := [.ref b24]) (fun T hT X => by obtain ⟨cb9, ra9, rb9, rc9⟩ := xb_recv (ci := 1) hR rfl hk25 (by decide); exact xt_invV X hx hown (hts _ m_8bc4588a) (hts _ m_ded65609) (hts _ m_a4161156) (xt_sigOf (hts _ m_83ba3721)) nm_Row_lines (by rw [hT]; exact ra9) rb9 rc9 (g := F0 m 84 ls [.ref b24]) rfl (argsL := []) (rest := []) rfl rfl (by rw [hb]; exact (xb_d D_H_module 20 rfl))) (ok_Row_lines l hfl D A σ b24 h2 _ hw) (hml.trans hl.1.symm) (by rw [hb]; exact (xb_d D_H_module 20 rfl)) (Nat.le_of_ble_eq_true rfl) (Nat.le_of_ble_eq_true rfl) (Nat.le_of_ble_eq_true rfl) (show (k + kk3) ≤ MC by omega) (show (n + nn3) ≤ MS by omega) (xt_w1 hB.1 m_83ba3721) (xt_cdOf hB.1 m_83ba3721) (hts _ m_c1bef504) hB hR hS hA (fun vv h26 H locs hq hEh26 hR hS => ?_)
      obtain ⟨r27, rfl, hw⟩ := hq
      have hw := hw hEh26
      have hE := hE.tr hEh26
      refine W.eq (g2 := F0 m 87 ls [.int r27]) rfl ?_
      exact xb_iret bc3 bs3 hx hb hr hlocks (show (k + kk3) + bc3 ≤ MC by omega) (show (n + nn3) + bs3 ≤ MS by omega) hE hR hS (xb_d D_H_module 21 rfl) hw
    have hw := hw.2
    by_cases hc28 : x2 = 4
    · have hw := hw.1 hc28
      refine xt_numi hc28 ?_
      refine lv_tableIn (off := 81) (tgt := 88) hx hb (xb_d D_H_module 5 rfl) (by decide +kernel) (by decide +kernel) (by decide +kernel) (by decide) ?_
      refine lv_aload_n hx hb (xb_d D_H_module 22 rfl) rfl (lv_at hl 0 rfl) ?_
      obtain ⟨hk29, hw⟩ := hw
      refine xb_getP (C := R_StackModule) (T := F_StackModule) (N := 19) hx hb 2 6 hts fin_StackModule hown hR hk29 (by decide) rfl (by decide) rfl (hts _ m_bd7bb30d) (fun _ h9 => h9) (xb_d D_H_module 23 rfl) ?_
      obtain ⟨b30, eb30, hw⟩ := hw
      refine xb_some eb30 ?_
      obtain ⟨hk31, hw⟩ := hw
      refine xb_call0 (D := D) (A := A) (σ := σ) (h := h2) (d := 2) (maxL := 1) (rest := []) (av := [.ref b30]) (fun T hT X => by obtain ⟨cb9, ra9, rb9, rc9⟩ := xb_recv (ci := 1) hR rfl hk31 (by decide); exact xt_invV X hx hown (hts _ m_8bc4588a) (hts _ m_ded65609) (hts _ m_a4161156) (xt_sigOf (hts _ m_83ba3721)) nm_Row_lines (by rw [hT]; exact ra9) rb9 rc9 (g := F0 m 92 ls [.ref b30]) rfl (argsL := []) (rest := []) rfl rfl (by rw [hb]; exact (xb_d D_H_module 24 rfl))) (ok_Row_lines l hfl D A σ b30 h2 _ hw) (hml.trans hl.1.symm) (by rw [hb]; exact (xb_d D_H_module 24 rfl)) (Nat.le_of_ble_eq_true rfl) (Nat.le_of_ble_eq_true rfl) (Nat.le_of_ble_eq_true rfl) (show (k + kk3) ≤ MC by omega) (show (n + nn3) ≤ MS by omega) (xt_w1 hB.1 m_83ba3721) (xt_cdOf hB.1 m_83ba3721) (hts _ m_c1bef504) hB hR hS hA (fun vv h32 H locs hq hEh32 hR hS => ?_)
      obtain ⟨r33, rfl, hw⟩ := hq
      have hw := hw hEh32
      have hE := hE.tr hEh32
      refine W.eq (g2 := F0 m 95 ls [.int r33]) rfl ?_
      exact xb_iret bc3 bs3 hx hb hr hlocks (show (k + kk3) + bc3 ≤ MC by omega) (show (n + nn3) + bs3 ≤ MS by omega) hE hR hS (xb_d D_H_module 25 rfl) hw
    have hw := hw.2
    by_cases hc34 : x2 = 5
    · have hw := hw.1 hc34
      refine xt_numi hc34 ?_
      refine lv_tableIn (off := 89) (tgt := 96) hx hb (xb_d D_H_module 5 rfl) (by decide +kernel) (by decide +kernel) (by decide +kernel) (by decide) ?_
      refine lv_aload_n hx hb (xb_d D_H_module 26 rfl) rfl (lv_at hl 0 rfl) ?_
      obtain ⟨hk35, hw⟩ := hw
      refine xb_getP (C := R_StackModule) (T := F_StackModule) (N := 19) hx hb 2 7 hts fin_StackModule hown hR hk35 (by decide) rfl (by decide) rfl (hts _ m_0be66937) (fun _ h9 => h9) (xb_d D_H_module 27 rfl) ?_
      obtain ⟨b36, eb36, hw⟩ := hw
      refine xb_some eb36 ?_
      obtain ⟨hk37, hw⟩ := hw
      refine xb_call0 (D := D) (A := A) (σ := σ) (h := h2) (d := 2) (maxL := 1) (rest := []) (av := [.ref b36]) (fun T hT X => by obtain ⟨cb9, ra9, rb9, rc9⟩ := xb_recv (ci := 1) hR rfl hk37 (by decide); exact xt_invV X hx hown (hts _ m_8bc4588a) (hts _ m_ded65609) (hts _ m_a4161156) (xt_sigOf (hts _ m_83ba3721)) nm_Row_lines (by rw [hT]; exact ra9) rb9 rc9 (g := F0 m 100 ls [.ref b36]) rfl (argsL := []) (rest := []) rfl rfl (by rw [hb]; exact (xb_d D_H_module 28 rfl))) (ok_Row_lines l hfl D A σ b36 h2 _ hw) (hml.trans hl.1.symm) (by rw [hb]; exact (xb_d D_H_module 28 rfl)) (Nat.le_of_ble_eq_true rfl) (Nat.le_of_ble_eq_true rfl) (Nat.le_of_ble_eq_true rfl) (show (k + kk3) ≤ MC by omega) (show (n + nn3) ≤ MS by omega) (xt_w1 hB.1 m_83ba3721) (xt_cdOf hB.1 m_83ba3721) (hts _ m_c1bef504) hB hR hS hA (fun vv h38 H locs hq hEh38 hR hS => ?_)
      obtain ⟨r39, rfl, hw⟩ := hq
      have hw := hw hEh38
      have hE := hE.tr hEh38
      refine W.eq (g2 := F0 m 103 ls [.int r39]) rfl ?_
      exact xb_iret bc3 bs3 hx hb hr hlocks (show (k + kk3) + bc3 ≤ MC by omega) (show (n + nn3) + bs3 ≤ MS by omega) hE hR hS (xb_d D_H_module 29 rfl) hw
    have hw := hw.2
    by_cases hc40 : x2 = 6
    · have hw := hw.1 hc40
      refine xt_numi hc40 ?_
      refine lv_tableIn (off := 97) (tgt := 104) hx hb (xb_d D_H_module 5 rfl) (by decide +kernel) (by decide +kernel) (by decide +kernel) (by decide) ?_
      refine lv_aload_n hx hb (xb_d D_H_module 30 rfl) rfl (lv_at hl 0 rfl) ?_
      obtain ⟨hk41, hw⟩ := hw
      refine xb_getP (C := R_StackModule) (T := F_StackModule) (N := 19) hx hb 2 8 hts fin_StackModule hown hR hk41 (by decide) rfl (by decide) rfl (hts _ m_47aa209b) (fun _ h9 => h9) (xb_d D_H_module 31 rfl) ?_
      obtain ⟨b42, eb42, hw⟩ := hw
      refine xb_some eb42 ?_
      obtain ⟨hk43, hw⟩ := hw
      refine xb_call0 (D := D) (A := A) (σ := σ) (h := h2) (d := 2) (maxL := 1) (rest := []) (av := [.ref b42]) (fun T hT X => by obtain ⟨cb9, ra9, rb9, rc9⟩ := xb_recv (ci := 1) hR rfl hk43 (by decide); exact xt_invV X hx hown (hts _ m_8bc4588a) (hts _ m_ded65609) (hts _ m_a4161156) (xt_sigOf (hts _ m_83ba3721)) nm_Row_lines (by rw [hT]; exact ra9) rb9 rc9 (g := F0 m 108 ls [.ref b42]) rfl (argsL := []) (rest := []) rfl rfl (by rw [hb]; exact (xb_d D_H_module 32 rfl))) (ok_Row_lines l hfl D A σ b42 h2 _ hw) (hml.trans hl.1.symm) (by rw [hb]; exact (xb_d D_H_module 32 rfl)) (Nat.le_of_ble_eq_true rfl) (Nat.le_of_ble_eq_true rfl) (Nat.le_of_ble_eq_true rfl) (show (k + kk3) ≤ MC by omega) (show (n + nn3) ≤ MS by omega) (xt_w1 hB.1 m_83ba3721) (xt_cdOf hB.1 m_83ba3721) (hts _ m_c1bef504) hB hR hS hA (fun vv h44 H locs hq hEh44 hR hS => ?_)
      obtain ⟨r45, rfl, hw⟩ := hq
      have hw := hw hEh44
      have hE := hE.tr hEh44
      refine W.eq (g2 := F0 m 111 ls [.int r45]) rfl ?_
      exact xb_iret bc3 bs3 hx hb hr hlocks (show (k + kk3) + bc3 ≤ MC by omega) (show (n + nn3) + bs3 ≤ MS by omega) hE hR hS (xb_d D_H_module 33 rfl) hw
    have hw := hw.2
    by_cases hc46 : x2 = 7
    · have hw := hw.1 hc46
      refine xt_numi hc46 ?_
      refine lv_tableIn (off := 105) (tgt := 112) hx hb (xb_d D_H_module 5 rfl) (by decide +kernel) (by decide +kernel) (by decide +kernel) (by decide) ?_
      refine lv_aload_n hx hb (xb_d D_H_module 34 rfl) rfl (lv_at hl 0 rfl) ?_
      obtain ⟨hk47, hw⟩ := hw
      refine xb_getP (C := R_StackModule) (T := F_StackModule) (N := 19) hx hb 2 9 hts fin_StackModule hown hR hk47 (by decide) rfl (by decide) rfl (hts _ m_3a65a0f1) (fun _ h9 => h9) (xb_d D_H_module 35 rfl) ?_
      obtain ⟨b48, eb48, hw⟩ := hw
      refine xb_some eb48 ?_
      obtain ⟨hk49, hw⟩ := hw
      refine xb_call0 (D := D) (A := A) (σ := σ) (h := h2) (d := 2) (maxL := 1) (rest := []) (av := [.ref b48]) (fun T hT X => by obtain ⟨cb9, ra9, rb9, rc9⟩ := xb_recv (ci := 1) hR rfl hk49 (by decide); exact xt_invV X hx hown (hts _ m_8bc4588a) (hts _ m_ded65609) (hts _ m_a4161156) (xt_sigOf (hts _ m_83ba3721)) nm_Row_lines (by rw [hT]; exact ra9) rb9 rc9 (g := F0 m 116 ls [.ref b48]) rfl (argsL := []) (rest := []) rfl rfl (by rw [hb]; exact (xb_d D_H_module 36 rfl))) (ok_Row_lines l hfl D A σ b48 h2 _ hw) (hml.trans hl.1.symm) (by rw [hb]; exact (xb_d D_H_module 36 rfl)) (Nat.le_of_ble_eq_true rfl) (Nat.le_of_ble_eq_true rfl) (Nat.le_of_ble_eq_true rfl) (show (k + kk3) ≤ MC by omega) (show (n + nn3) ≤ MS by omega) (xt_w1 hB.1 m_83ba3721) (xt_cdOf hB.1 m_83ba3721) (hts _ m_c1bef504) hB hR hS hA (fun vv h50 H locs hq hEh50 hR hS => ?_)
      obtain ⟨r51, rfl, hw⟩ := hq
      have hw := hw hEh50
      have hE := hE.tr hEh50
      refine W.eq (g2 := F0 m 119 ls [.int r51]) rfl ?_
      exact xb_iret bc3 bs3 hx hb hr hlocks (show (k + kk3) + bc3 ≤ MC by omega) (show (n + nn3) + bs3 ≤ MS by omega) hE hR hS (xb_d D_H_module 37 rfl) hw
    have hw := hw.2
    by_cases hc52 : x2 = 8
    · have hw := hw.1 hc52
      refine xt_numi hc52 ?_
      refine lv_tableIn (off := 113) (tgt := 120) hx hb (xb_d D_H_module 5 rfl) (by decide +kernel) (by decide +kernel) (by decide +kernel) (by decide) ?_
      refine lv_aload_n hx hb (xb_d D_H_module 38 rfl) rfl (lv_at hl 0 rfl) ?_
      obtain ⟨hk53, hw⟩ := hw
      refine xb_getP (C := R_StackModule) (T := F_StackModule) (N := 19) hx hb 2 13 hts fin_StackModule hown hR hk53 (by decide) rfl (by decide) rfl (hts _ m_e5cd153e) (fun _ h9 => h9) (xb_d D_H_module 39 rfl) ?_
      obtain ⟨b54, eb54, hw⟩ := hw
      refine xb_some eb54 ?_
      obtain ⟨hk55, hw⟩ := hw
      refine xb_call0 (D := D) (A := A) (σ := σ) (h := h2) (d := 2) (maxL := 1) (rest := []) (av := [.ref b54]) (fun T hT X => by obtain ⟨cb9, ra9, rb9, rc9⟩ := xb_recv (ci := 1) hR rfl hk55 (by decide); exact xt_invV X hx hown (hts _ m_8bc4588a) (hts _ m_ded65609) (hts _ m_a4161156) (xt_sigOf (hts _ m_83ba3721)) nm_Row_lines (by rw [hT]; exact ra9) rb9 rc9 (g := F0 m 124 ls [.ref b54]) rfl (argsL := []) (rest := []) rfl rfl (by rw [hb]; exact (xb_d D_H_module 40 rfl))) (ok_Row_lines l hfl D A σ b54 h2 _ hw) (hml.trans hl.1.symm) (by rw [hb]; exact (xb_d D_H_module 40 rfl)) (Nat.le_of_ble_eq_true rfl) (Nat.le_of_ble_eq_true rfl) (Nat.le_of_ble_eq_true rfl) (show (k + kk3) ≤ MC by omega) (show (n + nn3) ≤ MS by omega) (xt_w1 hB.1 m_83ba3721) (xt_cdOf hB.1 m_83ba3721) (hts _ m_c1bef504) hB hR hS hA (fun vv h56 H locs hq hEh56 hR hS => ?_)
      obtain ⟨r57, rfl, hw⟩ := hq
      have hw := hw hEh56
      have hE := hE.tr hEh56
      refine W.eq (g2 := F0 m 127 ls [.int r57]) rfl ?_
      exact xb_iret bc3 bs3 hx hb hr hlocks (show (k + kk3) + bc3 ≤ MC by omega) (show (n + nn3) + bs3 ≤ MS by omega) hE hR hS (xb_d D_H_module 41 rfl) hw
    have hw := hw.2
    have hw := hw hc4 hc10 hc16 hc22 hc28 hc34 hc40 hc46 hc52
    refine lv_tableOut (tgt := 128) hx hb (xb_d D_H_module 5 rfl) (by have a0 := xb_nl (0) 0 (by decide) hc4; have a1 := xb_nl (1) 1 (by decide) hc10; have a2 := xb_nl (2) 2 (by decide) hc16; have a3 := xb_nl (3) 3 (by decide) hc22; have a4 := xb_nl (4) 4 (by decide) hc28; have a5 := xb_nl (5) 5 (by decide) hc34; have a6 := xb_nl (6) 6 (by decide) hc40; have a7 := xb_nl (7) 7 (by decide) hc46; have a8 := xb_nl (8) 8 (by decide) hc52; omega) (by decide) ?_
    obtain ⟨hc9, hs9, hw⟩ := hw
    exact xb_throw (names := ["java/lang/RuntimeException", "java/lang/Exception"]) hx hb (hml.trans hl.1.symm) hlocks hfl hown xsite_94f80c hB hS (show (k + kk3) + bc3 ≤ MC by omega) (show (n + nn3) + bs3 ≤ MS by omega) hc9 hs9 (by decide) (Nat.le_of_ble_eq_true rfl) htab (xb_d D_H_module 42 rfl) (xb_d D_H_module 43 rfl) xt_l2 (xb_d D_H_module 44 rfl) (xb_d D_H_module 45 rfl) (xb_d D_H_module 46 rfl) hE hR hw
  · exact xb_pass hlocks (fun x hx9 => by rw [htab] at hx9; first | (cases hx9; done) | (simp [tableOf] at hx9; subst hx9; decide) | (simp [tableOf] at hx9; rcases hx9 with rfl | rfl <;> decide) | (simp [tableOf] at hx9; rcases hx9 with rfl | rfl | rfl <;> decide)) (show (k + kk3) + bc3 ≤ MC by omega) (show (n + nn3) + bs3 ≤ MS by omega) (hE.tr hEh2) hR hS hex hq

theorem m_418fd981 : (.fieldLink "StackHost" 287 "StackHost$Memory" "pageCount" "I" : Cond) ∈ xt_tbl := xt_in (xt_t7 (List.mem_of_getElem? (i := 81) (by decide +kernel))) (by decide +kernel)
set_option maxRecDepth 100000 in
def T_H_pages : List (Nat × Instr × Nat) := [(0, .aload_n 0, 1), (1, .iload_n 1, 1), (2, .invokevirtual 200, 3), (5, .getfield 283, 3), (8, .astore_n 2, 1), (9, .aload_n 2, 1), (10, .ifnonnull 7, 3), (13, .iconst (-1), 1), (14, .goto 7, 3), (17, .aload_n 2, 1), (18, .getfield 287, 3), (21, .ireturn, 1)]
theorem D_H_pages : ∀ q ∈ T_H_pages, decode b_H_pages q.1 = .ok (q.2.1, q.2.2) := by decide +kernel

set_option maxHeartbeats 4000000 in
set_option maxRecDepth 100000 in
theorem am_H_pages_L21 (l : Launch) (hfl : l.flags = pinnedFlags ++ [noTraceFlag]) (D : va_G) (A : Nat → Prop) (σ MC MS : Nat) (h0 : xb_H) (Qr : Int32 → xb_H → Nat → Nat → Prop) (Qt : String → xb_H → Nat → Nat → Prop) (y0 : Int32) (h : xb_H) (bc : Nat) (bs : Nat) (hw : w_H_pages_L21 Qr Qt y0 h bc bs) : xb_am l D A σ 3 MC MS h0 (fun v h bc bs => ∃ r, v = some (.int r) ∧ Qr r h bc bs) Qt y_H_pages.cls y_H_pages.name b_H_pages 3 ([] : List ExceptionTableEntry) (some .int) 21 [] [.int y0] h bc bs := by
  unfold w_H_pages_L21 at hw
  intro p e s m args below meth c hC H locs ls k n hE hl hR hS hk hn
  obtain ⟨hx, hb, hown, hlocks, htab, hml, hr, hB, hA, hnm⟩ := id hC
  have hts := hB.1.1.at args
  exact xb_iret bc bs hx hb hr hlocks (show k + bc ≤ MC by omega) (show n + bs ≤ MS by omega) hE hR hS (xb_d D_H_pages 11 rfl) hw

set_option maxHeartbeats 4000000 in
set_option maxRecDepth 100000 in
theorem ok_H_pages (l : Launch) (hfl : l.flags = pinnedFlags ++ [noTraceFlag]) (D : va_G) (A : Nat → Prop) (σ : Nat) (x0 : Nat) (x1 : Int32) (h : xb_H) (bc : Nat) (bs : Nat) (Qr : Int32 → xb_H → Nat → Nat → Prop) (Qt : String → xb_H → Nat → Nat → Prop) (hw : w_H_pages x0 x1 h bc bs Qr Qt) : xb_Met l y_H_pages [.code y_H_pages b_H_pages 3 (some .int)] (xb_rm 3 bc bs) (xb_Pc D A σ h [.ref x0, .int x1]) (xb_Qc D A h bc bs (fun v h bc bs => ∃ r, v = some (.int r) ∧ Qr r h bc bs) Qt) A := by
  refine xb_ofAm (cc := b_H_pages) (by decide) (Nat.le_of_ble_eq_true rfl) ?_
  unfold w_H_pages at hw
  show xb_am l D A σ 3 bc bs h (fun v h bc bs => ∃ r, v = some (.int r) ∧ Qr r h bc bs) Qt y_H_pages.cls y_H_pages.name b_H_pages 3 ([] : List ExceptionTableEntry) (some .int) 0 [(0, .ref x0), (1, .int x1)] [] h bc bs
  obtain ⟨MC, hMC⟩ : ∃ x, x = bc := ⟨_, rfl⟩
  obtain ⟨MS, hMS⟩ : ∃ x, x = bs := ⟨_, rfl⟩
  rw [show xb_am l D A σ 3 bc bs = xb_am l D A σ 3 MC MS by rw [hMC, hMS]]
  obtain ⟨h0, hh0⟩ : ∃ x, x = h := ⟨_, rfl⟩
  rw [show xb_am l D A σ 3 MC MS h = xb_am l D A σ 3 MC MS h0 by rw [hh0]]
  intro p e s m args below meth c hC H locs ls k n hE hl hR hS hk hn
  obtain ⟨hx, hb, hown, hlocks, htab, hml, hr, hB, hA, hnm⟩ := id hC
  have hts := hB.1.1.at args
  refine lv_aload_n hx hb (xb_d D_H_pages 0 rfl) rfl (lv_at hl 0 rfl) ?_
  refine lv_iload_n hx hb (xb_d D_H_pages 1 rfl) rfl (lv_at hl 1 rfl) ?_
  obtain ⟨hk1, hw⟩ := hw
  refine xb_call (D := D) (A := A) (σ := σ) (h := h) (d := 2) (mc := bc) (ms := bs) (maxL := 2) (rest := []) (av := [.ref x0, .int x1]) (fun T hT X => by obtain ⟨cb9, ra9, rb9, rc9⟩ := xb_recv (ci := 0) hR rfl hk1 (by decide); exact xt_invV X hx hown (hts _ m_63e9a525) (hts _ m_93abae91) (hts _ m_f44e4f6a) (xt_sigOf (hts _ m_925de4f3)) nm_H_instanceNumbered (by rw [hT]; exact ra9) rb9 rc9 (g := F0 m 2 ls [.int x1, .ref x0]) rfl (argsL := [.int x1]) (rest := []) rfl rfl (by rw [hb]; exact (xb_d D_H_pages 2 rfl))) (ok_H_instanceNumbered l hfl D A σ x0 x1 h bc bs _ _ hw) (hml.trans hl.1.symm) (by rw [hb]; exact (xb_d D_H_pages 2 rfl)) (Nat.le_of_ble_eq_true rfl) (Nat.le_of_ble_eq_true rfl) (Nat.le_of_ble_eq_true rfl) (show k + bc ≤ MC by omega) (show n + bs ≤ MS by omega) (xt_w1 hB.1 m_925de4f3) (xt_cdOf hB.1 m_925de4f3) (hts _ m_ba0734f5) hB hR hS hA (fun vv h2 bc3 bs3 kk3 nn3 H locs hk3 hn3 hq hEh2 hR hS => ?_) (fun XX ax h2 bc3 bs3 kk3 nn3 H locs hk3 hn3 hq hEh2 hex hR hS => ?_)
  · obtain ⟨r3, rfl, hw⟩ := hq
    have hw := hw hEh2
    have hE := hE.tr hEh2
    refine W.eq (g2 := F0 m 5 ls [.ref r3]) rfl ?_
    obtain ⟨hk4, hw⟩ := hw
    refine xb_getP (C := R_Instance) (T := F_Instance) (N := 8) hx hb 10 7 hts fin_Instance hown hR hk4 (by decide) rfl (by decide) rfl (hts _ m_8e5ca99a) (fun _ h9 => h9) (xb_d D_H_pages 3 rfl) ?_
    refine xb_split (fun ho => ?_) (fun b5 ho => ?_)
    · have hw := hw.1 ho
      refine lv_astore_nN hx hb (xb_d D_H_pages 4 rfl) rfl hl (by decide) rfl (fun ls hl => ?_)
      have hl : lv_has ls 3 [(2, .null), (0, .ref x0), (1, .int x1)] := hl
      refine lv_aload_nN hx hb (xb_d D_H_pages 5 rfl) rfl (lv_at hl 0 rfl) ?_
      refine lv_ifnonnullN hx hb (xb_d D_H_pages 6 rfl) ?_
      refine lv_iconst (v := (-1)) hx hb (xb_d D_H_pages 7 rfl) (by decide) ?_
      refine lv_goto (tgt := 21) hx hb (xb_d D_H_pages 8 rfl) rfl ?_
      exact am_H_pages_L21 l hfl D A σ MC MS h0 Qr Qt (-1) h2 bc3 bs3 hw p e s m args below meth c hC H locs ls (k + kk3) (n + nn3) hE (lv_sub hl [] rfl) hR hS (by omega) (by omega)
    · have hw := hw.2 b5 ho
      refine lv_astore_n hx hb (xb_d D_H_pages 4 rfl) rfl hl (by decide) rfl (fun ls hl => ?_)
      have hl : lv_has ls 3 [(2, .ref b5), (0, .ref x0), (1, .int x1)] := hl
      refine lv_aload_n hx hb (xb_d D_H_pages 5 rfl) rfl (lv_at hl 0 rfl) ?_
      refine lv_ifnonnull (tgt := 17) hx hb (xb_d D_H_pages 6 rfl) rfl ?_
      refine lv_aload_n hx hb (xb_d D_H_pages 9 rfl) rfl (lv_at hl 0 rfl) ?_
      obtain ⟨hk6, hw⟩ := hw
      refine xb_getI (C := R_Memory) (T := F_Memory) (N := 4) hx hb 12 3 hts fin_Memory hown hR hk6 (by decide) rfl (by decide) rfl (hts _ m_418fd981) (fun _ h9 => h9) (xb_d D_H_pages 10 rfl) ?_
      exact am_H_pages_L21 l hfl D A σ MC MS h0 Qr Qt (xb_i h2 b5 3) h2 bc3 bs3 hw p e s m args below meth c hC H locs ls (k + kk3) (n + nn3) hE (lv_sub hl [] rfl) hR hS (by omega) (by omega)
  · exact xb_pass hlocks (fun x hx9 => by rw [htab] at hx9; first | (cases hx9; done) | (simp [tableOf] at hx9; subst hx9; decide) | (simp [tableOf] at hx9; rcases hx9 with rfl | rfl <;> decide) | (simp [tableOf] at hx9; rcases hx9 with rfl | rfl | rfl <;> decide)) (show (k + kk3) + bc3 ≤ MC by omega) (show (n + nn3) + bs3 ≤ MS by omega) (hE.tr hEh2) hR hS hex hq

set_option maxRecDepth 100000 in
def T_H_refuseExportBeyond : List (Nat × Instr × Nat) := [(0, .iload_n 2, 1), (1, .ifCond .lt 14, 3), (4, .iload_n 2, 1), (5, .aload_n 1, 1), (6, .getfield 148, 3), (9, .invokevirtual 129, 3), (12, .if_icmp .lt 13, 3), (15, .new 117, 3), (18, .dup, 1), (19, .ldc 240, 2), (21, .invokespecial 121, 3), (24, .athrow, 1), (25, .return_, 1)]
theorem D_H_refuseExportBeyond : ∀ q ∈ T_H_refuseExportBeyond, decode b_H_refuseExportBeyond q.1 = .ok (q.2.1, q.2.2) := by decide +kernel

set_option maxHeartbeats 4000000 in
set_option maxRecDepth 100000 in
theorem am_H_refuseExportBeyond_L15 (l : Launch) (hfl : l.flags = pinnedFlags ++ [noTraceFlag]) (D : va_G) (A : Nat → Prop) (σ MC MS : Nat) (h0 : xb_H) (Qr : xb_H → Nat → Nat → Prop) (Qt : String → xb_H → Nat → Nat → Prop) (h : xb_H) (bc : Nat) (bs : Nat) (hw : w_H_refuseExportBeyond_L15 Qr Qt h bc bs) : xb_am l D A σ 3 MC MS h0 (fun v h bc bs => v = none ∧ Qr h bc bs) Qt y_H_refuseExportBeyond.cls y_H_refuseExportBeyond.name b_H_refuseExportBeyond 3 ([] : List ExceptionTableEntry) none 15 [] [] h bc bs := by
  unfold w_H_refuseExportBeyond_L15 at hw
  intro p e s m args below meth c hC H locs ls k n hE hl hR hS hk hn
  obtain ⟨hx, hb, hown, hlocks, htab, hml, hr, hB, hA, hnm⟩ := id hC
  have hts := hB.1.1.at args
  obtain ⟨hc9, hs9, hw⟩ := hw
  exact xb_throw (names := ["java/lang/RuntimeException", "java/lang/Exception"]) hx hb (hml.trans hl.1.symm) hlocks hfl hown xsite_3690c2 hB hS (show k + bc ≤ MC by omega) (show n + bs ≤ MS by omega) hc9 hs9 (by decide) (Nat.le_of_ble_eq_true rfl) htab (xb_d D_H_refuseExportBeyond 7 rfl) (xb_d D_H_refuseExportBeyond 8 rfl) xt_l2 (xb_d D_H_refuseExportBeyond 9 rfl) (xb_d D_H_refuseExportBeyond 10 rfl) (xb_d D_H_refuseExportBeyond 11 rfl) hE hR hw

set_option maxHeartbeats 4000000 in
set_option maxRecDepth 100000 in
theorem ok_H_refuseExportBeyond (l : Launch) (hfl : l.flags = pinnedFlags ++ [noTraceFlag]) (D : va_G) (A : Nat → Prop) (σ : Nat) (x0 : Nat) (x1 : Nat) (x2 : Int32) (h : xb_H) (bc : Nat) (bs : Nat) (Qr : xb_H → Nat → Nat → Prop) (Qt : String → xb_H → Nat → Nat → Prop) (hw : w_H_refuseExportBeyond x0 x1 x2 h bc bs Qr Qt) : xb_Met l y_H_refuseExportBeyond [.code y_H_refuseExportBeyond b_H_refuseExportBeyond 3 none] (xb_rm 3 bc bs) (xb_Pc D A σ h [.ref x0, .ref x1, .int x2]) (xb_Qc D A h bc bs (fun v h bc bs => v = none ∧ Qr h bc bs) Qt) A := by
  refine xb_ofAm (cc := b_H_refuseExportBeyond) (by decide) (Nat.le_of_ble_eq_true rfl) ?_
  unfold w_H_refuseExportBeyond at hw
  show xb_am l D A σ 3 bc bs h (fun v h bc bs => v = none ∧ Qr h bc bs) Qt y_H_refuseExportBeyond.cls y_H_refuseExportBeyond.name b_H_refuseExportBeyond 3 ([] : List ExceptionTableEntry) none 0 [(0, .ref x0), (1, .ref x1), (2, .int x2)] [] h bc bs
  obtain ⟨MC, hMC⟩ : ∃ x, x = bc := ⟨_, rfl⟩
  obtain ⟨MS, hMS⟩ : ∃ x, x = bs := ⟨_, rfl⟩
  rw [show xb_am l D A σ 3 bc bs = xb_am l D A σ 3 MC MS by rw [hMC, hMS]]
  obtain ⟨h0, hh0⟩ : ∃ x, x = h := ⟨_, rfl⟩
  rw [show xb_am l D A σ 3 MC MS h = xb_am l D A σ 3 MC MS h0 by rw [hh0]]
  intro p e s m args below meth c hC H locs ls k n hE hl hR hS hk hn
  obtain ⟨hx, hb, hown, hlocks, htab, hml, hr, hB, hA, hnm⟩ := id hC
  have hts := hB.1.1.at args
  refine lv_iload_n hx hb (xb_d D_H_refuseExportBeyond 0 rfl) rfl (lv_at hl 2 rfl) ?_
  refine lv_if_lt (tgt := 15) hx hb (xb_d D_H_refuseExportBeyond 1 rfl) rfl (fun hc1 => ?_) (fun hc1 => ?_)
  · have hw := hw.1 hc1
    exact am_H_refuseExportBeyond_L15 l hfl D A σ MC MS h0 Qr Qt h bc bs hw p e s m args below meth c hC H locs ls k n hE (lv_sub hl [] rfl) hR hS (by omega) (by omega)
  · have hw := hw.2 hc1
    refine lv_iload_n hx hb (xb_d D_H_refuseExportBeyond 2 rfl) rfl (lv_at hl 2 rfl) ?_
    refine lv_aload_n hx hb (xb_d D_H_refuseExportBeyond 3 rfl) rfl (lv_at hl 1 rfl) ?_
    obtain ⟨hk2, hw⟩ := hw
    refine xb_getP (C := R_StackModule) (T := F_StackModule) (N := 19) hx hb 2 8 hts fin_StackModule hown hR hk2 (by decide) rfl (by decide) rfl (hts _ m_47aa209b) (fun _ h9 => h9) (xb_d D_H_refuseExportBeyond 4 rfl) ?_
    obtain ⟨b3, eb3, hw⟩ := hw
    refine xb_some eb3 ?_
    obtain ⟨hk4, hw⟩ := hw
    refine xb_call0 (D := D) (A := A) (σ := σ) (h := h) (d := 2) (maxL := 1) (rest := [.int x2]) (av := [.ref b3]) (fun T hT X => by obtain ⟨cb9, ra9, rb9, rc9⟩ := xb_recv (ci := 1) hR rfl hk4 (by decide); exact xt_invV X hx hown (hts _ m_8bc4588a) (hts _ m_ded65609) (hts _ m_a4161156) (xt_sigOf (hts _ m_83ba3721)) nm_Row_lines (by rw [hT]; exact ra9) rb9 rc9 (g := F0 m 9 ls [.ref b3, .int x2]) rfl (argsL := []) (rest := [.int x2]) rfl rfl (by rw [hb]; exact (xb_d D_H_refuseExportBeyond 5 rfl))) (ok_Row_lines l hfl D A σ b3 h _ hw) (hml.trans hl.1.symm) (by rw [hb]; exact (xb_d D_H_refuseExportBeyond 5 rfl)) (Nat.le_of_ble_eq_true rfl) (Nat.le_of_ble_eq_true rfl) (Nat.le_of_ble_eq_true rfl) (show k ≤ MC by omega) (show n ≤ MS by omega) (xt_w1 hB.1 m_83ba3721) (xt_cdOf hB.1 m_83ba3721) (hts _ m_c1bef504) hB hR hS hA (fun vv h5 H locs hq hEh5 hR hS => ?_)
    obtain ⟨r6, rfl, hw⟩ := hq
    have hw := hw hEh5
    have hE := hE.tr hEh5
    refine W.eq (g2 := F0 m 12 ls [.int r6, .int x2]) rfl ?_
    refine lv_icmp_lt (tgt := 25) hx hb (xb_d D_H_refuseExportBeyond 6 rfl) rfl (fun hc7 => ?_) (fun hc7 => ?_)
    · have hw := hw.1 hc7
      exact xb_vret bc bs hx hb hr hlocks (show k + bc ≤ MC by omega) (show n + bs ≤ MS by omega) hE hR hS (xb_d D_H_refuseExportBeyond 12 rfl) hw
    · have hw := hw.2 hc7
      exact am_H_refuseExportBeyond_L15 l hfl D A σ MC MS h0 Qr Qt h5 bc bs hw p e s m args below meth c hC H locs ls k n hE (lv_sub hl [] rfl) hR hS (by omega) (by omega)

theorem m_bb17ee94 : (.fieldLink "StackHost" 161 "StackHost$StackModule" "bodies" "LStackHost$Row;" : Cond) ∈ xt_tbl := xt_in (xt_t3 (List.mem_of_getElem? (i := 102) (by decide +kernel))) (by decide +kernel)
theorem m_b0980f8b : (.methodLink "StackHost" 166 y_Row_at : Cond) ∈ xt_tbl := xt_in (xt_t6 (List.mem_of_getElem? (i := 99) (by decide +kernel))) (by decide +kernel)
theorem m_8e233096 : (.instanceMethod y_Row_at : Cond) ∈ xt_tbl := xt_in (xt_t4 (List.mem_of_getElem? (i := 101) (by decide +kernel))) (by decide +kernel)
theorem m_27eed10c : (.selects "StackHost$Row" y_Row_at y_Row_at : Cond) ∈ xt_tbl := xt_in (xt_t4 (List.mem_of_getElem? (i := 102) (by decide +kernel))) (by decide +kernel)
theorem m_ff1c70ae : (.code y_Row_at b_Row_at 3 (some .int) : Cond) ∈ xt_tbl := xt_in (xt_t4 (List.mem_of_getElem? (i := 103) (by decide +kernel))) (by decide +kernel)
theorem nm_Row_at : xt_nm y_Row_at 2 := ⟨by decide +kernel, by decide +kernel⟩
set_option maxRecDepth 100000 in
def T_H_room : List (Nat × Instr × Nat) := [(0, .aload_n 0, 1), (1, .iload_n 1, 1), (2, .invokevirtual 122, 3), (5, .astore_n 3, 1), (6, .iload_n 2, 1), (7, .ifCond .lt 14, 3), (10, .iload_n 2, 1), (11, .aload_n 3, 1), (12, .getfield 161, 3), (15, .invokevirtual 129, 3), (18, .if_icmp .lt 13, 3), (21, .new 117, 3), (24, .dup, 1), (25, .ldc 164, 2), (27, .invokespecial 121, 3), (30, .athrow, 1), (31, .aload_n 3, 1), (32, .getfield 161, 3), (35, .iload_n 2, 1), (36, .iconst 4, 1), (37, .invokevirtual 166, 3), (40, .ireturn, 1)]
theorem D_H_room : ∀ q ∈ T_H_room, decode b_H_room q.1 = .ok (q.2.1, q.2.2) := by decide +kernel

set_option maxHeartbeats 4000000 in
set_option maxRecDepth 100000 in
theorem am_H_room_L21 (l : Launch) (hfl : l.flags = pinnedFlags ++ [noTraceFlag]) (D : va_G) (A : Nat → Prop) (σ MC MS : Nat) (h0 : xb_H) (Qr : Int32 → xb_H → Nat → Nat → Prop) (Qt : String → xb_H → Nat → Nat → Prop) (h : xb_H) (bc : Nat) (bs : Nat) (hw : w_H_room_L21 Qr Qt h bc bs) : xb_am l D A σ 3 MC MS h0 (fun v h bc bs => ∃ r, v = some (.int r) ∧ Qr r h bc bs) Qt y_H_room.cls y_H_room.name b_H_room 4 ([] : List ExceptionTableEntry) (some .int) 21 [] [] h bc bs := by
  unfold w_H_room_L21 at hw
  intro p e s m args below meth c hC H locs ls k n hE hl hR hS hk hn
  obtain ⟨hx, hb, hown, hlocks, htab, hml, hr, hB, hA, hnm⟩ := id hC
  have hts := hB.1.1.at args
  obtain ⟨hc9, hs9, hw⟩ := hw
  exact xb_throw (names := ["java/lang/RuntimeException", "java/lang/Exception"]) hx hb (hml.trans hl.1.symm) hlocks hfl hown xsite_0904e0 hB hS (show k + bc ≤ MC by omega) (show n + bs ≤ MS by omega) hc9 hs9 (by decide) (Nat.le_of_ble_eq_true rfl) htab (xb_d D_H_room 11 rfl) (xb_d D_H_room 12 rfl) xt_l2 (xb_d D_H_room 13 rfl) (xb_d D_H_room 14 rfl) (xb_d D_H_room 15 rfl) hE hR hw

set_option maxHeartbeats 4000000 in
set_option maxRecDepth 100000 in
theorem ok_H_room (l : Launch) (hfl : l.flags = pinnedFlags ++ [noTraceFlag]) (D : va_G) (A : Nat → Prop) (σ : Nat) (x0 : Nat) (x1 : Int32) (x2 : Int32) (h : xb_H) (bc : Nat) (bs : Nat) (Qr : Int32 → xb_H → Nat → Nat → Prop) (Qt : String → xb_H → Nat → Nat → Prop) (hw : w_H_room x0 x1 x2 h bc bs Qr Qt) : xb_Met l y_H_room [.code y_H_room b_H_room 4 (some .int)] (xb_rm 3 bc bs) (xb_Pc D A σ h [.ref x0, .int x1, .int x2]) (xb_Qc D A h bc bs (fun v h bc bs => ∃ r, v = some (.int r) ∧ Qr r h bc bs) Qt) A := by
  refine xb_ofAm (cc := b_H_room) (by decide) (Nat.le_of_ble_eq_true rfl) ?_
  unfold w_H_room at hw
  show xb_am l D A σ 3 bc bs h (fun v h bc bs => ∃ r, v = some (.int r) ∧ Qr r h bc bs) Qt y_H_room.cls y_H_room.name b_H_room 4 ([] : List ExceptionTableEntry) (some .int) 0 [(0, .ref x0), (1, .int x1), (2, .int x2)] [] h bc bs
  obtain ⟨MC, hMC⟩ : ∃ x, x = bc := ⟨_, rfl⟩
  obtain ⟨MS, hMS⟩ : ∃ x, x = bs := ⟨_, rfl⟩
  rw [show xb_am l D A σ 3 bc bs = xb_am l D A σ 3 MC MS by rw [hMC, hMS]]
  obtain ⟨h0, hh0⟩ : ∃ x, x = h := ⟨_, rfl⟩
  rw [show xb_am l D A σ 3 MC MS h = xb_am l D A σ 3 MC MS h0 by rw [hh0]]
  intro p e s m args below meth c hC H locs ls k n hE hl hR hS hk hn
  obtain ⟨hx, hb, hown, hlocks, htab, hml, hr, hB, hA, hnm⟩ := id hC
  have hts := hB.1.1.at args
  refine lv_aload_n hx hb (xb_d D_H_room 0 rfl) rfl (lv_at hl 0 rfl) ?_
  refine lv_iload_n hx hb (xb_d D_H_room 1 rfl) rfl (lv_at hl 1 rfl) ?_
  obtain ⟨hk1, hw⟩ := hw
  refine xb_call (D := D) (A := A) (σ := σ) (h := h) (d := 2) (mc := bc) (ms := bs) (maxL := 2) (rest := []) (av := [.ref x0, .int x1]) (fun T hT X => by obtain ⟨cb9, ra9, rb9, rc9⟩ := xb_recv (ci := 0) hR rfl hk1 (by decide); exact xt_invV X hx hown (hts _ m_abdd1028) (hts _ m_38480b8a) (hts _ m_1e19a5c0) (xt_sigOf (hts _ m_3c5d4c65)) nm_H_moduleNumbered (by rw [hT]; exact ra9) rb9 rc9 (g := F0 m 2 ls [.int x1, .ref x0]) rfl (argsL := [.int x1]) (rest := []) rfl rfl (by rw [hb]; exact (xb_d D_H_room 2 rfl))) (ok_H_moduleNumbered l hfl D A σ x0 x1 h bc bs _ _ hw) (hml.trans hl.1.symm) (by rw [hb]; exact (xb_d D_H_room 2 rfl)) (Nat.le_of_ble_eq_true rfl) (Nat.le_of_ble_eq_true rfl) (Nat.le_of_ble_eq_true rfl) (show k + bc ≤ MC by omega) (show n + bs ≤ MS by omega) (xt_w1 hB.1 m_3c5d4c65) (xt_cdOf hB.1 m_3c5d4c65) (hts _ m_ba0734f5) hB hR hS hA (fun vv h2 bc3 bs3 kk3 nn3 H locs hk3 hn3 hq hEh2 hR hS => ?_) (fun XX ax h2 bc3 bs3 kk3 nn3 H locs hk3 hn3 hq hEh2 hex hR hS => ?_)
  · obtain ⟨r3, rfl, hw⟩ := hq
    have hw := hw hEh2
    have hE := hE.tr hEh2
    refine W.eq (g2 := F0 m 5 ls [.ref r3]) rfl ?_
    refine lv_astore_n hx hb (xb_d D_H_room 3 rfl) rfl hl (by decide) rfl (fun ls hl => ?_)
    have hl : lv_has ls 4 [(3, .ref r3), (0, .ref x0), (1, .int x1), (2, .int x2)] := hl
    refine lv_iload_n hx hb (xb_d D_H_room 4 rfl) rfl (lv_at hl 3 rfl) ?_
    refine lv_if_lt (tgt := 21) hx hb (xb_d D_H_room 5 rfl) rfl (fun hc4 => ?_) (fun hc4 => ?_)
    · have hw := hw.1 hc4
      exact am_H_room_L21 l hfl D A σ MC MS h0 Qr Qt h2 bc3 bs3 hw p e s m args below meth c hC H locs ls (k + kk3) (n + nn3) hE (lv_sub hl [] rfl) hR hS (by omega) (by omega)
    · have hw := hw.2 hc4
      refine lv_iload_n hx hb (xb_d D_H_room 6 rfl) rfl (lv_at hl 3 rfl) ?_
      refine lv_aload_n hx hb (xb_d D_H_room 7 rfl) rfl (lv_at hl 0 rfl) ?_
      obtain ⟨hk5, hw⟩ := hw
      refine xb_getP (C := R_StackModule) (T := F_StackModule) (N := 19) hx hb 2 11 hts fin_StackModule hown hR hk5 (by decide) rfl (by decide) rfl (hts _ m_bb17ee94) (fun _ h9 => h9) (xb_d D_H_room 8 rfl) ?_
      obtain ⟨b6, eb6, hw⟩ := hw
      refine xb_some eb6 ?_
      obtain ⟨hk7, hw⟩ := hw
      refine xb_call0 (D := D) (A := A) (σ := σ) (h := h2) (d := 2) (maxL := 1) (rest := [.int x2]) (av := [.ref b6]) (fun T hT X => by obtain ⟨cb9, ra9, rb9, rc9⟩ := xb_recv (ci := 1) hR rfl hk7 (by decide); exact xt_invV X hx hown (hts _ m_8bc4588a) (hts _ m_ded65609) (hts _ m_a4161156) (xt_sigOf (hts _ m_83ba3721)) nm_Row_lines (by rw [hT]; exact ra9) rb9 rc9 (g := F0 m 15 ls [.ref b6, .int x2]) rfl (argsL := []) (rest := [.int x2]) rfl rfl (by rw [hb]; exact (xb_d D_H_room 9 rfl))) (ok_Row_lines l hfl D A σ b6 h2 _ hw) (hml.trans hl.1.symm) (by rw [hb]; exact (xb_d D_H_room 9 rfl)) (Nat.le_of_ble_eq_true rfl) (Nat.le_of_ble_eq_true rfl) (Nat.le_of_ble_eq_true rfl) (show (k + kk3) ≤ MC by omega) (show (n + nn3) ≤ MS by omega) (xt_w1 hB.1 m_83ba3721) (xt_cdOf hB.1 m_83ba3721) (hts _ m_c1bef504) hB hR hS hA (fun vv h8 H locs hq hEh8 hR hS => ?_)
      obtain ⟨r9, rfl, hw⟩ := hq
      have hw := hw hEh8
      have hE := hE.tr hEh8
      refine W.eq (g2 := F0 m 18 ls [.int r9, .int x2]) rfl ?_
      refine lv_icmp_lt (tgt := 31) hx hb (xb_d D_H_room 10 rfl) rfl (fun hc10 => ?_) (fun hc10 => ?_)
      · have hw := hw.1 hc10
        refine lv_aload_n hx hb (xb_d D_H_room 16 rfl) rfl (lv_at hl 0 rfl) ?_
        have hk5 : xb_k h8 r3 = 3 := hEh8.k hk5
        refine xb_getP (C := R_StackModule) (T := F_StackModule) (N := 19) hx hb 2 11 hts fin_StackModule hown hR hk5 (by decide) rfl (by decide) rfl (hts _ m_bb17ee94) (fun _ h9 => h9) (xb_d D_H_room 17 rfl) ?_
        obtain ⟨b11, eb11, hw⟩ := hw
        refine xb_some eb11 ?_
        refine lv_iload_n hx hb (xb_d D_H_room 18 rfl) rfl (lv_at hl 3 rfl) ?_
        refine lv_iconst (v := 4) hx hb (xb_d D_H_room 19 rfl) (by decide) ?_
        obtain ⟨hk12, hw⟩ := hw
        refine xb_call0 (D := D) (A := A) (σ := σ) (h := h8) (d := 2) (maxL := 3) (rest := []) (av := [.ref b11, .int x2, .int 4]) (fun T hT X => by obtain ⟨cb9, ra9, rb9, rc9⟩ := xb_recv (ci := 1) hR rfl hk12 (by decide); exact xt_invV X hx hown (hts _ m_b0980f8b) (hts _ m_8e233096) (hts _ m_27eed10c) (xt_sigOf (hts _ m_ff1c70ae)) nm_Row_at (by rw [hT]; exact ra9) rb9 rc9 (g := F0 m 37 ls [.int 4, .int x2, .ref b11]) rfl (argsL := [.int x2, .int 4]) (rest := []) rfl rfl (by rw [hb]; exact (xb_d D_H_room 20 rfl))) (ok_Row_at l hfl D A σ b11 x2 4 h8 _ hw) (hml.trans hl.1.symm) (by rw [hb]; exact (xb_d D_H_room 20 rfl)) (Nat.le_of_ble_eq_true rfl) (Nat.le_of_ble_eq_true rfl) (Nat.le_of_ble_eq_true rfl) (show (k + kk3) ≤ MC by omega) (show (n + nn3) ≤ MS by omega) (xt_w1 hB.1 m_ff1c70ae) (xt_cdOf hB.1 m_ff1c70ae) (hts _ m_c1bef504) hB hR hS hA (fun vv h13 H locs hq hEh13 hR hS => ?_)
        obtain ⟨r14, rfl, hw⟩ := hq
        have hw := hw hEh13
        have hE := hE.tr hEh13
        refine W.eq (g2 := F0 m 40 ls [.int r14]) rfl ?_
        exact xb_iret bc3 bs3 hx hb hr hlocks (show (k + kk3) + bc3 ≤ MC by omega) (show (n + nn3) + bs3 ≤ MS by omega) hE hR hS (xb_d D_H_room 21 rfl) hw
      · have hw := hw.2 hc10
        exact am_H_room_L21 l hfl D A σ MC MS h0 Qr Qt h8 bc3 bs3 hw p e s m args below meth c hC H locs ls (k + kk3) (n + nn3) hE (lv_sub hl [] rfl) hR hS (by omega) (by omega)
  · exact xb_pass hlocks (fun x hx9 => by rw [htab] at hx9; first | (cases hx9; done) | (simp [tableOf] at hx9; subst hx9; decide) | (simp [tableOf] at hx9; rcases hx9 with rfl | rfl <;> decide) | (simp [tableOf] at hx9; rcases hx9 with rfl | rfl | rfl <;> decide)) (show (k + kk3) + bc3 ≤ MC by omega) (show (n + nn3) + bs3 ≤ MS by omega) (hE.tr hEh2) hR hS hex hq

theorem m_aa970225 : (.methodLink "StackHost" 267 y_Machine_giveUp : Cond) ∈ xt_tbl := xt_in (xt_t2 (List.mem_of_getElem? (i := 120) (by decide +kernel))) (by decide +kernel)
theorem m_da215f51 : (.instanceMethod y_Machine_giveUp : Cond) ∈ xt_tbl := xt_in (xt_t2 (List.mem_of_getElem? (i := 121) (by decide +kernel))) (by decide +kernel)
theorem m_ee99946d : (.selects "StackHost$Machine" y_Machine_giveUp y_Machine_giveUp : Cond) ∈ xt_tbl := xt_in (xt_t2 (List.mem_of_getElem? (i := 122) (by decide +kernel))) (by decide +kernel)
theorem m_eebcd01f : (.code y_Machine_giveUp b_Machine_giveUp 2 (some .int) : Cond) ∈ xt_tbl := xt_in (xt_t2 (List.mem_of_getElem? (i := 123) (by decide +kernel))) (by decide +kernel)
theorem m_73451f9b : (.initialized "StackHost$Machine" : Cond) ∈ xt_tbl := xt_in (xt_t1 (List.mem_of_getElem? (i := 6) (by decide +kernel))) (by decide +kernel)
theorem nm_Machine_giveUp : xt_nm y_Machine_giveUp 0 := ⟨by decide +kernel, by decide +kernel⟩
set_option maxRecDepth 100000 in
def T_H_stop : List (Nat × Instr × Nat) := [(0, .aload_n 0, 1), (1, .getfield 45, 3), (4, .invokevirtual 267, 3), (7, .ireturn, 1)]
theorem D_H_stop : ∀ q ∈ T_H_stop, decode b_H_stop q.1 = .ok (q.2.1, q.2.2) := by decide +kernel

set_option maxHeartbeats 4000000 in
set_option maxRecDepth 100000 in
theorem ok_H_stop (l : Launch) (hfl : l.flags = pinnedFlags ++ [noTraceFlag]) (D : va_G) (A : Nat → Prop) (σ : Nat) (x0 : Nat) (h : xb_H) (Qr : Int32 → xb_H → Prop) (hw : w_H_stop x0 h Qr) : xb_Met l y_H_stop [.code y_H_stop b_H_stop 1 (some .int)] (xb_rm 3 0 0) (xb_Pc D A σ h [.ref x0]) (xb_Qc D A h 0 0 (fun v h _ _ => ∃ r, v = some (.int r) ∧ Qr r h) (fun _ _ _ _ => False)) A := by
  refine xb_ofAm (cc := b_H_stop) (by decide) (Nat.le_of_ble_eq_true rfl) ?_
  unfold w_H_stop at hw
  show xb_am l D A σ 3 0 0 h (fun v h _ _ => ∃ r, v = some (.int r) ∧ Qr r h) (fun _ _ _ _ => False) y_H_stop.cls y_H_stop.name b_H_stop 1 ([] : List ExceptionTableEntry) (some .int) 0 [(0, .ref x0)] [] h 0 0
  obtain ⟨MC, hMC⟩ : ∃ x, x = 0 := ⟨_, rfl⟩
  obtain ⟨MS, hMS⟩ : ∃ x, x = 0 := ⟨_, rfl⟩
  rw [show xb_am l D A σ 3 0 0 = xb_am l D A σ 3 MC MS by rw [hMC, hMS]]
  obtain ⟨h0, hh0⟩ : ∃ x, x = h := ⟨_, rfl⟩
  rw [show xb_am l D A σ 3 MC MS h = xb_am l D A σ 3 MC MS h0 by rw [hh0]]
  intro p e s m args below meth c hC H locs ls k n hE hl hR hS hk hn
  obtain ⟨hx, hb, hown, hlocks, htab, hml, hr, hB, hA, hnm⟩ := id hC
  have hts := hB.1.1.at args
  refine lv_aload_n hx hb (xb_d D_H_stop 0 rfl) rfl (lv_at hl 0 rfl) ?_
  obtain ⟨hk1, hw⟩ := hw
  refine xb_getP (C := R_H) (T := F_H) (N := 11) hx hb 0 7 hts fin_H hown hR hk1 (by decide) rfl (by decide) rfl (hts _ m_ab10058e) (fun _ h9 => h9) (xb_d D_H_stop 1 rfl) ?_
  obtain ⟨b2, eb2, hw⟩ := hw
  refine xb_some eb2 ?_
  obtain ⟨hk3, hw⟩ := hw
  refine xb_call0 (D := D) (A := A) (σ := σ) (h := h) (d := 2) (maxL := 2) (rest := []) (av := [.ref b2]) (fun T hT X => by obtain ⟨cb9, ra9, rb9, rc9⟩ := xb_recv (ci := 7) hR rfl hk3 (by decide); exact xt_invV X hx hown (hts _ m_aa970225) (hts _ m_da215f51) (hts _ m_ee99946d) (xt_sigOf (hts _ m_eebcd01f)) nm_Machine_giveUp (by rw [hT]; exact ra9) rb9 rc9 (g := F0 m 4 ls [.ref b2]) rfl (argsL := []) (rest := []) rfl rfl (by rw [hb]; exact (xb_d D_H_stop 2 rfl))) (ok_Machine_giveUp l hfl D A σ b2 h _ hw) (hml.trans hl.1.symm) (by rw [hb]; exact (xb_d D_H_stop 2 rfl)) (Nat.le_of_ble_eq_true rfl) (Nat.le_of_ble_eq_true rfl) (Nat.le_of_ble_eq_true rfl) (show k ≤ MC by omega) (show n ≤ MS by omega) (xt_w1 hB.1 m_eebcd01f) (xt_cdOf hB.1 m_eebcd01f) (hts _ m_73451f9b) hB hR hS hA (fun vv h4 H locs hq hEh4 hR hS => ?_)
  obtain ⟨r5, rfl, hw⟩ := hq
  have hw := hw hEh4
  have hE := hE.tr hEh4
  refine W.eq (g2 := F0 m 7 ls [.int r5]) rfl ?_
  exact xb_iret 0 0 hx hb hr hlocks (show k + 0 ≤ MC by omega) (show n + 0 ≤ MS by omega) hE hR hS (xb_d D_H_stop 3 rfl) hw

theorem m_105e0328 : (.fieldLink "StackHost" 216 "StackHost$Instance" "module" "LStackHost$StackModule;" : Cond) ∈ xt_tbl := xt_in (xt_t7 (List.mem_of_getElem? (i := 7) (by decide +kernel))) (by decide +kernel)
theorem m_c9c8cbbb : (.fieldLink "StackHost" 310 "StackHost$World" "variables" "LStackHost$Row;" : Cond) ∈ xt_tbl := xt_in (xt_t1 (List.mem_of_getElem? (i := 174) (by decide +kernel))) (by decide +kernel)
theorem m_b8639351 : (.methodLink "StackHost" 315 y_Instance_variableId : Cond) ∈ xt_tbl := xt_in (xt_t9 (List.mem_of_getElem? (i := 68) (by decide +kernel))) (by decide +kernel)
theorem m_f0cc1dad : (.instanceMethod y_Instance_variableId : Cond) ∈ xt_tbl := xt_in (xt_t6 (List.mem_of_getElem? (i := 176) (by decide +kernel))) (by decide +kernel)
theorem m_2ed43dba : (.selects "StackHost$Instance" y_Instance_variableId y_Instance_variableId : Cond) ∈ xt_tbl := xt_in (xt_t6 (List.mem_of_getElem? (i := 177) (by decide +kernel))) (by decide +kernel)
theorem m_806ee343 : (.code y_Instance_variableId b_Instance_variableId 3 (some .int) : Cond) ∈ xt_tbl := xt_in (xt_t6 (List.mem_of_getElem? (i := 178) (by decide +kernel))) (by decide +kernel)
theorem m_7a4e907b : (.initialized "StackHost$Instance" : Cond) ∈ xt_tbl := xt_in (xt_t1 (List.mem_of_getElem? (i := 29) (by decide +kernel))) (by decide +kernel)
theorem nm_Instance_variableId : xt_nm y_Instance_variableId 1 := ⟨by decide +kernel, by decide +kernel⟩
set_option maxRecDepth 100000 in
def T_H_variable : List (Nat × Instr × Nat) := [(0, .aload_n 0, 1), (1, .iload_n 1, 1), (2, .invokevirtual 200, 3), (5, .astore_n 3, 1), (6, .iload_n 2, 1), (7, .ifCond .lt 17, 3), (10, .iload_n 2, 1), (11, .aload_n 3, 1), (12, .getfield 216, 3), (15, .getfield 145, 3), (18, .invokevirtual 129, 3), (21, .if_icmp .lt 14, 3), (24, .new 117, 3), (27, .dup, 1), (28, .ldc_w 308, 3), (31, .invokespecial 121, 3), (34, .athrow, 1), (35, .aload_n 0, 1), (36, .getfield 36, 3), (39, .getfield 310, 3), (42, .getfield 311, 3), (45, .aload_n 3, 1), (46, .iload_n 2, 1), (47, .invokevirtual 315, 3), (50, .laload, 1), (51, .lreturn, 1)]
theorem D_H_variable : ∀ q ∈ T_H_variable, decode b_H_variable q.1 = .ok (q.2.1, q.2.2) := by decide +kernel

set_option maxHeartbeats 4000000 in
set_option maxRecDepth 100000 in
theorem am_H_variable_L24 (l : Launch) (hfl : l.flags = pinnedFlags ++ [noTraceFlag]) (D : va_G) (A : Nat → Prop) (σ MC MS : Nat) (h0 : xb_H) (Qr : Int64 → xb_H → Nat → Nat → Prop) (Qt : String → xb_H → Nat → Nat → Prop) (h : xb_H) (bc : Nat) (bs : Nat) (hw : w_H_variable_L24 Qr Qt h bc bs) : xb_am l D A σ 3 MC MS h0 (fun v h bc bs => ∃ r, v = some (.long r) ∧ Qr r h bc bs) Qt y_H_variable.cls y_H_variable.name b_H_variable 4 ([] : List ExceptionTableEntry) (some .long) 24 [] [] h bc bs := by
  unfold w_H_variable_L24 at hw
  intro p e s m args below meth c hC H locs ls k n hE hl hR hS hk hn
  obtain ⟨hx, hb, hown, hlocks, htab, hml, hr, hB, hA, hnm⟩ := id hC
  have hts := hB.1.1.at args
  obtain ⟨hc9, hs9, hw⟩ := hw
  exact xb_throw (names := ["java/lang/RuntimeException", "java/lang/Exception"]) hx hb (hml.trans hl.1.symm) hlocks hfl hown xsite_f54f80 hB hS (show k + bc ≤ MC by omega) (show n + bs ≤ MS by omega) hc9 hs9 (by decide) (Nat.le_of_ble_eq_true rfl) htab (xb_d D_H_variable 12 rfl) (xb_d D_H_variable 13 rfl) xt_l3 (xb_d D_H_variable 14 rfl) (xb_d D_H_variable 15 rfl) (xb_d D_H_variable 16 rfl) hE hR hw

set_option maxHeartbeats 4000000 in
set_option maxRecDepth 100000 in
theorem ok_H_variable (l : Launch) (hfl : l.flags = pinnedFlags ++ [noTraceFlag]) (D : va_G) (A : Nat → Prop) (σ : Nat) (x0 : Nat) (x1 : Int32) (x2 : Int32) (h : xb_H) (bc : Nat) (bs : Nat) (Qr : Int64 → xb_H → Nat → Nat → Prop) (Qt : String → xb_H → Nat → Nat → Prop) (hw : w_H_variable x0 x1 x2 h bc bs Qr Qt) : xb_Met l y_H_variable [.code y_H_variable b_H_variable 4 (some .long)] (xb_rm 3 bc bs) (xb_Pc D A σ h [.ref x0, .int x1, .int x2]) (xb_Qc D A h bc bs (fun v h bc bs => ∃ r, v = some (.long r) ∧ Qr r h bc bs) Qt) A := by
  refine xb_ofAm (cc := b_H_variable) (by decide) (Nat.le_of_ble_eq_true rfl) ?_
  unfold w_H_variable at hw
  show xb_am l D A σ 3 bc bs h (fun v h bc bs => ∃ r, v = some (.long r) ∧ Qr r h bc bs) Qt y_H_variable.cls y_H_variable.name b_H_variable 4 ([] : List ExceptionTableEntry) (some .long) 0 [(0, .ref x0), (1, .int x1), (2, .int x2)] [] h bc bs
  obtain ⟨MC, hMC⟩ : ∃ x, x = bc := ⟨_, rfl⟩
  obtain ⟨MS, hMS⟩ : ∃ x, x = bs := ⟨_, rfl⟩
  rw [show xb_am l D A σ 3 bc bs = xb_am l D A σ 3 MC MS by rw [hMC, hMS]]
  obtain ⟨h0, hh0⟩ : ∃ x, x = h := ⟨_, rfl⟩
  rw [show xb_am l D A σ 3 MC MS h = xb_am l D A σ 3 MC MS h0 by rw [hh0]]
  intro p e s m args below meth c hC H locs ls k n hE hl hR hS hk hn
  obtain ⟨hx, hb, hown, hlocks, htab, hml, hr, hB, hA, hnm⟩ := id hC
  have hts := hB.1.1.at args
  refine lv_aload_n hx hb (xb_d D_H_variable 0 rfl) rfl (lv_at hl 0 rfl) ?_
  refine lv_iload_n hx hb (xb_d D_H_variable 1 rfl) rfl (lv_at hl 1 rfl) ?_
  obtain ⟨hk1, hw⟩ := hw
  refine xb_call (D := D) (A := A) (σ := σ) (h := h) (d := 2) (mc := bc) (ms := bs) (maxL := 2) (rest := []) (av := [.ref x0, .int x1]) (fun T hT X => by obtain ⟨cb9, ra9, rb9, rc9⟩ := xb_recv (ci := 0) hR rfl hk1 (by decide); exact xt_invV X hx hown (hts _ m_63e9a525) (hts _ m_93abae91) (hts _ m_f44e4f6a) (xt_sigOf (hts _ m_925de4f3)) nm_H_instanceNumbered (by rw [hT]; exact ra9) rb9 rc9 (g := F0 m 2 ls [.int x1, .ref x0]) rfl (argsL := [.int x1]) (rest := []) rfl rfl (by rw [hb]; exact (xb_d D_H_variable 2 rfl))) (ok_H_instanceNumbered l hfl D A σ x0 x1 h bc bs _ _ hw) (hml.trans hl.1.symm) (by rw [hb]; exact (xb_d D_H_variable 2 rfl)) (Nat.le_of_ble_eq_true rfl) (Nat.le_of_ble_eq_true rfl) (Nat.le_of_ble_eq_true rfl) (show k + bc ≤ MC by omega) (show n + bs ≤ MS by omega) (xt_w1 hB.1 m_925de4f3) (xt_cdOf hB.1 m_925de4f3) (hts _ m_ba0734f5) hB hR hS hA (fun vv h2 bc3 bs3 kk3 nn3 H locs hk3 hn3 hq hEh2 hR hS => ?_) (fun XX ax h2 bc3 bs3 kk3 nn3 H locs hk3 hn3 hq hEh2 hex hR hS => ?_)
  · obtain ⟨r3, rfl, hw⟩ := hq
    have hw := hw hEh2
    have hE := hE.tr hEh2
    refine W.eq (g2 := F0 m 5 ls [.ref r3]) rfl ?_
    refine lv_astore_n hx hb (xb_d D_H_variable 3 rfl) rfl hl (by decide) rfl (fun ls hl => ?_)
    have hl : lv_has ls 4 [(3, .ref r3), (0, .ref x0), (1, .int x1), (2, .int x2)] := hl
    refine lv_iload_n hx hb (xb_d D_H_variable 4 rfl) rfl (lv_at hl 3 rfl) ?_
    refine lv_if_lt (tgt := 24) hx hb (xb_d D_H_variable 5 rfl) rfl (fun hc4 => ?_) (fun hc4 => ?_)
    · have hw := hw.1 hc4
      exact am_H_variable_L24 l hfl D A σ MC MS h0 Qr Qt h2 bc3 bs3 hw p e s m args below meth c hC H locs ls (k + kk3) (n + nn3) hE (lv_sub hl [] rfl) hR hS (by omega) (by omega)
    · have hw := hw.2 hc4
      refine lv_iload_n hx hb (xb_d D_H_variable 6 rfl) rfl (lv_at hl 3 rfl) ?_
      refine lv_aload_n hx hb (xb_d D_H_variable 7 rfl) rfl (lv_at hl 0 rfl) ?_
      obtain ⟨hk5, hw⟩ := hw
      refine xb_getP (C := R_Instance) (T := F_Instance) (N := 8) hx hb 10 1 hts fin_Instance hown hR hk5 (by decide) rfl (by decide) rfl (hts _ m_105e0328) (fun _ h9 => h9) (xb_d D_H_variable 8 rfl) ?_
      obtain ⟨b6, eb6, hw⟩ := hw
      refine xb_some eb6 ?_
      obtain ⟨hk7, hw⟩ := hw
      refine xb_getP (C := R_StackModule) (T := F_StackModule) (N := 19) hx hb 2 7 hts fin_StackModule hown hR hk7 (by decide) rfl (by decide) rfl (hts _ m_0be66937) (fun _ h9 => h9) (xb_d D_H_variable 9 rfl) ?_
      obtain ⟨b8, eb8, hw⟩ := hw
      refine xb_some eb8 ?_
      obtain ⟨hk9, hw⟩ := hw
      refine xb_call0 (D := D) (A := A) (σ := σ) (h := h2) (d := 2) (maxL := 1) (rest := [.int x2]) (av := [.ref b8]) (fun T hT X => by obtain ⟨cb9, ra9, rb9, rc9⟩ := xb_recv (ci := 1) hR rfl hk9 (by decide); exact xt_invV X hx hown (hts _ m_8bc4588a) (hts _ m_ded65609) (hts _ m_a4161156) (xt_sigOf (hts _ m_83ba3721)) nm_Row_lines (by rw [hT]; exact ra9) rb9 rc9 (g := F0 m 18 ls [.ref b8, .int x2]) rfl (argsL := []) (rest := [.int x2]) rfl rfl (by rw [hb]; exact (xb_d D_H_variable 10 rfl))) (ok_Row_lines l hfl D A σ b8 h2 _ hw) (hml.trans hl.1.symm) (by rw [hb]; exact (xb_d D_H_variable 10 rfl)) (Nat.le_of_ble_eq_true rfl) (Nat.le_of_ble_eq_true rfl) (Nat.le_of_ble_eq_true rfl) (show (k + kk3) ≤ MC by omega) (show (n + nn3) ≤ MS by omega) (xt_w1 hB.1 m_83ba3721) (xt_cdOf hB.1 m_83ba3721) (hts _ m_c1bef504) hB hR hS hA (fun vv h10 H locs hq hEh10 hR hS => ?_)
      obtain ⟨r11, rfl, hw⟩ := hq
      have hw := hw hEh10
      have hE := hE.tr hEh10
      refine W.eq (g2 := F0 m 21 ls [.int r11, .int x2]) rfl ?_
      refine lv_icmp_lt (tgt := 35) hx hb (xb_d D_H_variable 11 rfl) rfl (fun hc12 => ?_) (fun hc12 => ?_)
      · have hw := hw.1 hc12
        refine lv_aload_n hx hb (xb_d D_H_variable 17 rfl) rfl (lv_at hl 1 rfl) ?_
        have hk1 : xb_k h2 x0 = 1 := hEh2.k hk1
        have hk1 : xb_k h10 x0 = 1 := hEh10.k hk1
        refine xb_getP (C := R_H) (T := F_H) (N := 11) hx hb 0 6 hts fin_H hown hR hk1 (by decide) rfl (by decide) rfl (hts _ m_3ac6c4ed) (fun _ h9 => h9) (xb_d D_H_variable 18 rfl) ?_
        obtain ⟨b13, eb13, hw⟩ := hw
        refine xb_some eb13 ?_
        obtain ⟨hk14, hw⟩ := hw
        refine xb_getP (C := R_World) (T := F_World) (N := 16) hx hb 6 3 hts fin_World hown hR hk14 (by decide) rfl (by decide) rfl (hts _ m_c9c8cbbb) (fun _ h9 => h9) (xb_d D_H_variable 19 rfl) ?_
        obtain ⟨b15, eb15, hw⟩ := hw
        refine xb_some eb15 ?_
        obtain ⟨hk16, hw⟩ := hw
        refine xb_getP (C := R_Row) (T := F_Row) (N := 3) hx hb 1 0 hts fin_Row hown hR hk16 (by decide) rfl (by decide) rfl (hts _ m_f8d1fcbb) (fun _ h9 => h9) (xb_d D_H_variable 20 rfl) ?_
        obtain ⟨b17, eb17, hw⟩ := hw
        refine xb_some eb17 ?_
        refine lv_aload_n hx hb (xb_d D_H_variable 21 rfl) rfl (lv_at hl 0 rfl) ?_
        refine lv_iload_n hx hb (xb_d D_H_variable 22 rfl) rfl (lv_at hl 3 rfl) ?_
        have hk5 : xb_k h10 r3 = 11 := hEh10.k hk5
        refine xb_call0 (D := D) (A := A) (σ := σ) (h := h10) (d := 2) (maxL := 3) (rest := [.ref b17]) (av := [.ref r3, .int x2]) (fun T hT X => by obtain ⟨cb9, ra9, rb9, rc9⟩ := xb_recv (ci := 10) hR rfl hk5 (by decide); exact xt_invV X hx hown (hts _ m_b8639351) (hts _ m_f0cc1dad) (hts _ m_2ed43dba) (xt_sigOf (hts _ m_806ee343)) nm_Instance_variableId (by rw [hT]; exact ra9) rb9 rc9 (g := F0 m 47 ls [.int x2, .ref r3, .ref b17]) rfl (argsL := [.int x2]) (rest := [.ref b17]) rfl rfl (by rw [hb]; exact (xb_d D_H_variable 23 rfl))) (ok_Instance_variableId l hfl D A σ r3 x2 h10 _ hw) (hml.trans hl.1.symm) (by rw [hb]; exact (xb_d D_H_variable 23 rfl)) (Nat.le_of_ble_eq_true rfl) (Nat.le_of_ble_eq_true rfl) (Nat.le_of_ble_eq_true rfl) (show (k + kk3) ≤ MC by omega) (show (n + nn3) ≤ MS by omega) (xt_w1 hB.1 m_806ee343) (xt_cdOf hB.1 m_806ee343) (hts _ m_7a4e907b) hB hR hS hA (fun vv h18 H locs hq hEh18 hR hS => ?_)
        obtain ⟨r19, rfl, hw⟩ := hq
        have hw := hw hEh18
        have hE := hE.tr hEh18
        refine W.eq (g2 := F0 m 50 ls [.int r19, .ref b17]) rfl ?_
        obtain ⟨hk21, hw⟩ := hw
        obtain ⟨hi20, hw⟩ := hw
        refine xb_lald hx hb hR hk21 hi20 (xb_d D_H_variable 24 rfl) ?_
        exact xb_lret bc3 bs3 hx hb hr hlocks (show (k + kk3) + bc3 ≤ MC by omega) (show (n + nn3) + bs3 ≤ MS by omega) hE hR hS (xb_d D_H_variable 25 rfl) hw
      · have hw := hw.2 hc12
        exact am_H_variable_L24 l hfl D A σ MC MS h0 Qr Qt h10 bc3 bs3 hw p e s m args below meth c hC H locs ls (k + kk3) (n + nn3) hE (lv_sub hl [] rfl) hR hS (by omega) (by omega)
  · exact xb_pass hlocks (fun x hx9 => by rw [htab] at hx9; first | (cases hx9; done) | (simp [tableOf] at hx9; subst hx9; decide) | (simp [tableOf] at hx9; rcases hx9 with rfl | rfl <;> decide) | (simp [tableOf] at hx9; rcases hx9 with rfl | rfl | rfl <;> decide)) (show (k + kk3) + bc3 ≤ MC by omega) (show (n + nn3) + bs3 ≤ MS by omega) (hE.tr hEh2) hR hS hex hq

theorem m_b5ef1148 : (.fieldLink "StackHost$Checker" 51 "StackHost$Checker" "notes" "[I" : Cond) ∈ xt_tbl := xt_in (xt_t1 (List.mem_of_getElem? (i := 79) (by decide +kernel))) (by decide +kernel)
theorem m_8db7c2eb : (.fieldLink "StackHost$Checker" 47 "StackHost$Checker" "code" "[B" : Cond) ∈ xt_tbl := xt_in (xt_t1 (List.mem_of_getElem? (i := 78) (by decide +kernel))) (by decide +kernel)
theorem m_070795bc : (.fieldLink "StackHost$Checker" 38 "StackHost$Checker" "module" "LStackHost$StackModule;" : Cond) ∈ xt_tbl := xt_in (xt_t1 (List.mem_of_getElem? (i := 77) (by decide +kernel))) (by decide +kernel)
theorem m_1d37521a : (.methodLink "StackHost$Checker" 94 y_StackModule_fail : Cond) ∈ xt_tbl := xt_in (xt_t4 (List.mem_of_getElem? (i := 104) (by decide +kernel))) (by decide +kernel)
theorem m_865d5b07 : (.instanceMethod y_StackModule_fail : Cond) ∈ xt_tbl := xt_in (xt_t3 (List.mem_of_getElem? (i := 174) (by decide +kernel))) (by decide +kernel)
theorem m_113f8f75 : (.selects "StackHost$StackModule" y_StackModule_fail y_StackModule_fail : Cond) ∈ xt_tbl := xt_in (xt_t3 (List.mem_of_getElem? (i := 175) (by decide +kernel))) (by decide +kernel)
theorem m_73e65e5f : (.code y_StackModule_fail b_StackModule_fail 3 none : Cond) ∈ xt_tbl := xt_in (xt_t3 (List.mem_of_getElem? (i := 176) (by decide +kernel))) (by decide +kernel)
theorem m_9c375545 : (.initialized "StackHost$StackModule" : Cond) ∈ xt_tbl := xt_in (xt_t1 (List.mem_of_getElem? (i := 18) (by decide +kernel))) (by decide +kernel)
theorem m_d3e8f814 : (.fieldLink "StackHost$Checker" 134 "StackHost$StackModule" "variables" "LStackHost$Row;" : Cond) ∈ xt_tbl := xt_in (xt_t3 (List.mem_of_getElem? (i := 82) (by decide +kernel))) (by decide +kernel)
theorem m_068feb96 : (.methodLink "StackHost$Checker" 90 y_Row_at : Cond) ∈ xt_tbl := xt_in (xt_t4 (List.mem_of_getElem? (i := 100) (by decide +kernel))) (by decide +kernel)
theorem m_c2d0ffa0 : (.fieldLink "StackHost$Checker" 131 "StackHost$StackModule" "imported" "[I" : Cond) ∈ xt_tbl := xt_in (xt_t3 (List.mem_of_getElem? (i := 114) (by decide +kernel))) (by decide +kernel)
theorem m_fe08b245 : (.methodLink "StackHost$Checker" 125 y_Checker_isThere : Cond) ∈ xt_tbl := xt_in (xt_t4 (List.mem_of_getElem? (i := 117) (by decide +kernel))) (by decide +kernel)
theorem m_9ad1e0af : (.static y_Checker_isThere : Cond) ∈ xt_tbl := xt_in (xt_t4 (List.mem_of_getElem? (i := 118) (by decide +kernel))) (by decide +kernel)
theorem m_44748ce5 : (.initialized "StackHost$Checker" : Cond) ∈ xt_tbl := xt_in (xt_t1 (List.mem_of_getElem? (i := 3) (by decide +kernel))) (by decide +kernel)
theorem m_2237aee6 : (.code y_Checker_isThere b_Checker_isThere 3 (some .boolean) : Cond) ∈ xt_tbl := xt_in (xt_t4 (List.mem_of_getElem? (i := 119) (by decide +kernel))) (by decide +kernel)
theorem nm_StackModule_fail : xt_nm y_StackModule_fail 2 := ⟨by decide +kernel, by decide +kernel⟩
theorem nm_Checker_isThere : xt_nm y_Checker_isThere 2 := ⟨by decide +kernel, by decide +kernel⟩
set_option maxRecDepth 100000 in
def T_Checker_checkExpression : List (Nat × Instr × Nat) := [(0, .aload_n 0, 1), (1, .getfield 47, 3), (4, .iload_n 1, 1), (5, .baload, 1), (6, .istore_n 3, 1), (7, .iload_n 3, 1), (8, .bipush 35, 2), (10, .if_icmp .ne 98, 3), (13, .aload_n 0, 1), (14, .getfield 51, 3), (17, .iload_n 1, 1), (18, .iconst 1, 1), (19, .iadd, 1), (20, .iaload, 1), (21, .istore 4, 2), (23, .iload 4, 2), (25, .i2l, 1), (26, .aload_n 0, 1), (27, .getfield 38, 3), (30, .getfield 131, 3), (33, .iconst 3, 1), (34, .iaload, 1), (35, .invokestatic 125, 3), (38, .ifCond .ne 13, 3), (41, .aload_n 0, 1), (42, .getfield 38, 3), (45, .bipush 20, 2), (47, .iload_n 1, 1), (48, .invokevirtual 94, 3), (51, .aload_n 0, 1), (52, .getfield 38, 3), (55, .getfield 134, 3), (58, .iload 4, 2), (60, .iconst 2, 1), (61, .invokevirtual 90, 3), (64, .iconst 1, 1), (65, .if_icmp .ne 13, 3), (68, .aload_n 0, 1), (69, .getfield 38, 3), (72, .bipush 26, 2), (74, .iload_n 1, 1), (75, .invokevirtual 94, 3), (78, .aload_n 0, 1), (79, .getfield 38, 3), (82, .getfield 134, 3), (85, .iload 4, 2), (87, .iconst 1, 1), (88, .invokevirtual 90, 3), (91, .iload_n 2, 1), (92, .if_icmp .eq 13, 3), (95, .aload_n 0, 1), (96, .getfield 38, 3), (99, .bipush 21, 2), (101, .iload_n 1, 1), (102, .invokevirtual 94, 3), (105, .goto 49, 3), (108, .iload_n 3, 1), (109, .bipush 65, 2), (111, .if_icmp .lt 33, 3), (114, .iload_n 3, 1), (115, .bipush 68, 2), (117, .if_icmp .gt 27, 3), (120, .bipush 127, 2), (122, .iload_n 3, 1), (123, .bipush 65, 2), (125, .isub, 1), (126, .isub, 1), (127, .iload_n 2, 1), (128, .if_icmp .eq 26, 3), (131, .aload_n 0, 1), (132, .getfield 38, 3), (135, .bipush 21, 2), (137, .iload_n 1, 1), (138, .invokevirtual 94, 3), (141, .goto 13, 3), (144, .aload_n 0, 1), (145, .getfield 38, 3), (148, .bipush 26, 2), (150, .iload_n 1, 1), (151, .invokevirtual 94, 3), (154, .aload_n 0, 1), (155, .getfield 51, 3), (158, .iload_n 1, 1), (159, .iaload, 1), (160, .istore 4, 2), (162, .aload_n 0, 1), (163, .getfield 47, 3), (166, .iload 4, 2), (168, .baload, 1), (169, .bipush 11, 2), (171, .if_icmp .eq 14, 3), (174, .aload_n 0, 1), (175, .getfield 38, 3), (178, .bipush 26, 2), (180, .iload 4, 2), (182, .invokevirtual 94, 3), (185, .return_, 1)]
theorem D_Checker_checkExpression : ∀ q ∈ T_Checker_checkExpression, decode b_Checker_checkExpression q.1 = .ok (q.2.1, q.2.2) := by decide +kernel

set_option maxHeartbeats 4000000 in
set_option maxRecDepth 100000 in
theorem am_Checker_checkExpression_L185 (l : Launch) (hfl : l.flags = pinnedFlags ++ [noTraceFlag]) (D : va_G) (A : Nat → Prop) (σ MC MS : Nat) (h0 : xb_H) (Qr : xb_H → Nat → Nat → Prop) (Qt : String → xb_H → Nat → Nat → Prop) (h : xb_H) (bc : Nat) (bs : Nat) (hw : w_Checker_checkExpression_L185 Qr Qt h bc bs) : xb_am l D A σ 3 MC MS h0 (fun v h bc bs => v = none ∧ Qr h bc bs) Qt y_Checker_checkExpression.cls y_Checker_checkExpression.name b_Checker_checkExpression 5 ([] : List ExceptionTableEntry) none 185 [] [] h bc bs := by
  unfold w_Checker_checkExpression_L185 at hw
  intro p e s m args below meth c hC H locs ls k n hE hl hR hS hk hn
  obtain ⟨hx, hb, hown, hlocks, htab, hml, hr, hB, hA, hnm⟩ := id hC
  have hts := hB.1.1.at args
  exact xb_vret bc bs hx hb hr hlocks (show k + bc ≤ MC by omega) (show n + bs ≤ MS by omega) hE hR hS (xb_d D_Checker_checkExpression 96 rfl) hw

set_option maxHeartbeats 4000000 in
set_option maxRecDepth 100000 in
theorem am_Checker_checkExpression_L154 (l : Launch) (hfl : l.flags = pinnedFlags ++ [noTraceFlag]) (D : va_G) (A : Nat → Prop) (σ MC MS : Nat) (h0 : xb_H) (Qr : xb_H → Nat → Nat → Prop) (Qt : String → xb_H → Nat → Nat → Prop) (x0 : Nat) (x1 : Int32) (h : xb_H) (bc : Nat) (bs : Nat) (hw : w_Checker_checkExpression_L154 Qr Qt x0 x1 h bc bs) : xb_am l D A σ 3 MC MS h0 (fun v h bc bs => v = none ∧ Qr h bc bs) Qt y_Checker_checkExpression.cls y_Checker_checkExpression.name b_Checker_checkExpression 5 ([] : List ExceptionTableEntry) none 154 [(0, .ref x0), (1, .int x1)] [] h bc bs := by
  unfold w_Checker_checkExpression_L154 at hw
  intro p e s m args below meth c hC H locs ls k n hE hl hR hS hk hn
  obtain ⟨hx, hb, hown, hlocks, htab, hml, hr, hB, hA, hnm⟩ := id hC
  have hts := hB.1.1.at args
  refine lv_aload_n hx hb (xb_d D_Checker_checkExpression 80 rfl) rfl (lv_at hl 0 rfl) ?_
  obtain ⟨hk1, hw⟩ := hw
  refine xb_getP (C := R_Checker) (T := F_Checker) (N := 17) hx hb 4 2 hts fin_Checker hown hR hk1 (by decide) rfl (by decide) rfl (hts _ m_b5ef1148) (fun _ h9 => h9) (xb_d D_Checker_checkExpression 81 rfl) ?_
  obtain ⟨b2, eb2, hw⟩ := hw
  refine xb_some eb2 ?_
  refine lv_iload_n hx hb (xb_d D_Checker_checkExpression 82 rfl) rfl (lv_at hl 1 rfl) ?_
  obtain ⟨hk4, hw⟩ := hw
  obtain ⟨hi3, hw⟩ := hw
  refine xb_iald hx hb hR hk4 hi3 (xb_d D_Checker_checkExpression 83 rfl) ?_
  obtain ⟨v5, ev5⟩ : ∃ x : Int32, x = (xb_i h b2 (Int32.toNatClampNeg x1)) := ⟨_, rfl⟩
  have hw := hw v5 ev5
  refine xt_numi (y := v5) ev5.symm ?_
  refine lv_istore hx hb (xb_d D_Checker_checkExpression 84 rfl) hl (by decide) rfl (fun ls hl => ?_)
  have hl : lv_has ls 5 [(4, .int v5), (0, .ref x0), (1, .int x1)] := hl
  refine lv_aload_n hx hb (xb_d D_Checker_checkExpression 85 rfl) rfl (lv_at hl 1 rfl) ?_
  refine xb_getP (C := R_Checker) (T := F_Checker) (N := 17) hx hb 4 1 hts fin_Checker hown hR hk1 (by decide) rfl (by decide) rfl (hts _ m_8db7c2eb) (fun _ h9 => h9) (xb_d D_Checker_checkExpression 86 rfl) ?_
  obtain ⟨b6, eb6, hw⟩ := hw
  refine xb_some eb6 ?_
  refine lv_iload hx hb (xb_d D_Checker_checkExpression 87 rfl) (lv_at hl 0 rfl) ?_
  obtain ⟨hk8, hw⟩ := hw
  obtain ⟨hi7, hw⟩ := hw
  refine xb_bald hx hb hR hk8 hi7 (xb_d D_Checker_checkExpression 88 rfl) ?_
  refine lv_bipush (v := 11) hx hb (xb_d D_Checker_checkExpression 89 rfl) (by decide) ?_
  refine lv_icmp_eq (tgt := 185) hx hb (xb_d D_Checker_checkExpression 90 rfl) rfl (fun hc9 => ?_) (fun hc9 => ?_)
  · have hw := hw.1 hc9
    exact am_Checker_checkExpression_L185 l hfl D A σ MC MS h0 Qr Qt h bc bs hw p e s m args below meth c hC H locs ls k n hE (lv_sub hl [] rfl) hR hS (by omega) (by omega)
  · have hw := hw.2 hc9
    refine lv_aload_n hx hb (xb_d D_Checker_checkExpression 91 rfl) rfl (lv_at hl 1 rfl) ?_
    refine xb_getP (C := R_Checker) (T := F_Checker) (N := 17) hx hb 4 0 hts fin_Checker hown hR hk1 (by decide) rfl (by decide) rfl (hts _ m_070795bc) (fun _ h9 => h9) (xb_d D_Checker_checkExpression 92 rfl) ?_
    obtain ⟨b10, eb10, hw⟩ := hw
    refine xb_some eb10 ?_
    refine lv_bipush (v := 26) hx hb (xb_d D_Checker_checkExpression 93 rfl) (by decide) ?_
    refine lv_iload hx hb (xb_d D_Checker_checkExpression 94 rfl) (lv_at hl 0 rfl) ?_
    obtain ⟨hk11, hw⟩ := hw
    refine xb_call (D := D) (A := A) (σ := σ) (h := h) (d := 2) (mc := bc) (ms := bs) (maxL := 3) (rest := []) (av := [.ref b10, .int 26, .int v5]) (fun T hT X => by obtain ⟨cb9, ra9, rb9, rc9⟩ := xb_recv (ci := 2) hR rfl hk11 (by decide); exact xt_invV X hx hown (hts _ m_1d37521a) (hts _ m_865d5b07) (hts _ m_113f8f75) (xt_sigOf (hts _ m_73e65e5f)) nm_StackModule_fail (by rw [hT]; exact ra9) rb9 rc9 (g := F0 m 182 ls [.int v5, .int 26, .ref b10]) rfl (argsL := [.int 26, .int v5]) (rest := []) rfl rfl (by rw [hb]; exact (xb_d D_Checker_checkExpression 95 rfl))) (ok_StackModule_fail l hfl D A σ b10 26 v5 h bc bs _ _ hw) (hml.trans hl.1.symm) (by rw [hb]; exact (xb_d D_Checker_checkExpression 95 rfl)) (Nat.le_of_ble_eq_true rfl) (Nat.le_of_ble_eq_true rfl) (Nat.le_of_ble_eq_true rfl) (show k + bc ≤ MC by omega) (show n + bs ≤ MS by omega) (xt_w1 hB.1 m_73e65e5f) (xt_cdOf hB.1 m_73e65e5f) (hts _ m_9c375545) hB hR hS hA (fun vv h12 bc13 bs13 kk13 nn13 H locs hk13 hn13 hq hEh12 hR hS => ?_) (fun XX ax h12 bc13 bs13 kk13 nn13 H locs hk13 hn13 hq hEh12 hex hR hS => ?_)
    · obtain ⟨rfl, hw⟩ := hq
      have hw := hw hEh12
      have hE := hE.tr hEh12
      refine W.eq (g2 := F0 m 185 ls []) rfl ?_
      exact am_Checker_checkExpression_L185 l hfl D A σ MC MS h0 Qr Qt h12 bc13 bs13 hw p e s m args below meth c hC H locs ls (k + kk13) (n + nn13) hE (lv_sub hl [] rfl) hR hS (by omega) (by omega)
    · exact xb_pass hlocks (fun x hx9 => by rw [htab] at hx9; first | (cases hx9; done) | (simp [tableOf] at hx9; subst hx9; decide) | (simp [tableOf] at hx9; rcases hx9 with rfl | rfl <;> decide) | (simp [tableOf] at hx9; rcases hx9 with rfl | rfl | rfl <;> decide)) (show (k + kk13) + bc13 ≤ MC by omega) (show (n + nn13) + bs13 ≤ MS by omega) (hE.tr hEh12) hR hS hex hq

set_option maxHeartbeats 4000000 in
set_option maxRecDepth 100000 in
theorem am_Checker_checkExpression_L144 (l : Launch) (hfl : l.flags = pinnedFlags ++ [noTraceFlag]) (D : va_G) (A : Nat → Prop) (σ MC MS : Nat) (h0 : xb_H) (Qr : xb_H → Nat → Nat → Prop) (Qt : String → xb_H → Nat → Nat → Prop) (x0 : Nat) (x1 : Int32) (h : xb_H) (bc : Nat) (bs : Nat) (hw : w_Checker_checkExpression_L144 Qr Qt x0 x1 h bc bs) : xb_am l D A σ 3 MC MS h0 (fun v h bc bs => v = none ∧ Qr h bc bs) Qt y_Checker_checkExpression.cls y_Checker_checkExpression.name b_Checker_checkExpression 5 ([] : List ExceptionTableEntry) none 144 [(0, .ref x0), (1, .int x1)] [] h bc bs := by
  unfold w_Checker_checkExpression_L144 at hw
  intro p e s m args below meth c hC H locs ls k n hE hl hR hS hk hn
  obtain ⟨hx, hb, hown, hlocks, htab, hml, hr, hB, hA, hnm⟩ := id hC
  have hts := hB.1.1.at args
  refine lv_aload_n hx hb (xb_d D_Checker_checkExpression 75 rfl) rfl (lv_at hl 0 rfl) ?_
  obtain ⟨hk1, hw⟩ := hw
  refine xb_getP (C := R_Checker) (T := F_Checker) (N := 17) hx hb 4 0 hts fin_Checker hown hR hk1 (by decide) rfl (by decide) rfl (hts _ m_070795bc) (fun _ h9 => h9) (xb_d D_Checker_checkExpression 76 rfl) ?_
  obtain ⟨b2, eb2, hw⟩ := hw
  refine xb_some eb2 ?_
  refine lv_bipush (v := 26) hx hb (xb_d D_Checker_checkExpression 77 rfl) (by decide) ?_
  refine lv_iload_n hx hb (xb_d D_Checker_checkExpression 78 rfl) rfl (lv_at hl 1 rfl) ?_
  obtain ⟨hk3, hw⟩ := hw
  refine xb_call (D := D) (A := A) (σ := σ) (h := h) (d := 2) (mc := bc) (ms := bs) (maxL := 3) (rest := []) (av := [.ref b2, .int 26, .int x1]) (fun T hT X => by obtain ⟨cb9, ra9, rb9, rc9⟩ := xb_recv (ci := 2) hR rfl hk3 (by decide); exact xt_invV X hx hown (hts _ m_1d37521a) (hts _ m_865d5b07) (hts _ m_113f8f75) (xt_sigOf (hts _ m_73e65e5f)) nm_StackModule_fail (by rw [hT]; exact ra9) rb9 rc9 (g := F0 m 151 ls [.int x1, .int 26, .ref b2]) rfl (argsL := [.int 26, .int x1]) (rest := []) rfl rfl (by rw [hb]; exact (xb_d D_Checker_checkExpression 79 rfl))) (ok_StackModule_fail l hfl D A σ b2 26 x1 h bc bs _ _ hw) (hml.trans hl.1.symm) (by rw [hb]; exact (xb_d D_Checker_checkExpression 79 rfl)) (Nat.le_of_ble_eq_true rfl) (Nat.le_of_ble_eq_true rfl) (Nat.le_of_ble_eq_true rfl) (show k + bc ≤ MC by omega) (show n + bs ≤ MS by omega) (xt_w1 hB.1 m_73e65e5f) (xt_cdOf hB.1 m_73e65e5f) (hts _ m_9c375545) hB hR hS hA (fun vv h4 bc5 bs5 kk5 nn5 H locs hk5 hn5 hq hEh4 hR hS => ?_) (fun XX ax h4 bc5 bs5 kk5 nn5 H locs hk5 hn5 hq hEh4 hex hR hS => ?_)
  · obtain ⟨rfl, hw⟩ := hq
    have hw := hw hEh4
    have hE := hE.tr hEh4
    refine W.eq (g2 := F0 m 154 ls []) rfl ?_
    exact am_Checker_checkExpression_L154 l hfl D A σ MC MS h0 Qr Qt x0 x1 h4 bc5 bs5 hw p e s m args below meth c hC H locs ls (k + kk5) (n + nn5) hE (lv_sub hl [0, 1] rfl) hR hS (by omega) (by omega)
  · exact xb_pass hlocks (fun x hx9 => by rw [htab] at hx9; first | (cases hx9; done) | (simp [tableOf] at hx9; subst hx9; decide) | (simp [tableOf] at hx9; rcases hx9 with rfl | rfl <;> decide) | (simp [tableOf] at hx9; rcases hx9 with rfl | rfl | rfl <;> decide)) (show (k + kk5) + bc5 ≤ MC by omega) (show (n + nn5) + bs5 ≤ MS by omega) (hE.tr hEh4) hR hS hex hq

set_option maxHeartbeats 4000000 in
set_option maxRecDepth 100000 in
theorem am_Checker_checkExpression_L105 (l : Launch) (hfl : l.flags = pinnedFlags ++ [noTraceFlag]) (D : va_G) (A : Nat → Prop) (σ MC MS : Nat) (h0 : xb_H) (Qr : xb_H → Nat → Nat → Prop) (Qt : String → xb_H → Nat → Nat → Prop) (x0 : Nat) (x1 : Int32) (h : xb_H) (bc : Nat) (bs : Nat) (hw : w_Checker_checkExpression_L105 Qr Qt x0 x1 h bc bs) : xb_am l D A σ 3 MC MS h0 (fun v h bc bs => v = none ∧ Qr h bc bs) Qt y_Checker_checkExpression.cls y_Checker_checkExpression.name b_Checker_checkExpression 5 ([] : List ExceptionTableEntry) none 105 [(0, .ref x0), (1, .int x1)] [] h bc bs := by
  unfold w_Checker_checkExpression_L105 at hw
  intro p e s m args below meth c hC H locs ls k n hE hl hR hS hk hn
  obtain ⟨hx, hb, hown, hlocks, htab, hml, hr, hB, hA, hnm⟩ := id hC
  have hts := hB.1.1.at args
  refine lv_goto (tgt := 154) hx hb (xb_d D_Checker_checkExpression 55 rfl) rfl ?_
  exact am_Checker_checkExpression_L154 l hfl D A σ MC MS h0 Qr Qt x0 x1 h bc bs hw p e s m args below meth c hC H locs ls k n hE (lv_sub hl [0, 1] rfl) hR hS (by omega) (by omega)

set_option maxHeartbeats 4000000 in
set_option maxRecDepth 100000 in
theorem am_Checker_checkExpression_L78 (l : Launch) (hfl : l.flags = pinnedFlags ++ [noTraceFlag]) (D : va_G) (A : Nat → Prop) (σ MC MS : Nat) (h0 : xb_H) (Qr : xb_H → Nat → Nat → Prop) (Qt : String → xb_H → Nat → Nat → Prop) (x0 : Nat) (x1 : Int32) (x2 : Int32) (x4 : Int32) (h : xb_H) (bc : Nat) (bs : Nat) (hw : w_Checker_checkExpression_L78 Qr Qt x0 x1 x2 x4 h bc bs) : xb_am l D A σ 3 MC MS h0 (fun v h bc bs => v = none ∧ Qr h bc bs) Qt y_Checker_checkExpression.cls y_Checker_checkExpression.name b_Checker_checkExpression 5 ([] : List ExceptionTableEntry) none 78 [(0, .ref x0), (1, .int x1), (2, .int x2), (4, .int x4)] [] h bc bs := by
  unfold w_Checker_checkExpression_L78 at hw
  intro p e s m args below meth c hC H locs ls k n hE hl hR hS hk hn
  obtain ⟨hx, hb, hown, hlocks, htab, hml, hr, hB, hA, hnm⟩ := id hC
  have hts := hB.1.1.at args
  refine lv_aload_n hx hb (xb_d D_Checker_checkExpression 42 rfl) rfl (lv_at hl 0 rfl) ?_
  obtain ⟨hk1, hw⟩ := hw
  refine xb_getP (C := R_Checker) (T := F_Checker) (N := 17) hx hb 4 0 hts fin_Checker hown hR hk1 (by decide) rfl (by decide) rfl (hts _ m_070795bc) (fun _ h9 => h9) (xb_d D_Checker_checkExpression 43 rfl) ?_
  obtain ⟨b2, eb2, hw⟩ := hw
  refine xb_some eb2 ?_
  obtain ⟨hk3, hw⟩ := hw
  refine xb_getP (C := R_StackModule) (T := F_StackModule) (N := 19) hx hb 2 7 hts fin_StackModule hown hR hk3 (by decide) rfl (by decide) rfl (hts _ m_d3e8f814) (fun _ h9 => h9) (xb_d D_Checker_checkExpression 44 rfl) ?_
  obtain ⟨b4, eb4, hw⟩ := hw
  refine xb_some eb4 ?_
  refine lv_iload hx hb (xb_d D_Checker_checkExpression 45 rfl) (lv_at hl 3 rfl) ?_
  refine lv_iconst (v := 1) hx hb (xb_d D_Checker_checkExpression 46 rfl) (by decide) ?_
  obtain ⟨hk5, hw⟩ := hw
  refine xb_call0 (D := D) (A := A) (σ := σ) (h := h) (d := 2) (maxL := 3) (rest := []) (av := [.ref b4, .int x4, .int 1]) (fun T hT X => by obtain ⟨cb9, ra9, rb9, rc9⟩ := xb_recv (ci := 1) hR rfl hk5 (by decide); exact xt_invV X hx hown (hts _ m_068feb96) (hts _ m_8e233096) (hts _ m_27eed10c) (xt_sigOf (hts _ m_ff1c70ae)) nm_Row_at (by rw [hT]; exact ra9) rb9 rc9 (g := F0 m 88 ls [.int 1, .int x4, .ref b4]) rfl (argsL := [.int x4, .int 1]) (rest := []) rfl rfl (by rw [hb]; exact (xb_d D_Checker_checkExpression 47 rfl))) (ok_Row_at l hfl D A σ b4 x4 1 h _ hw) (hml.trans hl.1.symm) (by rw [hb]; exact (xb_d D_Checker_checkExpression 47 rfl)) (Nat.le_of_ble_eq_true rfl) (Nat.le_of_ble_eq_true rfl) (Nat.le_of_ble_eq_true rfl) (show k ≤ MC by omega) (show n ≤ MS by omega) (xt_w1 hB.1 m_ff1c70ae) (xt_cdOf hB.1 m_ff1c70ae) (hts _ m_c1bef504) hB hR hS hA (fun vv h6 H locs hq hEh6 hR hS => ?_)
  obtain ⟨r7, rfl, hw⟩ := hq
  have hw := hw hEh6
  have hE := hE.tr hEh6
  refine W.eq (g2 := F0 m 91 ls [.int r7]) rfl ?_
  refine lv_iload_n hx hb (xb_d D_Checker_checkExpression 48 rfl) rfl (lv_at hl 2 rfl) ?_
  refine lv_icmp_eq (tgt := 105) hx hb (xb_d D_Checker_checkExpression 49 rfl) rfl (fun hc8 => ?_) (fun hc8 => ?_)
  · have hw := hw.1 hc8
    exact am_Checker_checkExpression_L105 l hfl D A σ MC MS h0 Qr Qt x0 x1 h6 bc bs hw p e s m args below meth c hC H locs ls k n hE (lv_sub hl [0, 1] rfl) hR hS (by omega) (by omega)
  · have hw := hw.2 hc8
    refine lv_aload_n hx hb (xb_d D_Checker_checkExpression 50 rfl) rfl (lv_at hl 0 rfl) ?_
    have hk1 : xb_k h6 x0 = 5 := hEh6.k hk1
    refine xb_getP (C := R_Checker) (T := F_Checker) (N := 17) hx hb 4 0 hts fin_Checker hown hR hk1 (by decide) rfl (by decide) rfl (hts _ m_070795bc) (fun _ h9 => h9) (xb_d D_Checker_checkExpression 51 rfl) ?_
    obtain ⟨b9, eb9, hw⟩ := hw
    refine xb_some eb9 ?_
    refine lv_bipush (v := 21) hx hb (xb_d D_Checker_checkExpression 52 rfl) (by decide) ?_
    refine lv_iload_n hx hb (xb_d D_Checker_checkExpression 53 rfl) rfl (lv_at hl 1 rfl) ?_
    obtain ⟨hk10, hw⟩ := hw
    refine xb_call (D := D) (A := A) (σ := σ) (h := h6) (d := 2) (mc := bc) (ms := bs) (maxL := 3) (rest := []) (av := [.ref b9, .int 21, .int x1]) (fun T hT X => by obtain ⟨cb9, ra9, rb9, rc9⟩ := xb_recv (ci := 2) hR rfl hk10 (by decide); exact xt_invV X hx hown (hts _ m_1d37521a) (hts _ m_865d5b07) (hts _ m_113f8f75) (xt_sigOf (hts _ m_73e65e5f)) nm_StackModule_fail (by rw [hT]; exact ra9) rb9 rc9 (g := F0 m 102 ls [.int x1, .int 21, .ref b9]) rfl (argsL := [.int 21, .int x1]) (rest := []) rfl rfl (by rw [hb]; exact (xb_d D_Checker_checkExpression 54 rfl))) (ok_StackModule_fail l hfl D A σ b9 21 x1 h6 bc bs _ _ hw) (hml.trans hl.1.symm) (by rw [hb]; exact (xb_d D_Checker_checkExpression 54 rfl)) (Nat.le_of_ble_eq_true rfl) (Nat.le_of_ble_eq_true rfl) (Nat.le_of_ble_eq_true rfl) (show k + bc ≤ MC by omega) (show n + bs ≤ MS by omega) (xt_w1 hB.1 m_73e65e5f) (xt_cdOf hB.1 m_73e65e5f) (hts _ m_9c375545) hB hR hS hA (fun vv h11 bc12 bs12 kk12 nn12 H locs hk12 hn12 hq hEh11 hR hS => ?_) (fun XX ax h11 bc12 bs12 kk12 nn12 H locs hk12 hn12 hq hEh11 hex hR hS => ?_)
    · obtain ⟨rfl, hw⟩ := hq
      have hw := hw hEh11
      have hE := hE.tr hEh11
      refine W.eq (g2 := F0 m 105 ls []) rfl ?_
      exact am_Checker_checkExpression_L105 l hfl D A σ MC MS h0 Qr Qt x0 x1 h11 bc12 bs12 hw p e s m args below meth c hC H locs ls (k + kk12) (n + nn12) hE (lv_sub hl [0, 1] rfl) hR hS (by omega) (by omega)
    · exact xb_pass hlocks (fun x hx9 => by rw [htab] at hx9; first | (cases hx9; done) | (simp [tableOf] at hx9; subst hx9; decide) | (simp [tableOf] at hx9; rcases hx9 with rfl | rfl <;> decide) | (simp [tableOf] at hx9; rcases hx9 with rfl | rfl | rfl <;> decide)) (show (k + kk12) + bc12 ≤ MC by omega) (show (n + nn12) + bs12 ≤ MS by omega) (hE.tr hEh11) hR hS hex hq

set_option maxHeartbeats 4000000 in
set_option maxRecDepth 100000 in
theorem am_Checker_checkExpression_L51 (l : Launch) (hfl : l.flags = pinnedFlags ++ [noTraceFlag]) (D : va_G) (A : Nat → Prop) (σ MC MS : Nat) (h0 : xb_H) (Qr : xb_H → Nat → Nat → Prop) (Qt : String → xb_H → Nat → Nat → Prop) (x0 : Nat) (x1 : Int32) (x2 : Int32) (x4 : Int32) (h : xb_H) (bc : Nat) (bs : Nat) (hw : w_Checker_checkExpression_L51 Qr Qt x0 x1 x2 x4 h bc bs) : xb_am l D A σ 3 MC MS h0 (fun v h bc bs => v = none ∧ Qr h bc bs) Qt y_Checker_checkExpression.cls y_Checker_checkExpression.name b_Checker_checkExpression 5 ([] : List ExceptionTableEntry) none 51 [(0, .ref x0), (1, .int x1), (2, .int x2), (4, .int x4)] [] h bc bs := by
  unfold w_Checker_checkExpression_L51 at hw
  intro p e s m args below meth c hC H locs ls k n hE hl hR hS hk hn
  obtain ⟨hx, hb, hown, hlocks, htab, hml, hr, hB, hA, hnm⟩ := id hC
  have hts := hB.1.1.at args
  refine lv_aload_n hx hb (xb_d D_Checker_checkExpression 29 rfl) rfl (lv_at hl 0 rfl) ?_
  obtain ⟨hk1, hw⟩ := hw
  refine xb_getP (C := R_Checker) (T := F_Checker) (N := 17) hx hb 4 0 hts fin_Checker hown hR hk1 (by decide) rfl (by decide) rfl (hts _ m_070795bc) (fun _ h9 => h9) (xb_d D_Checker_checkExpression 30 rfl) ?_
  obtain ⟨b2, eb2, hw⟩ := hw
  refine xb_some eb2 ?_
  obtain ⟨hk3, hw⟩ := hw
  refine xb_getP (C := R_StackModule) (T := F_StackModule) (N := 19) hx hb 2 7 hts fin_StackModule hown hR hk3 (by decide) rfl (by decide) rfl (hts _ m_d3e8f814) (fun _ h9 => h9) (xb_d D_Checker_checkExpression 31 rfl) ?_
  obtain ⟨b4, eb4, hw⟩ := hw
  refine xb_some eb4 ?_
  refine lv_iload hx hb (xb_d D_Checker_checkExpression 32 rfl) (lv_at hl 3 rfl) ?_
  refine lv_iconst (v := 2) hx hb (xb_d D_Checker_checkExpression 33 rfl) (by decide) ?_
  obtain ⟨hk5, hw⟩ := hw
  refine xb_call0 (D := D) (A := A) (σ := σ) (h := h) (d := 2) (maxL := 3) (rest := []) (av := [.ref b4, .int x4, .int 2]) (fun T hT X => by obtain ⟨cb9, ra9, rb9, rc9⟩ := xb_recv (ci := 1) hR rfl hk5 (by decide); exact xt_invV X hx hown (hts _ m_068feb96) (hts _ m_8e233096) (hts _ m_27eed10c) (xt_sigOf (hts _ m_ff1c70ae)) nm_Row_at (by rw [hT]; exact ra9) rb9 rc9 (g := F0 m 61 ls [.int 2, .int x4, .ref b4]) rfl (argsL := [.int x4, .int 2]) (rest := []) rfl rfl (by rw [hb]; exact (xb_d D_Checker_checkExpression 34 rfl))) (ok_Row_at l hfl D A σ b4 x4 2 h _ hw) (hml.trans hl.1.symm) (by rw [hb]; exact (xb_d D_Checker_checkExpression 34 rfl)) (Nat.le_of_ble_eq_true rfl) (Nat.le_of_ble_eq_true rfl) (Nat.le_of_ble_eq_true rfl) (show k ≤ MC by omega) (show n ≤ MS by omega) (xt_w1 hB.1 m_ff1c70ae) (xt_cdOf hB.1 m_ff1c70ae) (hts _ m_c1bef504) hB hR hS hA (fun vv h6 H locs hq hEh6 hR hS => ?_)
  obtain ⟨r7, rfl, hw⟩ := hq
  have hw := hw hEh6
  have hE := hE.tr hEh6
  refine W.eq (g2 := F0 m 64 ls [.int r7]) rfl ?_
  refine lv_iconst (v := 1) hx hb (xb_d D_Checker_checkExpression 35 rfl) (by decide) ?_
  refine lv_icmp_ne (tgt := 78) hx hb (xb_d D_Checker_checkExpression 36 rfl) rfl (fun hc8 => ?_) (fun hc8 => ?_)
  · have hw := hw.1 hc8
    exact am_Checker_checkExpression_L78 l hfl D A σ MC MS h0 Qr Qt x0 x1 x2 x4 h6 bc bs hw p e s m args below meth c hC H locs ls k n hE (lv_sub hl [0, 1, 2, 3] rfl) hR hS (by omega) (by omega)
  · have hw := hw.2 hc8
    refine lv_aload_n hx hb (xb_d D_Checker_checkExpression 37 rfl) rfl (lv_at hl 0 rfl) ?_
    have hk1 : xb_k h6 x0 = 5 := hEh6.k hk1
    refine xb_getP (C := R_Checker) (T := F_Checker) (N := 17) hx hb 4 0 hts fin_Checker hown hR hk1 (by decide) rfl (by decide) rfl (hts _ m_070795bc) (fun _ h9 => h9) (xb_d D_Checker_checkExpression 38 rfl) ?_
    obtain ⟨b9, eb9, hw⟩ := hw
    refine xb_some eb9 ?_
    refine lv_bipush (v := 26) hx hb (xb_d D_Checker_checkExpression 39 rfl) (by decide) ?_
    refine lv_iload_n hx hb (xb_d D_Checker_checkExpression 40 rfl) rfl (lv_at hl 1 rfl) ?_
    obtain ⟨hk10, hw⟩ := hw
    refine xb_call (D := D) (A := A) (σ := σ) (h := h6) (d := 2) (mc := bc) (ms := bs) (maxL := 3) (rest := []) (av := [.ref b9, .int 26, .int x1]) (fun T hT X => by obtain ⟨cb9, ra9, rb9, rc9⟩ := xb_recv (ci := 2) hR rfl hk10 (by decide); exact xt_invV X hx hown (hts _ m_1d37521a) (hts _ m_865d5b07) (hts _ m_113f8f75) (xt_sigOf (hts _ m_73e65e5f)) nm_StackModule_fail (by rw [hT]; exact ra9) rb9 rc9 (g := F0 m 75 ls [.int x1, .int 26, .ref b9]) rfl (argsL := [.int 26, .int x1]) (rest := []) rfl rfl (by rw [hb]; exact (xb_d D_Checker_checkExpression 41 rfl))) (ok_StackModule_fail l hfl D A σ b9 26 x1 h6 bc bs _ _ hw) (hml.trans hl.1.symm) (by rw [hb]; exact (xb_d D_Checker_checkExpression 41 rfl)) (Nat.le_of_ble_eq_true rfl) (Nat.le_of_ble_eq_true rfl) (Nat.le_of_ble_eq_true rfl) (show k + bc ≤ MC by omega) (show n + bs ≤ MS by omega) (xt_w1 hB.1 m_73e65e5f) (xt_cdOf hB.1 m_73e65e5f) (hts _ m_9c375545) hB hR hS hA (fun vv h11 bc12 bs12 kk12 nn12 H locs hk12 hn12 hq hEh11 hR hS => ?_) (fun XX ax h11 bc12 bs12 kk12 nn12 H locs hk12 hn12 hq hEh11 hex hR hS => ?_)
    · obtain ⟨rfl, hw⟩ := hq
      have hw := hw hEh11
      have hE := hE.tr hEh11
      refine W.eq (g2 := F0 m 78 ls []) rfl ?_
      exact am_Checker_checkExpression_L78 l hfl D A σ MC MS h0 Qr Qt x0 x1 x2 x4 h11 bc12 bs12 hw p e s m args below meth c hC H locs ls (k + kk12) (n + nn12) hE (lv_sub hl [0, 1, 2, 3] rfl) hR hS (by omega) (by omega)
    · exact xb_pass hlocks (fun x hx9 => by rw [htab] at hx9; first | (cases hx9; done) | (simp [tableOf] at hx9; subst hx9; decide) | (simp [tableOf] at hx9; rcases hx9 with rfl | rfl <;> decide) | (simp [tableOf] at hx9; rcases hx9 with rfl | rfl | rfl <;> decide)) (show (k + kk12) + bc12 ≤ MC by omega) (show (n + nn12) + bs12 ≤ MS by omega) (hE.tr hEh11) hR hS hex hq

set_option maxHeartbeats 4000000 in
set_option maxRecDepth 100000 in
theorem ok_Checker_checkExpression (l : Launch) (hfl : l.flags = pinnedFlags ++ [noTraceFlag]) (D : va_G) (A : Nat → Prop) (σ : Nat) (x0 : Nat) (x1 : Int32) (x2 : Int32) (h : xb_H) (bc : Nat) (bs : Nat) (Qr : xb_H → Nat → Nat → Prop) (Qt : String → xb_H → Nat → Nat → Prop) (hw : w_Checker_checkExpression x0 x1 x2 h bc bs Qr Qt) : xb_Met l y_Checker_checkExpression [.code y_Checker_checkExpression b_Checker_checkExpression 5 none] (xb_rm 3 bc bs) (xb_Pc D A σ h [.ref x0, .int x1, .int x2]) (xb_Qc D A h bc bs (fun v h bc bs => v = none ∧ Qr h bc bs) Qt) A := by
  refine xb_ofAm (cc := b_Checker_checkExpression) (by decide) (Nat.le_of_ble_eq_true rfl) ?_
  unfold w_Checker_checkExpression at hw
  show xb_am l D A σ 3 bc bs h (fun v h bc bs => v = none ∧ Qr h bc bs) Qt y_Checker_checkExpression.cls y_Checker_checkExpression.name b_Checker_checkExpression 5 ([] : List ExceptionTableEntry) none 0 [(0, .ref x0), (1, .int x1), (2, .int x2)] [] h bc bs
  obtain ⟨MC, hMC⟩ : ∃ x, x = bc := ⟨_, rfl⟩
  obtain ⟨MS, hMS⟩ : ∃ x, x = bs := ⟨_, rfl⟩
  rw [show xb_am l D A σ 3 bc bs = xb_am l D A σ 3 MC MS by rw [hMC, hMS]]
  obtain ⟨h0, hh0⟩ : ∃ x, x = h := ⟨_, rfl⟩
  rw [show xb_am l D A σ 3 MC MS h = xb_am l D A σ 3 MC MS h0 by rw [hh0]]
  intro p e s m args below meth c hC H locs ls k n hE hl hR hS hk hn
  obtain ⟨hx, hb, hown, hlocks, htab, hml, hr, hB, hA, hnm⟩ := id hC
  have hts := hB.1.1.at args
  refine lv_aload_n hx hb (xb_d D_Checker_checkExpression 0 rfl) rfl (lv_at hl 0 rfl) ?_
  obtain ⟨hk1, hw⟩ := hw
  refine xb_getP (C := R_Checker) (T := F_Checker) (N := 17) hx hb 4 1 hts fin_Checker hown hR hk1 (by decide) rfl (by decide) rfl (hts _ m_8db7c2eb) (fun _ h9 => h9) (xb_d D_Checker_checkExpression 1 rfl) ?_
  obtain ⟨b2, eb2, hw⟩ := hw
  refine xb_some eb2 ?_
  refine lv_iload_n hx hb (xb_d D_Checker_checkExpression 2 rfl) rfl (lv_at hl 1 rfl) ?_
  obtain ⟨hk4, hw⟩ := hw
  obtain ⟨hi3, hw⟩ := hw
  refine xb_bald hx hb hR hk4 hi3 (xb_d D_Checker_checkExpression 3 rfl) ?_
  obtain ⟨v5, ev5⟩ : ∃ x : Int32, x = (xb_i h b2 (Int32.toNatClampNeg x1)) := ⟨_, rfl⟩
  have hw := hw v5 ev5
  refine xt_numi (y := v5) ev5.symm ?_
  refine lv_istore_n hx hb (xb_d D_Checker_checkExpression 4 rfl) rfl hl (by decide) rfl (fun ls hl => ?_)
  have hl : lv_has ls 5 [(3, .int v5), (0, .ref x0), (1, .int x1), (2, .int x2)] := hl
  refine lv_iload_n hx hb (xb_d D_Checker_checkExpression 5 rfl) rfl (lv_at hl 0 rfl) ?_
  refine lv_bipush (v := 35) hx hb (xb_d D_Checker_checkExpression 6 rfl) (by decide) ?_
  refine lv_icmp_ne (tgt := 108) hx hb (xb_d D_Checker_checkExpression 7 rfl) rfl (fun hc6 => ?_) (fun hc6 => ?_)
  · have hw := hw.1 hc6
    refine lv_iload_n hx hb (xb_d D_Checker_checkExpression 56 rfl) rfl (lv_at hl 0 rfl) ?_
    refine lv_bipush (v := 65) hx hb (xb_d D_Checker_checkExpression 57 rfl) (by decide) ?_
    refine lv_icmp_lt (tgt := 144) hx hb (xb_d D_Checker_checkExpression 58 rfl) rfl (fun hc7 => ?_) (fun hc7 => ?_)
    · have hw := hw.1 hc7
      exact am_Checker_checkExpression_L144 l hfl D A σ MC MS h0 Qr Qt x0 x1 h bc bs hw p e s m args below meth c hC H locs ls k n hE (lv_sub hl [1, 2] rfl) hR hS (by omega) (by omega)
    · have hw := hw.2 hc7
      refine lv_iload_n hx hb (xb_d D_Checker_checkExpression 59 rfl) rfl (lv_at hl 0 rfl) ?_
      refine lv_bipush (v := 68) hx hb (xb_d D_Checker_checkExpression 60 rfl) (by decide) ?_
      refine lv_icmp_gt (tgt := 144) hx hb (xb_d D_Checker_checkExpression 61 rfl) rfl (fun hc8 => ?_) (fun hc8 => ?_)
      · have hw := hw.1 hc8
        exact am_Checker_checkExpression_L144 l hfl D A σ MC MS h0 Qr Qt x0 x1 h bc bs hw p e s m args below meth c hC H locs ls k n hE (lv_sub hl [1, 2] rfl) hR hS (by omega) (by omega)
      · have hw := hw.2 hc8
        refine lv_bipush (v := 127) hx hb (xb_d D_Checker_checkExpression 62 rfl) (by decide) ?_
        refine lv_iload_n hx hb (xb_d D_Checker_checkExpression 63 rfl) rfl (lv_at hl 0 rfl) ?_
        refine lv_bipush (v := 65) hx hb (xb_d D_Checker_checkExpression 64 rfl) (by decide) ?_
        refine lv_isub hx hb (xb_d D_Checker_checkExpression 65 rfl) ?_
        refine lv_isub hx hb (xb_d D_Checker_checkExpression 66 rfl) ?_
        refine lv_iload_n hx hb (xb_d D_Checker_checkExpression 67 rfl) rfl (lv_at hl 3 rfl) ?_
        refine lv_icmp_eq (tgt := 154) hx hb (xb_d D_Checker_checkExpression 68 rfl) rfl (fun hc9 => ?_) (fun hc9 => ?_)
        · have hw := hw.1 hc9
          exact am_Checker_checkExpression_L154 l hfl D A σ MC MS h0 Qr Qt x0 x1 h bc bs hw p e s m args below meth c hC H locs ls k n hE (lv_sub hl [1, 2] rfl) hR hS (by omega) (by omega)
        · have hw := hw.2 hc9
          refine lv_aload_n hx hb (xb_d D_Checker_checkExpression 69 rfl) rfl (lv_at hl 1 rfl) ?_
          refine xb_getP (C := R_Checker) (T := F_Checker) (N := 17) hx hb 4 0 hts fin_Checker hown hR hk1 (by decide) rfl (by decide) rfl (hts _ m_070795bc) (fun _ h9 => h9) (xb_d D_Checker_checkExpression 70 rfl) ?_
          obtain ⟨b10, eb10, hw⟩ := hw
          refine xb_some eb10 ?_
          refine lv_bipush (v := 21) hx hb (xb_d D_Checker_checkExpression 71 rfl) (by decide) ?_
          refine lv_iload_n hx hb (xb_d D_Checker_checkExpression 72 rfl) rfl (lv_at hl 2 rfl) ?_
          obtain ⟨hk11, hw⟩ := hw
          refine xb_call (D := D) (A := A) (σ := σ) (h := h) (d := 2) (mc := bc) (ms := bs) (maxL := 3) (rest := []) (av := [.ref b10, .int 21, .int x1]) (fun T hT X => by obtain ⟨cb9, ra9, rb9, rc9⟩ := xb_recv (ci := 2) hR rfl hk11 (by decide); exact xt_invV X hx hown (hts _ m_1d37521a) (hts _ m_865d5b07) (hts _ m_113f8f75) (xt_sigOf (hts _ m_73e65e5f)) nm_StackModule_fail (by rw [hT]; exact ra9) rb9 rc9 (g := F0 m 138 ls [.int x1, .int 21, .ref b10]) rfl (argsL := [.int 21, .int x1]) (rest := []) rfl rfl (by rw [hb]; exact (xb_d D_Checker_checkExpression 73 rfl))) (ok_StackModule_fail l hfl D A σ b10 21 x1 h bc bs _ _ hw) (hml.trans hl.1.symm) (by rw [hb]; exact (xb_d D_Checker_checkExpression 73 rfl)) (Nat.le_of_ble_eq_true rfl) (Nat.le_of_ble_eq_true rfl) (Nat.le_of_ble_eq_true rfl) (show k + bc ≤ MC by omega) (show n + bs ≤ MS by omega) (xt_w1 hB.1 m_73e65e5f) (xt_cdOf hB.1 m_73e65e5f) (hts _ m_9c375545) hB hR hS hA (fun vv h12 bc13 bs13 kk13 nn13 H locs hk13 hn13 hq hEh12 hR hS => ?_) (fun XX ax h12 bc13 bs13 kk13 nn13 H locs hk13 hn13 hq hEh12 hex hR hS => ?_)
          · obtain ⟨rfl, hw⟩ := hq
            have hw := hw hEh12
            have hE := hE.tr hEh12
            refine W.eq (g2 := F0 m 141 ls []) rfl ?_
            refine lv_goto (tgt := 154) hx hb (xb_d D_Checker_checkExpression 74 rfl) rfl ?_
            exact am_Checker_checkExpression_L154 l hfl D A σ MC MS h0 Qr Qt x0 x1 h12 bc13 bs13 hw p e s m args below meth c hC H locs ls (k + kk13) (n + nn13) hE (lv_sub hl [1, 2] rfl) hR hS (by omega) (by omega)
          · exact xb_pass hlocks (fun x hx9 => by rw [htab] at hx9; first | (cases hx9; done) | (simp [tableOf] at hx9; subst hx9; decide) | (simp [tableOf] at hx9; rcases hx9 with rfl | rfl <;> decide) | (simp [tableOf] at hx9; rcases hx9 with rfl | rfl | rfl <;> decide)) (show (k + kk13) + bc13 ≤ MC by omega) (show (n + nn13) + bs13 ≤ MS by omega) (hE.tr hEh12) hR hS hex hq
  · have hw := hw.2 hc6
    refine lv_aload_n hx hb (xb_d D_Checker_checkExpression 8 rfl) rfl (lv_at hl 1 rfl) ?_
    refine xb_getP (C := R_Checker) (T := F_Checker) (N := 17) hx hb 4 2 hts fin_Checker hown hR hk1 (by decide) rfl (by decide) rfl (hts _ m_b5ef1148) (fun _ h9 => h9) (xb_d D_Checker_checkExpression 9 rfl) ?_
    obtain ⟨b14, eb14, hw⟩ := hw
    refine xb_some eb14 ?_
    refine lv_iload_n hx hb (xb_d D_Checker_checkExpression 10 rfl) rfl (lv_at hl 2 rfl) ?_
    refine lv_iconst (v := 1) hx hb (xb_d D_Checker_checkExpression 11 rfl) (by decide) ?_
    refine lv_iadd hx hb (xb_d D_Checker_checkExpression 12 rfl) ?_
    obtain ⟨hk16, hw⟩ := hw
    obtain ⟨hi15, hw⟩ := hw
    refine xb_iald hx hb hR hk16 hi15 (xb_d D_Checker_checkExpression 13 rfl) ?_
    obtain ⟨v17, ev17⟩ : ∃ x : Int32, x = (xb_i h b14 (Int32.toNatClampNeg (x1 + 1))) := ⟨_, rfl⟩
    have hw := hw v17 ev17
    refine xt_numi (y := v17) ev17.symm ?_
    refine lv_istore hx hb (xb_d D_Checker_checkExpression 14 rfl) hl (by decide) rfl (fun ls hl => ?_)
    have hl : lv_has ls 5 [(4, .int v17), (3, .int v5), (0, .ref x0), (1, .int x1), (2, .int x2)] := hl
    refine lv_iload hx hb (xb_d D_Checker_checkExpression 15 rfl) (lv_at hl 0 rfl) ?_
    refine lv_i2l hx hb (xb_d D_Checker_checkExpression 16 rfl) rfl ?_
    refine lv_aload_n hx hb (xb_d D_Checker_checkExpression 17 rfl) rfl (lv_at hl 2 rfl) ?_
    refine xb_getP (C := R_Checker) (T := F_Checker) (N := 17) hx hb 4 0 hts fin_Checker hown hR hk1 (by decide) rfl (by decide) rfl (hts _ m_070795bc) (fun _ h9 => h9) (xb_d D_Checker_checkExpression 18 rfl) ?_
    obtain ⟨b18, eb18, hw⟩ := hw
    refine xb_some eb18 ?_
    obtain ⟨hk19, hw⟩ := hw
    refine xb_getP (C := R_StackModule) (T := F_StackModule) (N := 19) hx hb 2 14 hts fin_StackModule hown hR hk19 (by decide) rfl (by decide) rfl (hts _ m_c2d0ffa0) (fun _ h9 => h9) (xb_d D_Checker_checkExpression 19 rfl) ?_
    obtain ⟨b20, eb20, hw⟩ := hw
    refine xb_some eb20 ?_
    refine lv_iconst (v := 3) hx hb (xb_d D_Checker_checkExpression 20 rfl) (by decide) ?_
    obtain ⟨hk22, hw⟩ := hw
    obtain ⟨hi21, hw⟩ := hw
    refine xb_iald hx hb hR hk22 hi21 (xb_d D_Checker_checkExpression 21 rfl) ?_
    refine xt_numi (y := (xb_i h b20 3)) (congrArg (xb_i h b20) (by decide : (3 : Int32).toNatClampNeg = 3)) ?_
    refine xb_call0 (D := D) (A := A) (σ := σ) (h := h) (d := 2) (maxL := 3) (rest := []) (av := [.long (Int32.toInt64 v17), .int (xb_i h b20 3)]) (fun T hT X => xt_invS X hx hown (hts _ m_fe08b245) (hts _ m_9ad1e0af) (hts _ m_44748ce5) (xt_sgS (hts _ m_2237aee6)).1 (xt_sgS (hts _ m_2237aee6)).2 nm_Checker_isThere (g := F0 m 35 ls [.int (xb_i h b20 3), .long (Int32.toInt64 v17)]) rfl (argsL := [.long (Int32.toInt64 v17), .int (xb_i h b20 3)]) (rest := []) rfl rfl (by rw [hb]; exact (xb_d D_Checker_checkExpression 22 rfl))) (ok_Checker_isThere l hfl D A σ (Int32.toInt64 v17) (xb_i h b20 3) h _ hw) (hml.trans hl.1.symm) (by rw [hb]; exact (xb_d D_Checker_checkExpression 22 rfl)) (Nat.le_of_ble_eq_true rfl) (Nat.le_of_ble_eq_true rfl) (Nat.le_of_ble_eq_true rfl) (show k ≤ MC by omega) (show n ≤ MS by omega) (xt_w1 hB.1 m_2237aee6) (xt_cdOf hB.1 m_2237aee6) (hts _ m_44748ce5) hB hR hS hA (fun vv h23 H locs hq hEh23 hR hS => ?_)
    obtain ⟨r24, rfl, hw⟩ := hq
    have hw := hw hEh23
    have hE := hE.tr hEh23
    refine W.eq (g2 := F0 m 38 ls [.int r24]) rfl ?_
    refine lv_if_ne (tgt := 51) hx hb (xb_d D_Checker_checkExpression 23 rfl) rfl (fun hc25 => ?_) (fun hc25 => ?_)
    · have hw := hw.1 hc25
      exact am_Checker_checkExpression_L51 l hfl D A σ MC MS h0 Qr Qt x0 x1 x2 v17 h23 bc bs hw p e s m args below meth c hC H locs ls k n hE (lv_sub hl [2, 3, 4, 0] rfl) hR hS (by omega) (by omega)
    · have hw := hw.2 hc25
      refine lv_aload_n hx hb (xb_d D_Checker_checkExpression 24 rfl) rfl (lv_at hl 2 rfl) ?_
      have hk1 : xb_k h23 x0 = 5 := hEh23.k hk1
      refine xb_getP (C := R_Checker) (T := F_Checker) (N := 17) hx hb 4 0 hts fin_Checker hown hR hk1 (by decide) rfl (by decide) rfl (hts _ m_070795bc) (fun _ h9 => h9) (xb_d D_Checker_checkExpression 25 rfl) ?_
      obtain ⟨b26, eb26, hw⟩ := hw
      refine xb_some eb26 ?_
      refine lv_bipush (v := 20) hx hb (xb_d D_Checker_checkExpression 26 rfl) (by decide) ?_
      refine lv_iload_n hx hb (xb_d D_Checker_checkExpression 27 rfl) rfl (lv_at hl 3 rfl) ?_
      obtain ⟨hk27, hw⟩ := hw
      refine xb_call (D := D) (A := A) (σ := σ) (h := h23) (d := 2) (mc := bc) (ms := bs) (maxL := 3) (rest := []) (av := [.ref b26, .int 20, .int x1]) (fun T hT X => by obtain ⟨cb9, ra9, rb9, rc9⟩ := xb_recv (ci := 2) hR rfl hk27 (by decide); exact xt_invV X hx hown (hts _ m_1d37521a) (hts _ m_865d5b07) (hts _ m_113f8f75) (xt_sigOf (hts _ m_73e65e5f)) nm_StackModule_fail (by rw [hT]; exact ra9) rb9 rc9 (g := F0 m 48 ls [.int x1, .int 20, .ref b26]) rfl (argsL := [.int 20, .int x1]) (rest := []) rfl rfl (by rw [hb]; exact (xb_d D_Checker_checkExpression 28 rfl))) (ok_StackModule_fail l hfl D A σ b26 20 x1 h23 bc bs _ _ hw) (hml.trans hl.1.symm) (by rw [hb]; exact (xb_d D_Checker_checkExpression 28 rfl)) (Nat.le_of_ble_eq_true rfl) (Nat.le_of_ble_eq_true rfl) (Nat.le_of_ble_eq_true rfl) (show k + bc ≤ MC by omega) (show n + bs ≤ MS by omega) (xt_w1 hB.1 m_73e65e5f) (xt_cdOf hB.1 m_73e65e5f) (hts _ m_9c375545) hB hR hS hA (fun vv h28 bc29 bs29 kk29 nn29 H locs hk29 hn29 hq hEh28 hR hS => ?_) (fun XX ax h28 bc29 bs29 kk29 nn29 H locs hk29 hn29 hq hEh28 hex hR hS => ?_)
      · obtain ⟨rfl, hw⟩ := hq
        have hw := hw hEh28
        have hE := hE.tr hEh28
        refine W.eq (g2 := F0 m 51 ls []) rfl ?_
        exact am_Checker_checkExpression_L51 l hfl D A σ MC MS h0 Qr Qt x0 x1 x2 v17 h28 bc29 bs29 hw p e s m args below meth c hC H locs ls (k + kk29) (n + nn29) hE (lv_sub hl [2, 3, 4, 0] rfl) hR hS (by omega) (by omega)
      · exact xb_pass hlocks (fun x hx9 => by rw [htab] at hx9; first | (cases hx9; done) | (simp [tableOf] at hx9; subst hx9; decide) | (simp [tableOf] at hx9; rcases hx9 with rfl | rfl <;> decide) | (simp [tableOf] at hx9; rcases hx9 with rfl | rfl | rfl <;> decide)) (show (k + kk29) + bc29 ≤ MC by omega) (show (n + nn29) + bs29 ≤ MS by omega) (hE.tr hEh28) hR hS hex hq

theorem m_74009c24 : (.fieldLink "StackHost$Checker" 118 "StackHost$StackModule" "functions" "LStackHost$Row;" : Cond) ∈ xt_tbl := xt_in (xt_t3 (List.mem_of_getElem? (i := 67) (by decide +kernel))) (by decide +kernel)
theorem m_e00feb7e : (.methodLink "StackHost$Checker" 121 y_Row_longAt : Cond) ∈ xt_tbl := xt_in (xt_t4 (List.mem_of_getElem? (i := 113) (by decide +kernel))) (by decide +kernel)
theorem m_8db3b24f : (.instanceMethod y_Row_longAt : Cond) ∈ xt_tbl := xt_in (xt_t4 (List.mem_of_getElem? (i := 114) (by decide +kernel))) (by decide +kernel)
theorem m_78dc30a4 : (.selects "StackHost$Row" y_Row_longAt y_Row_longAt : Cond) ∈ xt_tbl := xt_in (xt_t4 (List.mem_of_getElem? (i := 115) (by decide +kernel))) (by decide +kernel)
theorem m_a4177401 : (.code y_Row_longAt b_Row_longAt 3 (some .long) : Cond) ∈ xt_tbl := xt_in (xt_t4 (List.mem_of_getElem? (i := 116) (by decide +kernel))) (by decide +kernel)
theorem m_e7e89823 : (.fieldLink "StackHost$Checker" 87 "StackHost$StackModule" "types" "LStackHost$Row;" : Cond) ∈ xt_tbl := xt_in (xt_t3 (List.mem_of_getElem? (i := 57) (by decide +kernel))) (by decide +kernel)
theorem m_c8b950b4 : (.methodLink "StackHost$Checker" 77 y_Row_lines : Cond) ∈ xt_tbl := xt_in (xt_t4 (List.mem_of_getElem? (i := 99) (by decide +kernel))) (by decide +kernel)
theorem nm_Row_longAt : xt_nm y_Row_longAt 2 := ⟨by decide +kernel, by decide +kernel⟩
set_option maxRecDepth 100000 in
def T_Checker_checkFunction : List (Nat × Instr × Nat) := [(0, .aload_n 0, 1), (1, .getfield 38, 3), (4, .getfield 118, 3), (7, .iload_n 1, 1), (8, .iconst 1, 1), (9, .invokevirtual 121, 3), (12, .aload_n 0, 1), (13, .getfield 38, 3), (16, .getfield 87, 3), (19, .invokevirtual 77, 3), (22, .invokestatic 125, 3), (25, .ifCond .ne 24, 3), (28, .aload_n 0, 1), (29, .getfield 38, 3), (32, .bipush 20, 2), (34, .aload_n 0, 1), (35, .getfield 38, 3), (38, .getfield 118, 3), (41, .iload_n 1, 1), (42, .iconst 0, 1), (43, .invokevirtual 90, 3), (46, .invokevirtual 94, 3), (49, .return_, 1)]
theorem D_Checker_checkFunction : ∀ q ∈ T_Checker_checkFunction, decode b_Checker_checkFunction q.1 = .ok (q.2.1, q.2.2) := by decide +kernel

set_option maxHeartbeats 4000000 in
set_option maxRecDepth 100000 in
theorem am_Checker_checkFunction_L49 (l : Launch) (hfl : l.flags = pinnedFlags ++ [noTraceFlag]) (D : va_G) (A : Nat → Prop) (σ MC MS : Nat) (h0 : xb_H) (Qr : xb_H → Nat → Nat → Prop) (Qt : String → xb_H → Nat → Nat → Prop) (h : xb_H) (bc : Nat) (bs : Nat) (hw : w_Checker_checkFunction_L49 Qr Qt h bc bs) : xb_am l D A σ 3 MC MS h0 (fun v h bc bs => v = none ∧ Qr h bc bs) Qt y_Checker_checkFunction.cls y_Checker_checkFunction.name b_Checker_checkFunction 2 ([] : List ExceptionTableEntry) none 49 [] [] h bc bs := by
  unfold w_Checker_checkFunction_L49 at hw
  intro p e s m args below meth c hC H locs ls k n hE hl hR hS hk hn
  obtain ⟨hx, hb, hown, hlocks, htab, hml, hr, hB, hA, hnm⟩ := id hC
  have hts := hB.1.1.at args
  exact xb_vret bc bs hx hb hr hlocks (show k + bc ≤ MC by omega) (show n + bs ≤ MS by omega) hE hR hS (xb_d D_Checker_checkFunction 22 rfl) hw

set_option maxHeartbeats 4000000 in
set_option maxRecDepth 100000 in
theorem ok_Checker_checkFunction (l : Launch) (hfl : l.flags = pinnedFlags ++ [noTraceFlag]) (D : va_G) (A : Nat → Prop) (σ : Nat) (x0 : Nat) (x1 : Int32) (h : xb_H) (bc : Nat) (bs : Nat) (Qr : xb_H → Nat → Nat → Prop) (Qt : String → xb_H → Nat → Nat → Prop) (hw : w_Checker_checkFunction x0 x1 h bc bs Qr Qt) : xb_Met l y_Checker_checkFunction [.code y_Checker_checkFunction b_Checker_checkFunction 2 none] (xb_rm 3 bc bs) (xb_Pc D A σ h [.ref x0, .int x1]) (xb_Qc D A h bc bs (fun v h bc bs => v = none ∧ Qr h bc bs) Qt) A := by
  refine xb_ofAm (cc := b_Checker_checkFunction) (by decide) (Nat.le_of_ble_eq_true rfl) ?_
  unfold w_Checker_checkFunction at hw
  show xb_am l D A σ 3 bc bs h (fun v h bc bs => v = none ∧ Qr h bc bs) Qt y_Checker_checkFunction.cls y_Checker_checkFunction.name b_Checker_checkFunction 2 ([] : List ExceptionTableEntry) none 0 [(0, .ref x0), (1, .int x1)] [] h bc bs
  obtain ⟨MC, hMC⟩ : ∃ x, x = bc := ⟨_, rfl⟩
  obtain ⟨MS, hMS⟩ : ∃ x, x = bs := ⟨_, rfl⟩
  rw [show xb_am l D A σ 3 bc bs = xb_am l D A σ 3 MC MS by rw [hMC, hMS]]
  obtain ⟨h0, hh0⟩ : ∃ x, x = h := ⟨_, rfl⟩
  rw [show xb_am l D A σ 3 MC MS h = xb_am l D A σ 3 MC MS h0 by rw [hh0]]
  intro p e s m args below meth c hC H locs ls k n hE hl hR hS hk hn
  obtain ⟨hx, hb, hown, hlocks, htab, hml, hr, hB, hA, hnm⟩ := id hC
  have hts := hB.1.1.at args
  refine lv_aload_n hx hb (xb_d D_Checker_checkFunction 0 rfl) rfl (lv_at hl 0 rfl) ?_
  obtain ⟨hk1, hw⟩ := hw
  refine xb_getP (C := R_Checker) (T := F_Checker) (N := 17) hx hb 4 0 hts fin_Checker hown hR hk1 (by decide) rfl (by decide) rfl (hts _ m_070795bc) (fun _ h9 => h9) (xb_d D_Checker_checkFunction 1 rfl) ?_
  obtain ⟨b2, eb2, hw⟩ := hw
  refine xb_some eb2 ?_
  obtain ⟨hk3, hw⟩ := hw
  refine xb_getP (C := R_StackModule) (T := F_StackModule) (N := 19) hx hb 2 4 hts fin_StackModule hown hR hk3 (by decide) rfl (by decide) rfl (hts _ m_74009c24) (fun _ h9 => h9) (xb_d D_Checker_checkFunction 2 rfl) ?_
  obtain ⟨b4, eb4, hw⟩ := hw
  refine xb_some eb4 ?_
  refine lv_iload_n hx hb (xb_d D_Checker_checkFunction 3 rfl) rfl (lv_at hl 1 rfl) ?_
  refine lv_iconst (v := 1) hx hb (xb_d D_Checker_checkFunction 4 rfl) (by decide) ?_
  obtain ⟨hk5, hw⟩ := hw
  refine xb_call0 (D := D) (A := A) (σ := σ) (h := h) (d := 2) (maxL := 3) (rest := []) (av := [.ref b4, .int x1, .int 1]) (fun T hT X => by obtain ⟨cb9, ra9, rb9, rc9⟩ := xb_recv (ci := 1) hR rfl hk5 (by decide); exact xt_invV X hx hown (hts _ m_e00feb7e) (hts _ m_8db3b24f) (hts _ m_78dc30a4) (xt_sigOf (hts _ m_a4177401)) nm_Row_longAt (by rw [hT]; exact ra9) rb9 rc9 (g := F0 m 9 ls [.int 1, .int x1, .ref b4]) rfl (argsL := [.int x1, .int 1]) (rest := []) rfl rfl (by rw [hb]; exact (xb_d D_Checker_checkFunction 5 rfl))) (ok_Row_longAt l hfl D A σ b4 x1 1 h _ hw) (hml.trans hl.1.symm) (by rw [hb]; exact (xb_d D_Checker_checkFunction 5 rfl)) (Nat.le_of_ble_eq_true rfl) (Nat.le_of_ble_eq_true rfl) (Nat.le_of_ble_eq_true rfl) (show k ≤ MC by omega) (show n ≤ MS by omega) (xt_w1 hB.1 m_a4177401) (xt_cdOf hB.1 m_a4177401) (hts _ m_c1bef504) hB hR hS hA (fun vv h6 H locs hq hEh6 hR hS => ?_)
  obtain ⟨r7, rfl, hw⟩ := hq
  have hw := hw hEh6
  have hE := hE.tr hEh6
  refine W.eq (g2 := F0 m 12 ls [.long r7]) rfl ?_
  refine lv_aload_n hx hb (xb_d D_Checker_checkFunction 6 rfl) rfl (lv_at hl 0 rfl) ?_
  have hk1 : xb_k h6 x0 = 5 := hEh6.k hk1
  refine xb_getP (C := R_Checker) (T := F_Checker) (N := 17) hx hb 4 0 hts fin_Checker hown hR hk1 (by decide) rfl (by decide) rfl (hts _ m_070795bc) (fun _ h9 => h9) (xb_d D_Checker_checkFunction 7 rfl) ?_
  obtain ⟨b8, eb8, hw⟩ := hw
  refine xb_some eb8 ?_
  obtain ⟨hk9, hw⟩ := hw
  refine xb_getP (C := R_StackModule) (T := F_StackModule) (N := 19) hx hb 2 2 hts fin_StackModule hown hR hk9 (by decide) rfl (by decide) rfl (hts _ m_e7e89823) (fun _ h9 => h9) (xb_d D_Checker_checkFunction 8 rfl) ?_
  obtain ⟨b10, eb10, hw⟩ := hw
  refine xb_some eb10 ?_
  obtain ⟨hk11, hw⟩ := hw
  refine xb_call0 (D := D) (A := A) (σ := σ) (h := h6) (d := 2) (maxL := 1) (rest := [.long r7]) (av := [.ref b10]) (fun T hT X => by obtain ⟨cb9, ra9, rb9, rc9⟩ := xb_recv (ci := 1) hR rfl hk11 (by decide); exact xt_invV X hx hown (hts _ m_c8b950b4) (hts _ m_ded65609) (hts _ m_a4161156) (xt_sigOf (hts _ m_83ba3721)) nm_Row_lines (by rw [hT]; exact ra9) rb9 rc9 (g := F0 m 19 ls [.ref b10, .long r7]) rfl (argsL := []) (rest := [.long r7]) rfl rfl (by rw [hb]; exact (xb_d D_Checker_checkFunction 9 rfl))) (ok_Row_lines l hfl D A σ b10 h6 _ hw) (hml.trans hl.1.symm) (by rw [hb]; exact (xb_d D_Checker_checkFunction 9 rfl)) (Nat.le_of_ble_eq_true rfl) (Nat.le_of_ble_eq_true rfl) (Nat.le_of_ble_eq_true rfl) (show k ≤ MC by omega) (show n ≤ MS by omega) (xt_w1 hB.1 m_83ba3721) (xt_cdOf hB.1 m_83ba3721) (hts _ m_c1bef504) hB hR hS hA (fun vv h12 H locs hq hEh12 hR hS => ?_)
  obtain ⟨r13, rfl, hw⟩ := hq
  have hw := hw hEh12
  have hE := hE.tr hEh12
  refine W.eq (g2 := F0 m 22 ls [.int r13, .long r7]) rfl ?_
  refine xb_call0 (D := D) (A := A) (σ := σ) (h := h12) (d := 2) (maxL := 3) (rest := []) (av := [.long r7, .int r13]) (fun T hT X => xt_invS X hx hown (hts _ m_fe08b245) (hts _ m_9ad1e0af) (hts _ m_44748ce5) (xt_sgS (hts _ m_2237aee6)).1 (xt_sgS (hts _ m_2237aee6)).2 nm_Checker_isThere (g := F0 m 22 ls [.int r13, .long r7]) rfl (argsL := [.long r7, .int r13]) (rest := []) rfl rfl (by rw [hb]; exact (xb_d D_Checker_checkFunction 10 rfl))) (ok_Checker_isThere l hfl D A σ r7 r13 h12 _ hw) (hml.trans hl.1.symm) (by rw [hb]; exact (xb_d D_Checker_checkFunction 10 rfl)) (Nat.le_of_ble_eq_true rfl) (Nat.le_of_ble_eq_true rfl) (Nat.le_of_ble_eq_true rfl) (show k ≤ MC by omega) (show n ≤ MS by omega) (xt_w1 hB.1 m_2237aee6) (xt_cdOf hB.1 m_2237aee6) (hts _ m_44748ce5) hB hR hS hA (fun vv h14 H locs hq hEh14 hR hS => ?_)
  obtain ⟨r15, rfl, hw⟩ := hq
  have hw := hw hEh14
  have hE := hE.tr hEh14
  refine W.eq (g2 := F0 m 25 ls [.int r15]) rfl ?_
  refine lv_if_ne (tgt := 49) hx hb (xb_d D_Checker_checkFunction 11 rfl) rfl (fun hc16 => ?_) (fun hc16 => ?_)
  · have hw := hw.1 hc16
    exact am_Checker_checkFunction_L49 l hfl D A σ MC MS h0 Qr Qt h14 bc bs hw p e s m args below meth c hC H locs ls k n hE (lv_sub hl [] rfl) hR hS (by omega) (by omega)
  · have hw := hw.2 hc16
    refine lv_aload_n hx hb (xb_d D_Checker_checkFunction 12 rfl) rfl (lv_at hl 0 rfl) ?_
    have hk1 : xb_k h12 x0 = 5 := hEh12.k hk1
    have hk1 : xb_k h14 x0 = 5 := hEh14.k hk1
    refine xb_getP (C := R_Checker) (T := F_Checker) (N := 17) hx hb 4 0 hts fin_Checker hown hR hk1 (by decide) rfl (by decide) rfl (hts _ m_070795bc) (fun _ h9 => h9) (xb_d D_Checker_checkFunction 13 rfl) ?_
    obtain ⟨b17, eb17, hw⟩ := hw
    refine xb_some eb17 ?_
    refine lv_bipush (v := 20) hx hb (xb_d D_Checker_checkFunction 14 rfl) (by decide) ?_
    refine lv_aload_n hx hb (xb_d D_Checker_checkFunction 15 rfl) rfl (lv_at hl 0 rfl) ?_
    refine xb_getP (C := R_Checker) (T := F_Checker) (N := 17) hx hb 4 0 hts fin_Checker hown hR hk1 (by decide) rfl (by decide) rfl (hts _ m_070795bc) (fun _ h9 => h9) (xb_d D_Checker_checkFunction 16 rfl) ?_
    obtain ⟨b18, eb18, hw⟩ := hw
    refine xb_some eb18 ?_
    obtain ⟨hk19, hw⟩ := hw
    refine xb_getP (C := R_StackModule) (T := F_StackModule) (N := 19) hx hb 2 4 hts fin_StackModule hown hR hk19 (by decide) rfl (by decide) rfl (hts _ m_74009c24) (fun _ h9 => h9) (xb_d D_Checker_checkFunction 17 rfl) ?_
    obtain ⟨b20, eb20, hw⟩ := hw
    refine xb_some eb20 ?_
    refine lv_iload_n hx hb (xb_d D_Checker_checkFunction 18 rfl) rfl (lv_at hl 1 rfl) ?_
    refine lv_iconst (v := 0) hx hb (xb_d D_Checker_checkFunction 19 rfl) (by decide) ?_
    obtain ⟨hk21, hw⟩ := hw
    refine xb_call0 (D := D) (A := A) (σ := σ) (h := h14) (d := 2) (maxL := 3) (rest := [.int 20, .ref b17]) (av := [.ref b20, .int x1, .int 0]) (fun T hT X => by obtain ⟨cb9, ra9, rb9, rc9⟩ := xb_recv (ci := 1) hR rfl hk21 (by decide); exact xt_invV X hx hown (hts _ m_068feb96) (hts _ m_8e233096) (hts _ m_27eed10c) (xt_sigOf (hts _ m_ff1c70ae)) nm_Row_at (by rw [hT]; exact ra9) rb9 rc9 (g := F0 m 43 ls [.int 0, .int x1, .ref b20, .int 20, .ref b17]) rfl (argsL := [.int x1, .int 0]) (rest := [.int 20, .ref b17]) rfl rfl (by rw [hb]; exact (xb_d D_Checker_checkFunction 20 rfl))) (ok_Row_at l hfl D A σ b20 x1 0 h14 _ hw) (hml.trans hl.1.symm) (by rw [hb]; exact (xb_d D_Checker_checkFunction 20 rfl)) (Nat.le_of_ble_eq_true rfl) (Nat.le_of_ble_eq_true rfl) (Nat.le_of_ble_eq_true rfl) (show k ≤ MC by omega) (show n ≤ MS by omega) (xt_w1 hB.1 m_ff1c70ae) (xt_cdOf hB.1 m_ff1c70ae) (hts _ m_c1bef504) hB hR hS hA (fun vv h22 H locs hq hEh22 hR hS => ?_)
    obtain ⟨r23, rfl, hw⟩ := hq
    have hw := hw hEh22
    have hE := hE.tr hEh22
    refine W.eq (g2 := F0 m 46 ls [.int r23, .int 20, .ref b17]) rfl ?_
    obtain ⟨hk24, hw⟩ := hw
    refine xb_call (D := D) (A := A) (σ := σ) (h := h22) (d := 2) (mc := bc) (ms := bs) (maxL := 3) (rest := []) (av := [.ref b17, .int 20, .int r23]) (fun T hT X => by obtain ⟨cb9, ra9, rb9, rc9⟩ := xb_recv (ci := 2) hR rfl hk24 (by decide); exact xt_invV X hx hown (hts _ m_1d37521a) (hts _ m_865d5b07) (hts _ m_113f8f75) (xt_sigOf (hts _ m_73e65e5f)) nm_StackModule_fail (by rw [hT]; exact ra9) rb9 rc9 (g := F0 m 46 ls [.int r23, .int 20, .ref b17]) rfl (argsL := [.int 20, .int r23]) (rest := []) rfl rfl (by rw [hb]; exact (xb_d D_Checker_checkFunction 21 rfl))) (ok_StackModule_fail l hfl D A σ b17 20 r23 h22 bc bs _ _ hw) (hml.trans hl.1.symm) (by rw [hb]; exact (xb_d D_Checker_checkFunction 21 rfl)) (Nat.le_of_ble_eq_true rfl) (Nat.le_of_ble_eq_true rfl) (Nat.le_of_ble_eq_true rfl) (show k + bc ≤ MC by omega) (show n + bs ≤ MS by omega) (xt_w1 hB.1 m_73e65e5f) (xt_cdOf hB.1 m_73e65e5f) (hts _ m_9c375545) hB hR hS hA (fun vv h25 bc26 bs26 kk26 nn26 H locs hk26 hn26 hq hEh25 hR hS => ?_) (fun XX ax h25 bc26 bs26 kk26 nn26 H locs hk26 hn26 hq hEh25 hex hR hS => ?_)
    · obtain ⟨rfl, hw⟩ := hq
      have hw := hw hEh25
      have hE := hE.tr hEh25
      refine W.eq (g2 := F0 m 49 ls []) rfl ?_
      exact am_Checker_checkFunction_L49 l hfl D A σ MC MS h0 Qr Qt h25 bc26 bs26 hw p e s m args below meth c hC H locs ls (k + kk26) (n + nn26) hE (lv_sub hl [] rfl) hR hS (by omega) (by omega)
    · exact xb_pass hlocks (fun x hx9 => by rw [htab] at hx9; first | (cases hx9; done) | (simp [tableOf] at hx9; subst hx9; decide) | (simp [tableOf] at hx9; rcases hx9 with rfl | rfl <;> decide) | (simp [tableOf] at hx9; rcases hx9 with rfl | rfl | rfl <;> decide)) (show (k + kk26) + bc26 ≤ MC by omega) (show (n + nn26) + bs26 ≤ MS by omega) (hE.tr hEh25) hR hS hex hq

theorem m_28193d38 : (.fieldLink "StackHost$Checker" 196 "StackHost$Checker" "place" "I" : Cond) ∈ xt_tbl := xt_in (xt_t1 (List.mem_of_getElem? (i := 86) (by decide +kernel))) (by decide +kernel)
set_option maxRecDepth 100000 in
def T_Checker_checkLabel : List (Nat × Instr × Nat) := [(0, .aload_n 0, 1), (1, .getfield 51, 3), (4, .iload_n 1, 1), (5, .iaload, 1), (6, .i2l, 1), (7, .aload_n 0, 1), (8, .getfield 193, 3), (11, .invokestatic 125, 3), (14, .ifCond .ne 16, 3), (17, .aload_n 0, 1), (18, .getfield 38, 3), (21, .bipush 20, 2), (23, .aload_n 0, 1), (24, .getfield 196, 3), (27, .invokevirtual 94, 3), (30, .aload_n 0, 1), (31, .getfield 193, 3), (34, .iconst 1, 1), (35, .isub, 1), (36, .aload_n 0, 1), (37, .getfield 51, 3), (40, .iload_n 1, 1), (41, .iaload, 1), (42, .isub, 1), (43, .istore_n 2, 1), (44, .aload_n 0, 1), (45, .getfield 51, 3), (48, .iload_n 1, 1), (49, .aload_n 0, 1), (50, .getfield 22, 3), (53, .iload_n 2, 1), (54, .iaload, 1), (55, .iastore, 1), (56, .iload_n 2, 1), (57, .ireturn, 1)]
theorem D_Checker_checkLabel : ∀ q ∈ T_Checker_checkLabel, decode b_Checker_checkLabel q.1 = .ok (q.2.1, q.2.2) := by decide +kernel

set_option maxHeartbeats 4000000 in
set_option maxRecDepth 100000 in
theorem am_Checker_checkLabel_L30 (l : Launch) (hfl : l.flags = pinnedFlags ++ [noTraceFlag]) (D : va_G) (A : Nat → Prop) (σ MC MS : Nat) (h0 : xb_H) (Qr : Int32 → xb_H → Nat → Nat → Prop) (Qt : String → xb_H → Nat → Nat → Prop) (x0 : Nat) (x1 : Int32) (h : xb_H) (bc : Nat) (bs : Nat) (hw : w_Checker_checkLabel_L30 Qr Qt x0 x1 h bc bs) : xb_am l D A σ 3 MC MS h0 (fun v h bc bs => ∃ r, v = some (.int r) ∧ Qr r h bc bs) Qt y_Checker_checkLabel.cls y_Checker_checkLabel.name b_Checker_checkLabel 3 ([] : List ExceptionTableEntry) (some .int) 30 [(0, .ref x0), (1, .int x1)] [] h bc bs := by
  unfold w_Checker_checkLabel_L30 at hw
  intro p e s m args below meth c hC H locs ls k n hE hl hR hS hk hn
  obtain ⟨hx, hb, hown, hlocks, htab, hml, hr, hB, hA, hnm⟩ := id hC
  have hts := hB.1.1.at args
  refine lv_aload_n hx hb (xb_d D_Checker_checkLabel 15 rfl) rfl (lv_at hl 0 rfl) ?_
  obtain ⟨hk1, hw⟩ := hw
  refine xb_getI (C := R_Checker) (T := F_Checker) (N := 17) hx hb 4 16 hts fin_Checker hown hR hk1 (by decide) rfl (by decide) rfl (hts _ m_47f80c41) (fun _ h9 => h9) (xb_d D_Checker_checkLabel 16 rfl) ?_
  refine lv_iconst (v := 1) hx hb (xb_d D_Checker_checkLabel 17 rfl) (by decide) ?_
  refine lv_isub hx hb (xb_d D_Checker_checkLabel 18 rfl) ?_
  refine lv_aload_n hx hb (xb_d D_Checker_checkLabel 19 rfl) rfl (lv_at hl 0 rfl) ?_
  refine xb_getP (C := R_Checker) (T := F_Checker) (N := 17) hx hb 4 2 hts fin_Checker hown hR hk1 (by decide) rfl (by decide) rfl (hts _ m_b5ef1148) (fun _ h9 => h9) (xb_d D_Checker_checkLabel 20 rfl) ?_
  obtain ⟨b2, eb2, hw⟩ := hw
  refine xb_some eb2 ?_
  refine lv_iload_n hx hb (xb_d D_Checker_checkLabel 21 rfl) rfl (lv_at hl 1 rfl) ?_
  obtain ⟨hk4, hw⟩ := hw
  obtain ⟨hi3, hw⟩ := hw
  refine xb_iald hx hb hR hk4 hi3 (xb_d D_Checker_checkLabel 22 rfl) ?_
  refine lv_isub hx hb (xb_d D_Checker_checkLabel 23 rfl) ?_
  obtain ⟨v5, ev5⟩ : ∃ x : Int32, x = (((xb_i h x0 16) - 1) - (xb_i h b2 (Int32.toNatClampNeg x1))) := ⟨_, rfl⟩
  have hw := hw v5 ev5
  refine xt_numi (y := v5) ev5.symm ?_
  refine lv_istore_n hx hb (xb_d D_Checker_checkLabel 24 rfl) rfl hl (by decide) rfl (fun ls hl => ?_)
  have hl : lv_has ls 3 [(2, .int v5), (0, .ref x0), (1, .int x1)] := hl
  refine lv_aload_n hx hb (xb_d D_Checker_checkLabel 25 rfl) rfl (lv_at hl 1 rfl) ?_
  refine xb_getP (C := R_Checker) (T := F_Checker) (N := 17) hx hb 4 2 hts fin_Checker hown hR hk1 (by decide) rfl (by decide) rfl (hts _ m_b5ef1148) (fun _ h9 => h9) (xb_d D_Checker_checkLabel 26 rfl) ?_
  obtain ⟨b6, eb6, hw⟩ := hw
  refine xb_some eb6 ?_
  refine lv_iload_n hx hb (xb_d D_Checker_checkLabel 27 rfl) rfl (lv_at hl 2 rfl) ?_
  refine lv_aload_n hx hb (xb_d D_Checker_checkLabel 28 rfl) rfl (lv_at hl 1 rfl) ?_
  refine xb_getP (C := R_Checker) (T := F_Checker) (N := 17) hx hb 4 11 hts fin_Checker hown hR hk1 (by decide) rfl (by decide) rfl (hts _ m_64d01396) (fun _ h9 => h9) (xb_d D_Checker_checkLabel 29 rfl) ?_
  obtain ⟨b7, eb7, hw⟩ := hw
  refine xb_some eb7 ?_
  refine lv_iload_n hx hb (xb_d D_Checker_checkLabel 30 rfl) rfl (lv_at hl 0 rfl) ?_
  obtain ⟨hk9, hw⟩ := hw
  obtain ⟨hi8, hw⟩ := hw
  refine xb_iald hx hb hR hk9 hi8 (xb_d D_Checker_checkLabel 31 rfl) ?_
  obtain ⟨hk10, hw⟩ := hw
  obtain ⟨hi11, hw⟩ := hw
  refine xb_iast hx hb hR hS hk10 hi11 (xb_d D_Checker_checkLabel 32 rfl) (fun H locs hR hS => ?_)
  obtain ⟨h12, eh12⟩ : ∃ x : xb_H, x = xb_I h b6 (Int32.toNatClampNeg x1) (xb_i h b7 (Int32.toNatClampNeg v5)) := ⟨_, rfl⟩
  rw [← eh12] at hR
  have hw := hw h12 eh12
  have hE : xb_ext h0 h12 := by rw [eh12]; exact hE
  refine lv_iload_n hx hb (xb_d D_Checker_checkLabel 33 rfl) rfl (lv_at hl 0 rfl) ?_
  exact xb_iret bc bs hx hb hr hlocks (show k + bc ≤ MC by omega) (show n + bs ≤ MS by omega) hE hR hS (xb_d D_Checker_checkLabel 34 rfl) hw

set_option maxHeartbeats 4000000 in
set_option maxRecDepth 100000 in
theorem ok_Checker_checkLabel (l : Launch) (hfl : l.flags = pinnedFlags ++ [noTraceFlag]) (D : va_G) (A : Nat → Prop) (σ : Nat) (x0 : Nat) (x1 : Int32) (h : xb_H) (bc : Nat) (bs : Nat) (Qr : Int32 → xb_H → Nat → Nat → Prop) (Qt : String → xb_H → Nat → Nat → Prop) (hw : w_Checker_checkLabel x0 x1 h bc bs Qr Qt) : xb_Met l y_Checker_checkLabel [.code y_Checker_checkLabel b_Checker_checkLabel 3 (some .int)] (xb_rm 3 bc bs) (xb_Pc D A σ h [.ref x0, .int x1]) (xb_Qc D A h bc bs (fun v h bc bs => ∃ r, v = some (.int r) ∧ Qr r h bc bs) Qt) A := by
  refine xb_ofAm (cc := b_Checker_checkLabel) (by decide) (Nat.le_of_ble_eq_true rfl) ?_
  unfold w_Checker_checkLabel at hw
  show xb_am l D A σ 3 bc bs h (fun v h bc bs => ∃ r, v = some (.int r) ∧ Qr r h bc bs) Qt y_Checker_checkLabel.cls y_Checker_checkLabel.name b_Checker_checkLabel 3 ([] : List ExceptionTableEntry) (some .int) 0 [(0, .ref x0), (1, .int x1)] [] h bc bs
  obtain ⟨MC, hMC⟩ : ∃ x, x = bc := ⟨_, rfl⟩
  obtain ⟨MS, hMS⟩ : ∃ x, x = bs := ⟨_, rfl⟩
  rw [show xb_am l D A σ 3 bc bs = xb_am l D A σ 3 MC MS by rw [hMC, hMS]]
  obtain ⟨h0, hh0⟩ : ∃ x, x = h := ⟨_, rfl⟩
  rw [show xb_am l D A σ 3 MC MS h = xb_am l D A σ 3 MC MS h0 by rw [hh0]]
  intro p e s m args below meth c hC H locs ls k n hE hl hR hS hk hn
  obtain ⟨hx, hb, hown, hlocks, htab, hml, hr, hB, hA, hnm⟩ := id hC
  have hts := hB.1.1.at args
  refine lv_aload_n hx hb (xb_d D_Checker_checkLabel 0 rfl) rfl (lv_at hl 0 rfl) ?_
  obtain ⟨hk1, hw⟩ := hw
  refine xb_getP (C := R_Checker) (T := F_Checker) (N := 17) hx hb 4 2 hts fin_Checker hown hR hk1 (by decide) rfl (by decide) rfl (hts _ m_b5ef1148) (fun _ h9 => h9) (xb_d D_Checker_checkLabel 1 rfl) ?_
  obtain ⟨b2, eb2, hw⟩ := hw
  refine xb_some eb2 ?_
  refine lv_iload_n hx hb (xb_d D_Checker_checkLabel 2 rfl) rfl (lv_at hl 1 rfl) ?_
  obtain ⟨hk4, hw⟩ := hw
  obtain ⟨hi3, hw⟩ := hw
  refine xb_iald hx hb hR hk4 hi3 (xb_d D_Checker_checkLabel 3 rfl) ?_
  refine lv_i2l hx hb (xb_d D_Checker_checkLabel 4 rfl) rfl ?_
  refine lv_aload_n hx hb (xb_d D_Checker_checkLabel 5 rfl) rfl (lv_at hl 0 rfl) ?_
  refine xb_getI (C := R_Checker) (T := F_Checker) (N := 17) hx hb 4 16 hts fin_Checker hown hR hk1 (by decide) rfl (by decide) rfl (hts _ m_47f80c41) (fun _ h9 => h9) (xb_d D_Checker_checkLabel 6 rfl) ?_
  refine xb_call0 (D := D) (A := A) (σ := σ) (h := h) (d := 2) (maxL := 3) (rest := []) (av := [.long (Int32.toInt64 (xb_i h b2 (Int32.toNatClampNeg x1))), .int (xb_i h x0 16)]) (fun T hT X => xt_invS X hx hown (hts _ m_fe08b245) (hts _ m_9ad1e0af) (hts _ m_44748ce5) (xt_sgS (hts _ m_2237aee6)).1 (xt_sgS (hts _ m_2237aee6)).2 nm_Checker_isThere (g := F0 m 11 ls [.int (xb_i h x0 16), .long (Int32.toInt64 (xb_i h b2 (Int32.toNatClampNeg x1)))]) rfl (argsL := [.long (Int32.toInt64 (xb_i h b2 (Int32.toNatClampNeg x1))), .int (xb_i h x0 16)]) (rest := []) rfl rfl (by rw [hb]; exact (xb_d D_Checker_checkLabel 7 rfl))) (ok_Checker_isThere l hfl D A σ (Int32.toInt64 (xb_i h b2 (Int32.toNatClampNeg x1))) (xb_i h x0 16) h _ hw) (hml.trans hl.1.symm) (by rw [hb]; exact (xb_d D_Checker_checkLabel 7 rfl)) (Nat.le_of_ble_eq_true rfl) (Nat.le_of_ble_eq_true rfl) (Nat.le_of_ble_eq_true rfl) (show k ≤ MC by omega) (show n ≤ MS by omega) (xt_w1 hB.1 m_2237aee6) (xt_cdOf hB.1 m_2237aee6) (hts _ m_44748ce5) hB hR hS hA (fun vv h5 H locs hq hEh5 hR hS => ?_)
  obtain ⟨r6, rfl, hw⟩ := hq
  have hw := hw hEh5
  have hE := hE.tr hEh5
  refine W.eq (g2 := F0 m 14 ls [.int r6]) rfl ?_
  refine lv_if_ne (tgt := 30) hx hb (xb_d D_Checker_checkLabel 8 rfl) rfl (fun hc7 => ?_) (fun hc7 => ?_)
  · have hw := hw.1 hc7
    exact am_Checker_checkLabel_L30 l hfl D A σ MC MS h0 Qr Qt x0 x1 h5 bc bs hw p e s m args below meth c hC H locs ls k n hE (lv_sub hl [0, 1] rfl) hR hS (by omega) (by omega)
  · have hw := hw.2 hc7
    refine lv_aload_n hx hb (xb_d D_Checker_checkLabel 9 rfl) rfl (lv_at hl 0 rfl) ?_
    have hk1 : xb_k h5 x0 = 5 := hEh5.k hk1
    refine xb_getP (C := R_Checker) (T := F_Checker) (N := 17) hx hb 4 0 hts fin_Checker hown hR hk1 (by decide) rfl (by decide) rfl (hts _ m_070795bc) (fun _ h9 => h9) (xb_d D_Checker_checkLabel 10 rfl) ?_
    obtain ⟨b8, eb8, hw⟩ := hw
    refine xb_some eb8 ?_
    refine lv_bipush (v := 20) hx hb (xb_d D_Checker_checkLabel 11 rfl) (by decide) ?_
    refine lv_aload_n hx hb (xb_d D_Checker_checkLabel 12 rfl) rfl (lv_at hl 0 rfl) ?_
    refine xb_getI (C := R_Checker) (T := F_Checker) (N := 17) hx hb 4 9 hts fin_Checker hown hR hk1 (by decide) rfl (by decide) rfl (hts _ m_28193d38) (fun _ h9 => h9) (xb_d D_Checker_checkLabel 13 rfl) ?_
    obtain ⟨hk9, hw⟩ := hw
    refine xb_call (D := D) (A := A) (σ := σ) (h := h5) (d := 2) (mc := bc) (ms := bs) (maxL := 3) (rest := []) (av := [.ref b8, .int 20, .int (xb_i h5 x0 9)]) (fun T hT X => by obtain ⟨cb9, ra9, rb9, rc9⟩ := xb_recv (ci := 2) hR rfl hk9 (by decide); exact xt_invV X hx hown (hts _ m_1d37521a) (hts _ m_865d5b07) (hts _ m_113f8f75) (xt_sigOf (hts _ m_73e65e5f)) nm_StackModule_fail (by rw [hT]; exact ra9) rb9 rc9 (g := F0 m 27 ls [.int (xb_i h5 x0 9), .int 20, .ref b8]) rfl (argsL := [.int 20, .int (xb_i h5 x0 9)]) (rest := []) rfl rfl (by rw [hb]; exact (xb_d D_Checker_checkLabel 14 rfl))) (ok_StackModule_fail l hfl D A σ b8 20 (xb_i h5 x0 9) h5 bc bs _ _ hw) (hml.trans hl.1.symm) (by rw [hb]; exact (xb_d D_Checker_checkLabel 14 rfl)) (Nat.le_of_ble_eq_true rfl) (Nat.le_of_ble_eq_true rfl) (Nat.le_of_ble_eq_true rfl) (show k + bc ≤ MC by omega) (show n + bs ≤ MS by omega) (xt_w1 hB.1 m_73e65e5f) (xt_cdOf hB.1 m_73e65e5f) (hts _ m_9c375545) hB hR hS hA (fun vv h10 bc11 bs11 kk11 nn11 H locs hk11 hn11 hq hEh10 hR hS => ?_) (fun XX ax h10 bc11 bs11 kk11 nn11 H locs hk11 hn11 hq hEh10 hex hR hS => ?_)
    · obtain ⟨rfl, hw⟩ := hq
      have hw := hw hEh10
      have hE := hE.tr hEh10
      refine W.eq (g2 := F0 m 30 ls []) rfl ?_
      exact am_Checker_checkLabel_L30 l hfl D A σ MC MS h0 Qr Qt x0 x1 h10 bc11 bs11 hw p e s m args below meth c hC H locs ls (k + kk11) (n + nn11) hE (lv_sub hl [0, 1] rfl) hR hS (by omega) (by omega)
    · exact xb_pass hlocks (fun x hx9 => by rw [htab] at hx9; first | (cases hx9; done) | (simp [tableOf] at hx9; subst hx9; decide) | (simp [tableOf] at hx9; rcases hx9 with rfl | rfl <;> decide) | (simp [tableOf] at hx9; rcases hx9 with rfl | rfl | rfl <;> decide)) (show (k + kk11) + bc11 ≤ MC by omega) (show (n + nn11) + bs11 ≤ MS by omega) (hE.tr hEh10) hR hS hex hq

