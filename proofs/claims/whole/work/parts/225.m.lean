theorem m_c1adce89 : (.methodLink "StackHost$World" 268 y_World_valueOf : Cond) ∈ xt_tbl := xt_in (xt_t6 (List.mem_of_getElem? (i := 211) (by decide +kernel))) (by decide +kernel)
theorem m_ea5253ea : (.instanceMethod y_World_valueOf : Cond) ∈ xt_tbl := xt_in (xt_t6 (List.mem_of_getElem? (i := 213) (by decide +kernel))) (by decide +kernel)
theorem m_5eef57a1 : (.selects "StackHost$World" y_World_valueOf y_World_valueOf : Cond) ∈ xt_tbl := xt_in (xt_v5 (q := (⟨"StackHost$World", "valueOf", "(LStackHost$StackModule;I)J"⟩, 16)) (List.mem_of_getElem? (i := 12) (by decide +kernel))) (by decide +kernel)
theorem m_e9cf7221 : (.code y_World_valueOf b_World_valueOf 3 (some .long) : Cond) ∈ xt_tbl := xt_in (xt_t6 (List.mem_of_getElem? (i := 214) (by decide +kernel))) (by decide +kernel)
theorem nm_World_valueOf : xt_nm y_World_valueOf 2 := ⟨by decide +kernel, by decide +kernel⟩
set_option maxRecDepth 100000 in
def T_World_offsetOf : List (Nat × Instr × Nat) := [(0, .aload_n 0, 1), (1, .aload_n 1, 1), (2, .aload_n 2, 1), (3, .iload_n 3, 1), (4, .iconst 2, 1), (5, .invokevirtual 51, 3), (8, .invokevirtual 268, 3), (11, .lreturn, 1)]
theorem D_World_offsetOf : ∀ q ∈ T_World_offsetOf, decode b_World_offsetOf q.1 = .ok (q.2.1, q.2.2) := by decide +kernel
def w_World_offsetOf (x0 : Nat) (x1 : Nat) (x2 : Nat) (x3 : Int32) (h : xb_H) (Qr : Int64 → xb_H → Prop) : Prop :=
    xb_k h x2 = 2 ∧ w_Row_at x2 x3 2 h (fun (r3 : Int32) (h2 : xb_H) => xb_ext h h2 → xb_k h2 x0 = 7 ∧ w_World_valueOf x0 x1 r3 h2 (fun (r6 : Int64) (h5 : xb_H) => xb_ext h2 h5 → Qr r6 h5))

set_option maxHeartbeats 4000000 in
set_option maxRecDepth 100000 in
theorem ok_World_offsetOf (l : Launch) (hfl : l.flags = pinnedFlags ++ [noTraceFlag]) (D : va_G) (A : Nat → Prop) (σ : Nat) (x0 : Nat) (x1 : Nat) (x2 : Nat) (x3 : Int32) (h : xb_H) (Qr : Int64 → xb_H → Prop) (hw : w_World_offsetOf x0 x1 x2 x3 h Qr) : xt_Met l y_World_offsetOf [.code y_World_offsetOf b_World_offsetOf 4 (some .long)] (xb_rm 4 0 0) (xb_Pc D A σ h [.ref x0, .ref x1, .ref x2, .int x3]) (xb_Qc D A h (fun v h => ∃ r, v = some (.long r) ∧ Qr r h) (fun _ _ => False)) 0 0 A := by
  refine xb_ofAm (cc := b_World_offsetOf) (by decide) (Nat.le_of_ble_eq_true rfl) ?_
  unfold w_World_offsetOf at hw
  show xb_am l D A σ 4 0 0 h (fun v h => ∃ r, v = some (.long r) ∧ Qr r h) (fun _ _ => False) y_World_offsetOf.cls y_World_offsetOf.name b_World_offsetOf 4 ([] : List ExceptionTableEntry) (some .long) 0 [(0, .ref x0), (1, .ref x1), (2, .ref x2), (3, .int x3)] [] h 0 0
  obtain ⟨MC, hMC⟩ : ∃ x, x = 0 := ⟨_, rfl⟩
  obtain ⟨MS, hMS⟩ : ∃ x, x = 0 := ⟨_, rfl⟩
  rw [show xb_am l D A σ 4 0 0 = xb_am l D A σ 4 MC MS by rw [hMC, hMS]]
  obtain ⟨h0, hh0⟩ : ∃ x, x = h := ⟨_, rfl⟩
  rw [show xb_am l D A σ 4 MC MS h = xb_am l D A σ 4 MC MS h0 by rw [hh0]]
  intro p e s m args below meth c hC H locs ls k n hE hl hR hS hk hn
  obtain ⟨hx, hb, hown, hlocks, htab, hml, hr, hB, hA, hnm⟩ := id hC
  have hts := hB.1.1.at args
  refine lv_aload_n hx hb (xb_d D_World_offsetOf 0 rfl) rfl (lv_at hl 0 rfl) ?_
  refine lv_aload_n hx hb (xb_d D_World_offsetOf 1 rfl) rfl (lv_at hl 1 rfl) ?_
  refine lv_aload_n hx hb (xb_d D_World_offsetOf 2 rfl) rfl (lv_at hl 2 rfl) ?_
  refine lv_iload_n hx hb (xb_d D_World_offsetOf 3 rfl) rfl (lv_at hl 3 rfl) ?_
  refine lv_iconst (v := 2) hx hb (xb_d D_World_offsetOf 4 rfl) (by decide) ?_
  obtain ⟨hk1, hw⟩ := hw
  refine xb_call (D := D) (A := A) (σ := σ) (h := h) (d := 2) (mc := 0) (ms := 0) (maxL := 3) (rest := [.ref x1, .ref x0]) (av := [.ref x2, .int x3, .int 2]) (fun T hT X => by obtain ⟨cb, r1, r2, r3⟩ := xb_recv (ci := 1) hR rfl hk1 (by decide); exact xt_invV X hx hown (hts _ m_ad29ee25) (hts _ m_8e233096) (hts _ m_27eed10c) (xt_sigOf (hts _ m_ff1c70ae)) nm_Row_at (by rw [hT]; exact r1) r2 r3 (g := F0 m 5 ls [.int 2, .int x3, .ref x2, .ref x1, .ref x0]) rfl (argsL := [.int x3, .int 2]) (rest := [.ref x1, .ref x0]) rfl rfl (by rw [hb]; exact (xb_d D_World_offsetOf 5 rfl))) (ok_Row_at l hfl D A σ x2 x3 2 h _ hw) (hml.trans hl.1.symm) (by rw [hb]; exact (xb_d D_World_offsetOf 5 rfl)) (Nat.le_of_ble_eq_true rfl) (Nat.le_of_ble_eq_true rfl) (Nat.le_of_ble_eq_true rfl) (show k + 0 ≤ MC by omega) (show n + 0 ≤ MS by omega) (xt_w1 hB.1 m_ff1c70ae) (xt_cdOf hB.1 m_ff1c70ae) (hts _ m_c1bef504) hB hR hS hA (fun vv h2 H locs hq hEh2 hR hS => ?_) (fun XX ax h2 H locs hq hEh2 hex hR hS => ?_)
  · obtain ⟨r3, rfl, hw⟩ := hq
    have hw := hw hEh2
    have hE := hE.tr hEh2
    refine W.eq (g2 := F0 m 8 ls [.int r3, .ref x1, .ref x0]) rfl ?_
    obtain ⟨hk4, hw⟩ := hw
    refine xb_call (D := D) (A := A) (σ := σ) (h := h2) (d := 3) (mc := 0) (ms := 0) (maxL := 3) (rest := []) (av := [.ref x0, .ref x1, .int r3]) (fun T hT X => by obtain ⟨cb, r1, r2, r3⟩ := xb_recv (ci := 6) hR rfl hk4 (by decide); exact xt_invV X hx hown (hts _ m_c1adce89) (hts _ m_ea5253ea) (hts _ m_5eef57a1) (xt_sigOf (hts _ m_e9cf7221)) nm_World_valueOf (by rw [hT]; exact r1) r2 r3 (g := F0 m 8 ls [.int r3, .ref x1, .ref x0]) rfl (argsL := [.ref x1, .int r3]) (rest := []) rfl rfl (by rw [hb]; exact (xb_d D_World_offsetOf 6 rfl))) (ok_World_valueOf l hfl D A σ x0 x1 r3 h2 _ hw) (hml.trans hl.1.symm) (by rw [hb]; exact (xb_d D_World_offsetOf 6 rfl)) (Nat.le_of_ble_eq_true rfl) (Nat.le_of_ble_eq_true rfl) (Nat.le_of_ble_eq_true rfl) (show k + 0 ≤ MC by omega) (show n + 0 ≤ MS by omega) (xt_w1 hB.1 m_e9cf7221) (xt_cdOf hB.1 m_e9cf7221) (hts _ m_4534b440) hB hR hS hA (fun vv h5 H locs hq hEh5 hR hS => ?_) (fun XX ax h5 H locs hq hEh5 hex hR hS => ?_)
    · obtain ⟨r6, rfl, hw⟩ := hq
      have hw := hw hEh5
      have hE := hE.tr hEh5
      refine W.eq (g2 := F0 m 11 ls [.long r6]) rfl ?_
      exact xb_lret hx hb hr hlocks (show k ≤ MC by omega) (show n ≤ MS by omega) hE hR hS (xb_d D_World_offsetOf 7 rfl) hw
    · exact False.elim hq
  · exact False.elim hq

theorem m_b5c4b44c : (.methodLink "StackHostLaw" 7 y_H_feed : Cond) ∈ xt_tbl := xt_in (xt_t2 (List.mem_of_getElem? (i := 148) (by decide +kernel))) (by decide +kernel)
theorem m_86133e3f : (.instanceMethod y_H_feed : Cond) ∈ xt_tbl := xt_in (xt_t2 (List.mem_of_getElem? (i := 149) (by decide +kernel))) (by decide +kernel)
theorem m_5863c221 : (.selects "StackHost" y_H_feed y_H_feed : Cond) ∈ xt_tbl := xt_in (xt_t2 (List.mem_of_getElem? (i := 150) (by decide +kernel))) (by decide +kernel)
theorem m_382b818b : (.code y_H_feed b_H_feed 6 (some .int) : Cond) ∈ xt_tbl := xt_in (xt_t2 (List.mem_of_getElem? (i := 151) (by decide +kernel))) (by decide +kernel)
theorem m_cd065aea : (.classLink "StackHostLaw" 13 "java/lang/IllegalStateException" : Cond) ∈ xt_tbl := xt_in (xt_t2 (List.mem_of_getElem? (i := 147) (by decide +kernel))) (by decide +kernel)
theorem m_a4ef0ec8 : (.castable "java/lang/IllegalStateException" "java/lang/IllegalStateException" : Cond) ∈ xt_tbl := xt_in (xt_t2 (List.mem_of_getElem? (i := 155) (by decide +kernel))) (by decide +kernel)
theorem nm_H_feed : xt_nm y_H_feed 5 := ⟨by decide +kernel, by decide +kernel⟩
set_option maxRecDepth 100000 in
def T_Law_feed : List (Nat × Instr × Nat) := [(0, .aload 6, 2), (2, .iconst 0, 1), (3, .aload_n 0, 1), (4, .iload_n 1, 1), (5, .iload_n 2, 1), (6, .iload_n 3, 1), (7, .iload 4, 2), (9, .iload 5, 2), (11, .invokevirtual 7, 3), (14, .i2l, 1), (15, .lastore, 1), (16, .goto 7, 3), (19, .astore 7, 2), (21, .iconst 1, 1), (22, .ireturn, 1), (23, .iconst 0, 1), (24, .ireturn, 1)]
theorem D_Law_feed : ∀ q ∈ T_Law_feed, decode b_Law_feed q.1 = .ok (q.2.1, q.2.2) := by decide +kernel
def w_Law_feed (x0 : Nat) (x1 : Int32) (x2 : Int32) (x3 : Int32) (x4 : Int32) (x5 : Int32) (x6 : Nat) (h : xb_H) (bc : Nat) (bs : Nat) (Qr : Int32 → xb_H → Prop) : Prop :=
    xb_k h x0 = 1 ∧ ∃ c4 sc4 : Nat, c4 ≤ bc ∧ sc4 ≤ bs ∧ w_H_feed x0 x1 x2 x3 x4 x5 h c4 sc4 (fun (r3 : Int32) (h2 : xb_H) => xb_ext h h2 → xb_k h2 x6 = 103 ∧ vp_in 0 (xb_n h2 x6) ∧ ∀ h7 : xb_H, h7 = xb_L h2 x6 (Int32.toNatClampNeg 0) (Int32.toInt64 r3) → Qr 0 h7) (fun (XX : String) (h2 : xb_H) => xb_ext h h2 → (XX = "java/lang/IllegalStateException" ∧ Qr 1 h2))

set_option maxHeartbeats 4000000 in
set_option maxRecDepth 100000 in
theorem ok_Law_feed (l : Launch) (hfl : l.flags = pinnedFlags ++ [noTraceFlag]) (D : va_G) (A : Nat → Prop) (σ : Nat) (x0 : Nat) (x1 : Int32) (x2 : Int32) (x3 : Int32) (x4 : Int32) (x5 : Int32) (x6 : Nat) (h : xb_H) (bc : Nat) (bs : Nat) (Qr : Int32 → xb_H → Prop) (hw : w_Law_feed x0 x1 x2 x3 x4 x5 x6 h bc bs Qr) : xt_Met l y_Law_feed [.codeWith y_Law_feed b_Law_feed 8 (some .int) [(0, 16, 19, 13)]] (xb_rm 4 bc bs) (xb_Pc D A σ h [.ref x0, .int x1, .int x2, .int x3, .int x4, .int x5, .ref x6]) (xb_Qc D A h (fun v h => ∃ r, v = some (.int r) ∧ Qr r h) (fun _ _ => False)) bc bs A := by
  refine xb_ofAmH (cc := b_Law_feed) (by decide) (Nat.le_of_ble_eq_true rfl) ?_
  unfold w_Law_feed at hw
  show xb_am l D A σ 4 bc bs h (fun v h => ∃ r, v = some (.int r) ∧ Qr r h) (fun _ _ => False) y_Law_feed.cls y_Law_feed.name b_Law_feed 8 (tableOf [(0, 16, 19, 13)]) (some .int) 0 [(0, .ref x0), (1, .int x1), (2, .int x2), (3, .int x3), (4, .int x4), (5, .int x5), (6, .ref x6)] [] h bc bs
  obtain ⟨MC, hMC⟩ : ∃ x, x = bc := ⟨_, rfl⟩
  obtain ⟨MS, hMS⟩ : ∃ x, x = bs := ⟨_, rfl⟩
  rw [show xb_am l D A σ 4 bc bs = xb_am l D A σ 4 MC MS by rw [hMC, hMS]]
  obtain ⟨h0, hh0⟩ : ∃ x, x = h := ⟨_, rfl⟩
  rw [show xb_am l D A σ 4 MC MS h = xb_am l D A σ 4 MC MS h0 by rw [hh0]]
  intro p e s m args below meth c hC H locs ls k n hE hl hR hS hk hn
  obtain ⟨hx, hb, hown, hlocks, htab, hml, hr, hB, hA, hnm⟩ := id hC
  have hts := hB.1.1.at args
  refine lv_aload hx hb (xb_d D_Law_feed 0 rfl) (lv_at hl 6 rfl) ?_
  refine lv_iconst (v := 0) hx hb (xb_d D_Law_feed 1 rfl) (by decide) ?_
  refine lv_aload_n hx hb (xb_d D_Law_feed 2 rfl) rfl (lv_at hl 0 rfl) ?_
  refine lv_iload_n hx hb (xb_d D_Law_feed 3 rfl) rfl (lv_at hl 1 rfl) ?_
  refine lv_iload_n hx hb (xb_d D_Law_feed 4 rfl) rfl (lv_at hl 2 rfl) ?_
  refine lv_iload_n hx hb (xb_d D_Law_feed 5 rfl) rfl (lv_at hl 3 rfl) ?_
  refine lv_iload hx hb (xb_d D_Law_feed 6 rfl) (lv_at hl 4 rfl) ?_
  refine lv_iload hx hb (xb_d D_Law_feed 7 rfl) (lv_at hl 5 rfl) ?_
  obtain ⟨hk1, hw⟩ := hw
  obtain ⟨c4, sc4, hlc4, hlsc4, hw⟩ := hw
  refine xb_call (D := D) (A := A) (σ := σ) (h := h) (d := 3) (mc := c4) (ms := sc4) (maxL := 6) (rest := [.int 0, .ref x6]) (av := [.ref x0, .int x1, .int x2, .int x3, .int x4, .int x5]) (fun T hT X => by obtain ⟨cb, r1, r2, r3⟩ := xb_recv (ci := 0) hR rfl hk1 (by decide); exact xt_invV X hx hown (hts _ m_b5c4b44c) (hts _ m_86133e3f) (hts _ m_5863c221) (xt_sigOf (hts _ m_382b818b)) nm_H_feed (by rw [hT]; exact r1) r2 r3 (g := F0 m 11 ls [.int x5, .int x4, .int x3, .int x2, .int x1, .ref x0, .int 0, .ref x6]) rfl (argsL := [.int x1, .int x2, .int x3, .int x4, .int x5]) (rest := [.int 0, .ref x6]) rfl rfl (by rw [hb]; exact (xb_d D_Law_feed 8 rfl))) (ok_H_feed l hfl D A σ x0 x1 x2 x3 x4 x5 h c4 sc4 _ _ hw) (hml.trans hl.1.symm) (by rw [hb]; exact (xb_d D_Law_feed 8 rfl)) (Nat.le_of_ble_eq_true rfl) (Nat.le_of_ble_eq_true rfl) (Nat.le_of_ble_eq_true rfl) (show k + c4 ≤ MC by omega) (show n + sc4 ≤ MS by omega) (xt_w1 hB.1 m_382b818b) (xt_cdOf hB.1 m_382b818b) (hts _ m_ba0734f5) hB hR hS hA (fun vv h2 H locs hq hEh2 hR hS => ?_) (fun XX ax h2 H locs hq hEh2 hex hR hS => ?_)
  · obtain ⟨r3, rfl, hw⟩ := hq
    have hw := hw hEh2
    have hE := hE.tr hEh2
    refine W.eq (g2 := F0 m 14 ls [.int r3, .int 0, .ref x6]) rfl ?_
    refine lv_i2l hx hb (xb_d D_Law_feed 9 rfl) rfl ?_
    obtain ⟨hk5, hw⟩ := hw
    obtain ⟨hi6, hw⟩ := hw
    refine xb_last hx hb hR hS hk5 hi6 (xb_d D_Law_feed 10 rfl) (fun H locs hR hS => ?_)
    obtain ⟨h7, eh7⟩ : ∃ x : xb_H, x = xb_L h2 x6 (Int32.toNatClampNeg 0) (Int32.toInt64 r3) := ⟨_, rfl⟩
    rw [← eh7] at hR
    have hw := hw h7 eh7
    have hE : xb_ext h0 h7 := by rw [eh7]; exact hE
    refine lv_goto (tgt := 23) hx hb (xb_d D_Law_feed 11 rfl) rfl ?_
    refine lv_iconst (v := 0) hx hb (xb_d D_Law_feed 15 rfl) (by decide) ?_
    exact xb_iret hx hb hr hlocks (show (k + c4) ≤ MC by omega) (show (n + sc4) ≤ MS by omega) hE hR hS (xb_d D_Law_feed 16 rfl) hw
  · have hw := hq hEh2
    have hE := hE.tr hEh2
    obtain ⟨rfl, hw⟩ := hw
    refine xt_catch (own := "StackHostLaw") (name := "java/lang/IllegalStateException") (Xn := "java/lang/IllegalStateException") hown ⟨0, 16, 19, 13⟩ [] htab (by decide) (by decide) (hts _ m_cd065aea) (hts _ m_a4ef0ec8) hex ?_
    refine W.eq (g2 := F0 m 19 ls [.ref ax]) rfl ?_
    refine lv_astore hx hb (xb_d D_Law_feed 12 rfl) hl (by decide) rfl (fun ls hl => ?_)
    have hl : lv_has ls 8 [(7, .ref ax), (0, .ref x0), (1, .int x1), (2, .int x2), (3, .int x3), (4, .int x4), (5, .int x5), (6, .ref x6)] := hl
    refine lv_iconst (v := 1) hx hb (xb_d D_Law_feed 13 rfl) (by decide) ?_
    exact xb_iret hx hb hr hlocks (show (k + c4) ≤ MC by omega) (show (n + sc4) ≤ MS by omega) hE hR hS (xb_d D_Law_feed 14 rfl) hw

theorem m_266e88b0 : (.methodLink "StackHostLaw" 31 y_H_module : Cond) ∈ xt_tbl := xt_in (xt_t6 (List.mem_of_getElem? (i := 80) (by decide +kernel))) (by decide +kernel)
theorem m_53d7cc28 : (.instanceMethod y_H_module : Cond) ∈ xt_tbl := xt_in (xt_t6 (List.mem_of_getElem? (i := 81) (by decide +kernel))) (by decide +kernel)
theorem m_f3f143cf : (.selects "StackHost" y_H_module y_H_module : Cond) ∈ xt_tbl := xt_in (xt_t6 (List.mem_of_getElem? (i := 82) (by decide +kernel))) (by decide +kernel)
theorem m_bd825a56 : (.code y_H_module b_H_module 4 (some .int) : Cond) ∈ xt_tbl := xt_in (xt_t6 (List.mem_of_getElem? (i := 83) (by decide +kernel))) (by decide +kernel)
theorem nm_H_module : xt_nm y_H_module 2 := ⟨by decide +kernel, by decide +kernel⟩
set_option maxRecDepth 100000 in
def T_Law_module : List (Nat × Instr × Nat) := [(0, .aload_n 3, 1), (1, .iconst 0, 1), (2, .aload_n 0, 1), (3, .iload_n 1, 1), (4, .iload_n 2, 1), (5, .invokevirtual 31, 3), (8, .i2l, 1), (9, .lastore, 1), (10, .goto 7, 3), (13, .astore 4, 2), (15, .iconst 1, 1), (16, .ireturn, 1), (17, .iconst 0, 1), (18, .ireturn, 1)]
theorem D_Law_module : ∀ q ∈ T_Law_module, decode b_Law_module q.1 = .ok (q.2.1, q.2.2) := by decide +kernel
def w_Law_module (x0 : Nat) (x1 : Int32) (x2 : Int32) (x3 : Nat) (h : xb_H) (bc : Nat) (bs : Nat) (Qr : Int32 → xb_H → Prop) : Prop :=
    xb_k h x0 = 1 ∧ ∃ c4 sc4 : Nat, c4 ≤ bc ∧ sc4 ≤ bs ∧ w_H_module x0 x1 x2 h c4 sc4 (fun (r3 : Int32) (h2 : xb_H) => xb_ext h h2 → xb_k h2 x3 = 103 ∧ vp_in 0 (xb_n h2 x3) ∧ ∀ h7 : xb_H, h7 = xb_L h2 x3 (Int32.toNatClampNeg 0) (Int32.toInt64 r3) → Qr 0 h7) (fun (XX : String) (h2 : xb_H) => xb_ext h h2 → (XX = "java/lang/IndexOutOfBoundsException" ∧ Qr 1 h2))

set_option maxHeartbeats 4000000 in
set_option maxRecDepth 100000 in
theorem ok_Law_module (l : Launch) (hfl : l.flags = pinnedFlags ++ [noTraceFlag]) (D : va_G) (A : Nat → Prop) (σ : Nat) (x0 : Nat) (x1 : Int32) (x2 : Int32) (x3 : Nat) (h : xb_H) (bc : Nat) (bs : Nat) (Qr : Int32 → xb_H → Prop) (hw : w_Law_module x0 x1 x2 x3 h bc bs Qr) : xt_Met l y_Law_module [.codeWith y_Law_module b_Law_module 5 (some .int) [(0, 10, 13, 29)]] (xb_rm 4 bc bs) (xb_Pc D A σ h [.ref x0, .int x1, .int x2, .ref x3]) (xb_Qc D A h (fun v h => ∃ r, v = some (.int r) ∧ Qr r h) (fun _ _ => False)) bc bs A := by
  refine xb_ofAmH (cc := b_Law_module) (by decide) (Nat.le_of_ble_eq_true rfl) ?_
  unfold w_Law_module at hw
  show xb_am l D A σ 4 bc bs h (fun v h => ∃ r, v = some (.int r) ∧ Qr r h) (fun _ _ => False) y_Law_module.cls y_Law_module.name b_Law_module 5 (tableOf [(0, 10, 13, 29)]) (some .int) 0 [(0, .ref x0), (1, .int x1), (2, .int x2), (3, .ref x3)] [] h bc bs
  obtain ⟨MC, hMC⟩ : ∃ x, x = bc := ⟨_, rfl⟩
  obtain ⟨MS, hMS⟩ : ∃ x, x = bs := ⟨_, rfl⟩
  rw [show xb_am l D A σ 4 bc bs = xb_am l D A σ 4 MC MS by rw [hMC, hMS]]
  obtain ⟨h0, hh0⟩ : ∃ x, x = h := ⟨_, rfl⟩
  rw [show xb_am l D A σ 4 MC MS h = xb_am l D A σ 4 MC MS h0 by rw [hh0]]
  intro p e s m args below meth c hC H locs ls k n hE hl hR hS hk hn
  obtain ⟨hx, hb, hown, hlocks, htab, hml, hr, hB, hA, hnm⟩ := id hC
  have hts := hB.1.1.at args
  refine lv_aload_n hx hb (xb_d D_Law_module 0 rfl) rfl (lv_at hl 3 rfl) ?_
  refine lv_iconst (v := 0) hx hb (xb_d D_Law_module 1 rfl) (by decide) ?_
  refine lv_aload_n hx hb (xb_d D_Law_module 2 rfl) rfl (lv_at hl 0 rfl) ?_
  refine lv_iload_n hx hb (xb_d D_Law_module 3 rfl) rfl (lv_at hl 1 rfl) ?_
  refine lv_iload_n hx hb (xb_d D_Law_module 4 rfl) rfl (lv_at hl 2 rfl) ?_
  obtain ⟨hk1, hw⟩ := hw
  obtain ⟨c4, sc4, hlc4, hlsc4, hw⟩ := hw
  refine xb_call (D := D) (A := A) (σ := σ) (h := h) (d := 3) (mc := c4) (ms := sc4) (maxL := 4) (rest := [.int 0, .ref x3]) (av := [.ref x0, .int x1, .int x2]) (fun T hT X => by obtain ⟨cb, r1, r2, r3⟩ := xb_recv (ci := 0) hR rfl hk1 (by decide); exact xt_invV X hx hown (hts _ m_266e88b0) (hts _ m_53d7cc28) (hts _ m_f3f143cf) (xt_sigOf (hts _ m_bd825a56)) nm_H_module (by rw [hT]; exact r1) r2 r3 (g := F0 m 5 ls [.int x2, .int x1, .ref x0, .int 0, .ref x3]) rfl (argsL := [.int x1, .int x2]) (rest := [.int 0, .ref x3]) rfl rfl (by rw [hb]; exact (xb_d D_Law_module 5 rfl))) (ok_H_module l hfl D A σ x0 x1 x2 h c4 sc4 _ _ hw) (hml.trans hl.1.symm) (by rw [hb]; exact (xb_d D_Law_module 5 rfl)) (Nat.le_of_ble_eq_true rfl) (Nat.le_of_ble_eq_true rfl) (Nat.le_of_ble_eq_true rfl) (show k + c4 ≤ MC by omega) (show n + sc4 ≤ MS by omega) (xt_w1 hB.1 m_bd825a56) (xt_cdOf hB.1 m_bd825a56) (hts _ m_ba0734f5) hB hR hS hA (fun vv h2 H locs hq hEh2 hR hS => ?_) (fun XX ax h2 H locs hq hEh2 hex hR hS => ?_)
  · obtain ⟨r3, rfl, hw⟩ := hq
    have hw := hw hEh2
    have hE := hE.tr hEh2
    refine W.eq (g2 := F0 m 8 ls [.int r3, .int 0, .ref x3]) rfl ?_
    refine lv_i2l hx hb (xb_d D_Law_module 6 rfl) rfl ?_
    obtain ⟨hk5, hw⟩ := hw
    obtain ⟨hi6, hw⟩ := hw
    refine xb_last hx hb hR hS hk5 hi6 (xb_d D_Law_module 7 rfl) (fun H locs hR hS => ?_)
    obtain ⟨h7, eh7⟩ : ∃ x : xb_H, x = xb_L h2 x3 (Int32.toNatClampNeg 0) (Int32.toInt64 r3) := ⟨_, rfl⟩
    rw [← eh7] at hR
    have hw := hw h7 eh7
    have hE : xb_ext h0 h7 := by rw [eh7]; exact hE
    refine lv_goto (tgt := 17) hx hb (xb_d D_Law_module 8 rfl) rfl ?_
    refine lv_iconst (v := 0) hx hb (xb_d D_Law_module 12 rfl) (by decide) ?_
    exact xb_iret hx hb hr hlocks (show (k + c4) ≤ MC by omega) (show (n + sc4) ≤ MS by omega) hE hR hS (xb_d D_Law_module 13 rfl) hw
  · have hw := hq hEh2
    have hE := hE.tr hEh2
    obtain ⟨rfl, hw⟩ := hw
    refine xt_catch (own := "StackHostLaw") (name := "java/lang/IndexOutOfBoundsException") (Xn := "java/lang/IndexOutOfBoundsException") hown ⟨0, 10, 13, 29⟩ [] htab (by decide) (by decide) (hts _ m_17a0b3c6) (hts _ m_b0d3d118) hex ?_
    refine W.eq (g2 := F0 m 13 ls [.ref ax]) rfl ?_
    refine lv_astore hx hb (xb_d D_Law_module 9 rfl) hl (by decide) rfl (fun ls hl => ?_)
    have hl : lv_has ls 5 [(4, .ref ax), (0, .ref x0), (1, .int x1), (2, .int x2), (3, .ref x3)] := hl
    refine lv_iconst (v := 1) hx hb (xb_d D_Law_module 10 rfl) (by decide) ?_
    exact xb_iret hx hb hr hlocks (show (k + c4) ≤ MC by omega) (show (n + sc4) ≤ MS by omega) hE hR hS (xb_d D_Law_module 11 rfl) hw

theorem m_e5bf94e4 : (.methodLink "StackHostLaw" 65 y_H_pages : Cond) ∈ xt_tbl := xt_in (xt_t9 (List.mem_of_getElem? (i := 34) (by decide +kernel))) (by decide +kernel)
theorem m_e0b9d044 : (.instanceMethod y_H_pages : Cond) ∈ xt_tbl := xt_in (xt_t9 (List.mem_of_getElem? (i := 35) (by decide +kernel))) (by decide +kernel)
theorem m_31b5e7fd : (.selects "StackHost" y_H_pages y_H_pages : Cond) ∈ xt_tbl := xt_in (xt_t9 (List.mem_of_getElem? (i := 36) (by decide +kernel))) (by decide +kernel)
theorem m_2758ffe3 : (.code y_H_pages b_H_pages 3 (some .int) : Cond) ∈ xt_tbl := xt_in (xt_t9 (List.mem_of_getElem? (i := 37) (by decide +kernel))) (by decide +kernel)
theorem nm_H_pages : xt_nm y_H_pages 1 := ⟨by decide +kernel, by decide +kernel⟩
set_option maxRecDepth 100000 in
def T_Law_pages : List (Nat × Instr × Nat) := [(0, .aload_n 2, 1), (1, .iconst 0, 1), (2, .aload_n 0, 1), (3, .iload_n 1, 1), (4, .invokevirtual 65, 3), (7, .i2l, 1), (8, .lastore, 1), (9, .goto 6, 3), (12, .astore_n 3, 1), (13, .iconst 1, 1), (14, .ireturn, 1), (15, .iconst 0, 1), (16, .ireturn, 1)]
theorem D_Law_pages : ∀ q ∈ T_Law_pages, decode b_Law_pages q.1 = .ok (q.2.1, q.2.2) := by decide +kernel
def w_Law_pages (x0 : Nat) (x1 : Int32) (x2 : Nat) (h : xb_H) (bc : Nat) (bs : Nat) (Qr : Int32 → xb_H → Prop) : Prop :=
    xb_k h x0 = 1 ∧ ∃ c4 sc4 : Nat, c4 ≤ bc ∧ sc4 ≤ bs ∧ w_H_pages x0 x1 h c4 sc4 (fun (r3 : Int32) (h2 : xb_H) => xb_ext h h2 → xb_k h2 x2 = 103 ∧ vp_in 0 (xb_n h2 x2) ∧ ∀ h7 : xb_H, h7 = xb_L h2 x2 (Int32.toNatClampNeg 0) (Int32.toInt64 r3) → Qr 0 h7) (fun (XX : String) (h2 : xb_H) => xb_ext h h2 → (XX = "java/lang/IndexOutOfBoundsException" ∧ Qr 1 h2))

set_option maxHeartbeats 4000000 in
set_option maxRecDepth 100000 in
theorem ok_Law_pages (l : Launch) (hfl : l.flags = pinnedFlags ++ [noTraceFlag]) (D : va_G) (A : Nat → Prop) (σ : Nat) (x0 : Nat) (x1 : Int32) (x2 : Nat) (h : xb_H) (bc : Nat) (bs : Nat) (Qr : Int32 → xb_H → Prop) (hw : w_Law_pages x0 x1 x2 h bc bs Qr) : xt_Met l y_Law_pages [.codeWith y_Law_pages b_Law_pages 4 (some .int) [(0, 9, 12, 29)]] (xb_rm 4 bc bs) (xb_Pc D A σ h [.ref x0, .int x1, .ref x2]) (xb_Qc D A h (fun v h => ∃ r, v = some (.int r) ∧ Qr r h) (fun _ _ => False)) bc bs A := by
  refine xb_ofAmH (cc := b_Law_pages) (by decide) (Nat.le_of_ble_eq_true rfl) ?_
  unfold w_Law_pages at hw
  show xb_am l D A σ 4 bc bs h (fun v h => ∃ r, v = some (.int r) ∧ Qr r h) (fun _ _ => False) y_Law_pages.cls y_Law_pages.name b_Law_pages 4 (tableOf [(0, 9, 12, 29)]) (some .int) 0 [(0, .ref x0), (1, .int x1), (2, .ref x2)] [] h bc bs
  obtain ⟨MC, hMC⟩ : ∃ x, x = bc := ⟨_, rfl⟩
  obtain ⟨MS, hMS⟩ : ∃ x, x = bs := ⟨_, rfl⟩
  rw [show xb_am l D A σ 4 bc bs = xb_am l D A σ 4 MC MS by rw [hMC, hMS]]
  obtain ⟨h0, hh0⟩ : ∃ x, x = h := ⟨_, rfl⟩
  rw [show xb_am l D A σ 4 MC MS h = xb_am l D A σ 4 MC MS h0 by rw [hh0]]
  intro p e s m args below meth c hC H locs ls k n hE hl hR hS hk hn
  obtain ⟨hx, hb, hown, hlocks, htab, hml, hr, hB, hA, hnm⟩ := id hC
  have hts := hB.1.1.at args
  refine lv_aload_n hx hb (xb_d D_Law_pages 0 rfl) rfl (lv_at hl 2 rfl) ?_
  refine lv_iconst (v := 0) hx hb (xb_d D_Law_pages 1 rfl) (by decide) ?_
  refine lv_aload_n hx hb (xb_d D_Law_pages 2 rfl) rfl (lv_at hl 0 rfl) ?_
  refine lv_iload_n hx hb (xb_d D_Law_pages 3 rfl) rfl (lv_at hl 1 rfl) ?_
  obtain ⟨hk1, hw⟩ := hw
  obtain ⟨c4, sc4, hlc4, hlsc4, hw⟩ := hw
  refine xb_call (D := D) (A := A) (σ := σ) (h := h) (d := 3) (mc := c4) (ms := sc4) (maxL := 3) (rest := [.int 0, .ref x2]) (av := [.ref x0, .int x1]) (fun T hT X => by obtain ⟨cb, r1, r2, r3⟩ := xb_recv (ci := 0) hR rfl hk1 (by decide); exact xt_invV X hx hown (hts _ m_e5bf94e4) (hts _ m_e0b9d044) (hts _ m_31b5e7fd) (xt_sigOf (hts _ m_2758ffe3)) nm_H_pages (by rw [hT]; exact r1) r2 r3 (g := F0 m 4 ls [.int x1, .ref x0, .int 0, .ref x2]) rfl (argsL := [.int x1]) (rest := [.int 0, .ref x2]) rfl rfl (by rw [hb]; exact (xb_d D_Law_pages 4 rfl))) (ok_H_pages l hfl D A σ x0 x1 h c4 sc4 _ _ hw) (hml.trans hl.1.symm) (by rw [hb]; exact (xb_d D_Law_pages 4 rfl)) (Nat.le_of_ble_eq_true rfl) (Nat.le_of_ble_eq_true rfl) (Nat.le_of_ble_eq_true rfl) (show k + c4 ≤ MC by omega) (show n + sc4 ≤ MS by omega) (xt_w1 hB.1 m_2758ffe3) (xt_cdOf hB.1 m_2758ffe3) (hts _ m_ba0734f5) hB hR hS hA (fun vv h2 H locs hq hEh2 hR hS => ?_) (fun XX ax h2 H locs hq hEh2 hex hR hS => ?_)
  · obtain ⟨r3, rfl, hw⟩ := hq
    have hw := hw hEh2
    have hE := hE.tr hEh2
    refine W.eq (g2 := F0 m 7 ls [.int r3, .int 0, .ref x2]) rfl ?_
    refine lv_i2l hx hb (xb_d D_Law_pages 5 rfl) rfl ?_
    obtain ⟨hk5, hw⟩ := hw
    obtain ⟨hi6, hw⟩ := hw
    refine xb_last hx hb hR hS hk5 hi6 (xb_d D_Law_pages 6 rfl) (fun H locs hR hS => ?_)
    obtain ⟨h7, eh7⟩ : ∃ x : xb_H, x = xb_L h2 x2 (Int32.toNatClampNeg 0) (Int32.toInt64 r3) := ⟨_, rfl⟩
    rw [← eh7] at hR
    have hw := hw h7 eh7
    have hE : xb_ext h0 h7 := by rw [eh7]; exact hE
    refine lv_goto (tgt := 15) hx hb (xb_d D_Law_pages 7 rfl) rfl ?_
    refine lv_iconst (v := 0) hx hb (xb_d D_Law_pages 11 rfl) (by decide) ?_
    exact xb_iret hx hb hr hlocks (show (k + c4) ≤ MC by omega) (show (n + sc4) ≤ MS by omega) hE hR hS (xb_d D_Law_pages 12 rfl) hw
  · have hw := hq hEh2
    have hE := hE.tr hEh2
    obtain ⟨rfl, hw⟩ := hw
    refine xt_catch (own := "StackHostLaw") (name := "java/lang/IndexOutOfBoundsException") (Xn := "java/lang/IndexOutOfBoundsException") hown ⟨0, 9, 12, 29⟩ [] htab (by decide) (by decide) (hts _ m_17a0b3c6) (hts _ m_b0d3d118) hex ?_
    refine W.eq (g2 := F0 m 12 ls [.ref ax]) rfl ?_
    refine lv_astore_n hx hb (xb_d D_Law_pages 8 rfl) rfl hl (by decide) rfl (fun ls hl => ?_)
    have hl : lv_has ls 4 [(3, .ref ax), (0, .ref x0), (1, .int x1), (2, .ref x2)] := hl
    refine lv_iconst (v := 1) hx hb (xb_d D_Law_pages 9 rfl) (by decide) ?_
    exact xb_iret hx hb hr hlocks (show (k + c4) ≤ MC by omega) (show (n + sc4) ≤ MS by omega) hE hR hS (xb_d D_Law_pages 10 rfl) hw

theorem m_07cc9faa : (.methodLink "StackHostLaw" 35 y_H_room : Cond) ∈ xt_tbl := xt_in (xt_t6 (List.mem_of_getElem? (i := 94) (by decide +kernel))) (by decide +kernel)
theorem m_3df9cf65 : (.instanceMethod y_H_room : Cond) ∈ xt_tbl := xt_in (xt_t6 (List.mem_of_getElem? (i := 95) (by decide +kernel))) (by decide +kernel)
theorem m_43295ca2 : (.selects "StackHost" y_H_room y_H_room : Cond) ∈ xt_tbl := xt_in (xt_t6 (List.mem_of_getElem? (i := 96) (by decide +kernel))) (by decide +kernel)
theorem m_39335ecb : (.code y_H_room b_H_room 4 (some .int) : Cond) ∈ xt_tbl := xt_in (xt_t6 (List.mem_of_getElem? (i := 97) (by decide +kernel))) (by decide +kernel)
theorem nm_H_room : xt_nm y_H_room 2 := ⟨by decide +kernel, by decide +kernel⟩
set_option maxRecDepth 100000 in
def T_Law_room : List (Nat × Instr × Nat) := [(0, .aload_n 3, 1), (1, .iconst 0, 1), (2, .aload_n 0, 1), (3, .iload_n 1, 1), (4, .iload_n 2, 1), (5, .invokevirtual 35, 3), (8, .i2l, 1), (9, .lastore, 1), (10, .goto 7, 3), (13, .astore 4, 2), (15, .iconst 1, 1), (16, .ireturn, 1), (17, .iconst 0, 1), (18, .ireturn, 1)]
theorem D_Law_room : ∀ q ∈ T_Law_room, decode b_Law_room q.1 = .ok (q.2.1, q.2.2) := by decide +kernel
def w_Law_room (x0 : Nat) (x1 : Int32) (x2 : Int32) (x3 : Nat) (h : xb_H) (bc : Nat) (bs : Nat) (Qr : Int32 → xb_H → Prop) : Prop :=
    xb_k h x0 = 1 ∧ ∃ c4 sc4 : Nat, c4 ≤ bc ∧ sc4 ≤ bs ∧ w_H_room x0 x1 x2 h c4 sc4 (fun (r3 : Int32) (h2 : xb_H) => xb_ext h h2 → xb_k h2 x3 = 103 ∧ vp_in 0 (xb_n h2 x3) ∧ ∀ h7 : xb_H, h7 = xb_L h2 x3 (Int32.toNatClampNeg 0) (Int32.toInt64 r3) → Qr 0 h7) (fun (XX : String) (h2 : xb_H) => xb_ext h h2 → (XX = "java/lang/IndexOutOfBoundsException" ∧ Qr 1 h2))

set_option maxHeartbeats 4000000 in
set_option maxRecDepth 100000 in
theorem ok_Law_room (l : Launch) (hfl : l.flags = pinnedFlags ++ [noTraceFlag]) (D : va_G) (A : Nat → Prop) (σ : Nat) (x0 : Nat) (x1 : Int32) (x2 : Int32) (x3 : Nat) (h : xb_H) (bc : Nat) (bs : Nat) (Qr : Int32 → xb_H → Prop) (hw : w_Law_room x0 x1 x2 x3 h bc bs Qr) : xt_Met l y_Law_room [.codeWith y_Law_room b_Law_room 5 (some .int) [(0, 10, 13, 29)]] (xb_rm 4 bc bs) (xb_Pc D A σ h [.ref x0, .int x1, .int x2, .ref x3]) (xb_Qc D A h (fun v h => ∃ r, v = some (.int r) ∧ Qr r h) (fun _ _ => False)) bc bs A := by
  refine xb_ofAmH (cc := b_Law_room) (by decide) (Nat.le_of_ble_eq_true rfl) ?_
  unfold w_Law_room at hw
  show xb_am l D A σ 4 bc bs h (fun v h => ∃ r, v = some (.int r) ∧ Qr r h) (fun _ _ => False) y_Law_room.cls y_Law_room.name b_Law_room 5 (tableOf [(0, 10, 13, 29)]) (some .int) 0 [(0, .ref x0), (1, .int x1), (2, .int x2), (3, .ref x3)] [] h bc bs
  obtain ⟨MC, hMC⟩ : ∃ x, x = bc := ⟨_, rfl⟩
  obtain ⟨MS, hMS⟩ : ∃ x, x = bs := ⟨_, rfl⟩
  rw [show xb_am l D A σ 4 bc bs = xb_am l D A σ 4 MC MS by rw [hMC, hMS]]
  obtain ⟨h0, hh0⟩ : ∃ x, x = h := ⟨_, rfl⟩
  rw [show xb_am l D A σ 4 MC MS h = xb_am l D A σ 4 MC MS h0 by rw [hh0]]
  intro p e s m args below meth c hC H locs ls k n hE hl hR hS hk hn
  obtain ⟨hx, hb, hown, hlocks, htab, hml, hr, hB, hA, hnm⟩ := id hC
  have hts := hB.1.1.at args
  refine lv_aload_n hx hb (xb_d D_Law_room 0 rfl) rfl (lv_at hl 3 rfl) ?_
  refine lv_iconst (v := 0) hx hb (xb_d D_Law_room 1 rfl) (by decide) ?_
  refine lv_aload_n hx hb (xb_d D_Law_room 2 rfl) rfl (lv_at hl 0 rfl) ?_
  refine lv_iload_n hx hb (xb_d D_Law_room 3 rfl) rfl (lv_at hl 1 rfl) ?_
  refine lv_iload_n hx hb (xb_d D_Law_room 4 rfl) rfl (lv_at hl 2 rfl) ?_
  obtain ⟨hk1, hw⟩ := hw
  obtain ⟨c4, sc4, hlc4, hlsc4, hw⟩ := hw
  refine xb_call (D := D) (A := A) (σ := σ) (h := h) (d := 3) (mc := c4) (ms := sc4) (maxL := 4) (rest := [.int 0, .ref x3]) (av := [.ref x0, .int x1, .int x2]) (fun T hT X => by obtain ⟨cb, r1, r2, r3⟩ := xb_recv (ci := 0) hR rfl hk1 (by decide); exact xt_invV X hx hown (hts _ m_07cc9faa) (hts _ m_3df9cf65) (hts _ m_43295ca2) (xt_sigOf (hts _ m_39335ecb)) nm_H_room (by rw [hT]; exact r1) r2 r3 (g := F0 m 5 ls [.int x2, .int x1, .ref x0, .int 0, .ref x3]) rfl (argsL := [.int x1, .int x2]) (rest := [.int 0, .ref x3]) rfl rfl (by rw [hb]; exact (xb_d D_Law_room 5 rfl))) (ok_H_room l hfl D A σ x0 x1 x2 h c4 sc4 _ _ hw) (hml.trans hl.1.symm) (by rw [hb]; exact (xb_d D_Law_room 5 rfl)) (Nat.le_of_ble_eq_true rfl) (Nat.le_of_ble_eq_true rfl) (Nat.le_of_ble_eq_true rfl) (show k + c4 ≤ MC by omega) (show n + sc4 ≤ MS by omega) (xt_w1 hB.1 m_39335ecb) (xt_cdOf hB.1 m_39335ecb) (hts _ m_ba0734f5) hB hR hS hA (fun vv h2 H locs hq hEh2 hR hS => ?_) (fun XX ax h2 H locs hq hEh2 hex hR hS => ?_)
  · obtain ⟨r3, rfl, hw⟩ := hq
    have hw := hw hEh2
    have hE := hE.tr hEh2
    refine W.eq (g2 := F0 m 8 ls [.int r3, .int 0, .ref x3]) rfl ?_
    refine lv_i2l hx hb (xb_d D_Law_room 6 rfl) rfl ?_
    obtain ⟨hk5, hw⟩ := hw
    obtain ⟨hi6, hw⟩ := hw
    refine xb_last hx hb hR hS hk5 hi6 (xb_d D_Law_room 7 rfl) (fun H locs hR hS => ?_)
    obtain ⟨h7, eh7⟩ : ∃ x : xb_H, x = xb_L h2 x3 (Int32.toNatClampNeg 0) (Int32.toInt64 r3) := ⟨_, rfl⟩
    rw [← eh7] at hR
    have hw := hw h7 eh7
    have hE : xb_ext h0 h7 := by rw [eh7]; exact hE
    refine lv_goto (tgt := 17) hx hb (xb_d D_Law_room 8 rfl) rfl ?_
    refine lv_iconst (v := 0) hx hb (xb_d D_Law_room 12 rfl) (by decide) ?_
    exact xb_iret hx hb hr hlocks (show (k + c4) ≤ MC by omega) (show (n + sc4) ≤ MS by omega) hE hR hS (xb_d D_Law_room 13 rfl) hw
  · have hw := hq hEh2
    have hE := hE.tr hEh2
    obtain ⟨rfl, hw⟩ := hw
    refine xt_catch (own := "StackHostLaw") (name := "java/lang/IndexOutOfBoundsException") (Xn := "java/lang/IndexOutOfBoundsException") hown ⟨0, 10, 13, 29⟩ [] htab (by decide) (by decide) (hts _ m_17a0b3c6) (hts _ m_b0d3d118) hex ?_
    refine W.eq (g2 := F0 m 13 ls [.ref ax]) rfl ?_
    refine lv_astore hx hb (xb_d D_Law_room 9 rfl) hl (by decide) rfl (fun ls hl => ?_)
    have hl : lv_has ls 5 [(4, .ref ax), (0, .ref x0), (1, .int x1), (2, .int x2), (3, .ref x3)] := hl
    refine lv_iconst (v := 1) hx hb (xb_d D_Law_room 10 rfl) (by decide) ?_
    exact xb_iret hx hb hr hlocks (show (k + c4) ≤ MC by omega) (show (n + sc4) ≤ MS by omega) hE hR hS (xb_d D_Law_room 11 rfl) hw

theorem m_51df03df : (.methodLink "StackHostLaw" 75 y_H_variable : Cond) ∈ xt_tbl := xt_in (xt_t9 (List.mem_of_getElem? (i := 63) (by decide +kernel))) (by decide +kernel)
theorem m_34f01bf5 : (.instanceMethod y_H_variable : Cond) ∈ xt_tbl := xt_in (xt_t9 (List.mem_of_getElem? (i := 64) (by decide +kernel))) (by decide +kernel)
theorem m_acef4832 : (.selects "StackHost" y_H_variable y_H_variable : Cond) ∈ xt_tbl := xt_in (xt_t9 (List.mem_of_getElem? (i := 65) (by decide +kernel))) (by decide +kernel)
theorem m_8eb297bc : (.code y_H_variable b_H_variable 4 (some .long) : Cond) ∈ xt_tbl := xt_in (xt_t9 (List.mem_of_getElem? (i := 66) (by decide +kernel))) (by decide +kernel)
theorem nm_H_variable : xt_nm y_H_variable 2 := ⟨by decide +kernel, by decide +kernel⟩
set_option maxRecDepth 100000 in
def T_Law_variable : List (Nat × Instr × Nat) := [(0, .aload_n 3, 1), (1, .iconst 0, 1), (2, .aload_n 0, 1), (3, .iload_n 1, 1), (4, .iload_n 2, 1), (5, .invokevirtual 75, 3), (8, .lastore, 1), (9, .goto 7, 3), (12, .astore 4, 2), (14, .iconst 1, 1), (15, .ireturn, 1), (16, .iconst 0, 1), (17, .ireturn, 1)]
theorem D_Law_variable : ∀ q ∈ T_Law_variable, decode b_Law_variable q.1 = .ok (q.2.1, q.2.2) := by decide +kernel
def w_Law_variable (x0 : Nat) (x1 : Int32) (x2 : Int32) (x3 : Nat) (h : xb_H) (bc : Nat) (bs : Nat) (Qr : Int32 → xb_H → Prop) : Prop :=
    xb_k h x0 = 1 ∧ ∃ c4 sc4 : Nat, c4 ≤ bc ∧ sc4 ≤ bs ∧ w_H_variable x0 x1 x2 h c4 sc4 (fun (r3 : Int64) (h2 : xb_H) => xb_ext h h2 → xb_k h2 x3 = 103 ∧ vp_in 0 (xb_n h2 x3) ∧ ∀ h7 : xb_H, h7 = xb_L h2 x3 (Int32.toNatClampNeg 0) r3 → Qr 0 h7) (fun (XX : String) (h2 : xb_H) => xb_ext h h2 → (XX = "java/lang/IndexOutOfBoundsException" ∧ Qr 1 h2))

set_option maxHeartbeats 4000000 in
set_option maxRecDepth 100000 in
theorem ok_Law_variable (l : Launch) (hfl : l.flags = pinnedFlags ++ [noTraceFlag]) (D : va_G) (A : Nat → Prop) (σ : Nat) (x0 : Nat) (x1 : Int32) (x2 : Int32) (x3 : Nat) (h : xb_H) (bc : Nat) (bs : Nat) (Qr : Int32 → xb_H → Prop) (hw : w_Law_variable x0 x1 x2 x3 h bc bs Qr) : xt_Met l y_Law_variable [.codeWith y_Law_variable b_Law_variable 5 (some .int) [(0, 9, 12, 29)]] (xb_rm 4 bc bs) (xb_Pc D A σ h [.ref x0, .int x1, .int x2, .ref x3]) (xb_Qc D A h (fun v h => ∃ r, v = some (.int r) ∧ Qr r h) (fun _ _ => False)) bc bs A := by
  refine xb_ofAmH (cc := b_Law_variable) (by decide) (Nat.le_of_ble_eq_true rfl) ?_
  unfold w_Law_variable at hw
  show xb_am l D A σ 4 bc bs h (fun v h => ∃ r, v = some (.int r) ∧ Qr r h) (fun _ _ => False) y_Law_variable.cls y_Law_variable.name b_Law_variable 5 (tableOf [(0, 9, 12, 29)]) (some .int) 0 [(0, .ref x0), (1, .int x1), (2, .int x2), (3, .ref x3)] [] h bc bs
  obtain ⟨MC, hMC⟩ : ∃ x, x = bc := ⟨_, rfl⟩
  obtain ⟨MS, hMS⟩ : ∃ x, x = bs := ⟨_, rfl⟩
  rw [show xb_am l D A σ 4 bc bs = xb_am l D A σ 4 MC MS by rw [hMC, hMS]]
  obtain ⟨h0, hh0⟩ : ∃ x, x = h := ⟨_, rfl⟩
  rw [show xb_am l D A σ 4 MC MS h = xb_am l D A σ 4 MC MS h0 by rw [hh0]]
  intro p e s m args below meth c hC H locs ls k n hE hl hR hS hk hn
  obtain ⟨hx, hb, hown, hlocks, htab, hml, hr, hB, hA, hnm⟩ := id hC
  have hts := hB.1.1.at args
  refine lv_aload_n hx hb (xb_d D_Law_variable 0 rfl) rfl (lv_at hl 3 rfl) ?_
  refine lv_iconst (v := 0) hx hb (xb_d D_Law_variable 1 rfl) (by decide) ?_
  refine lv_aload_n hx hb (xb_d D_Law_variable 2 rfl) rfl (lv_at hl 0 rfl) ?_
  refine lv_iload_n hx hb (xb_d D_Law_variable 3 rfl) rfl (lv_at hl 1 rfl) ?_
  refine lv_iload_n hx hb (xb_d D_Law_variable 4 rfl) rfl (lv_at hl 2 rfl) ?_
  obtain ⟨hk1, hw⟩ := hw
  obtain ⟨c4, sc4, hlc4, hlsc4, hw⟩ := hw
  refine xb_call (D := D) (A := A) (σ := σ) (h := h) (d := 3) (mc := c4) (ms := sc4) (maxL := 4) (rest := [.int 0, .ref x3]) (av := [.ref x0, .int x1, .int x2]) (fun T hT X => by obtain ⟨cb, r1, r2, r3⟩ := xb_recv (ci := 0) hR rfl hk1 (by decide); exact xt_invV X hx hown (hts _ m_51df03df) (hts _ m_34f01bf5) (hts _ m_acef4832) (xt_sigOf (hts _ m_8eb297bc)) nm_H_variable (by rw [hT]; exact r1) r2 r3 (g := F0 m 5 ls [.int x2, .int x1, .ref x0, .int 0, .ref x3]) rfl (argsL := [.int x1, .int x2]) (rest := [.int 0, .ref x3]) rfl rfl (by rw [hb]; exact (xb_d D_Law_variable 5 rfl))) (ok_H_variable l hfl D A σ x0 x1 x2 h c4 sc4 _ _ hw) (hml.trans hl.1.symm) (by rw [hb]; exact (xb_d D_Law_variable 5 rfl)) (Nat.le_of_ble_eq_true rfl) (Nat.le_of_ble_eq_true rfl) (Nat.le_of_ble_eq_true rfl) (show k + c4 ≤ MC by omega) (show n + sc4 ≤ MS by omega) (xt_w1 hB.1 m_8eb297bc) (xt_cdOf hB.1 m_8eb297bc) (hts _ m_ba0734f5) hB hR hS hA (fun vv h2 H locs hq hEh2 hR hS => ?_) (fun XX ax h2 H locs hq hEh2 hex hR hS => ?_)
  · obtain ⟨r3, rfl, hw⟩ := hq
    have hw := hw hEh2
    have hE := hE.tr hEh2
    refine W.eq (g2 := F0 m 8 ls [.long r3, .int 0, .ref x3]) rfl ?_
    obtain ⟨hk5, hw⟩ := hw
    obtain ⟨hi6, hw⟩ := hw
    refine xb_last hx hb hR hS hk5 hi6 (xb_d D_Law_variable 6 rfl) (fun H locs hR hS => ?_)
    obtain ⟨h7, eh7⟩ : ∃ x : xb_H, x = xb_L h2 x3 (Int32.toNatClampNeg 0) r3 := ⟨_, rfl⟩
    rw [← eh7] at hR
    have hw := hw h7 eh7
    have hE : xb_ext h0 h7 := by rw [eh7]; exact hE
    refine lv_goto (tgt := 16) hx hb (xb_d D_Law_variable 7 rfl) rfl ?_
    refine lv_iconst (v := 0) hx hb (xb_d D_Law_variable 11 rfl) (by decide) ?_
    exact xb_iret hx hb hr hlocks (show (k + c4) ≤ MC by omega) (show (n + sc4) ≤ MS by omega) hE hR hS (xb_d D_Law_variable 12 rfl) hw
  · have hw := hq hEh2
    have hE := hE.tr hEh2
    obtain ⟨rfl, hw⟩ := hw
    refine xt_catch (own := "StackHostLaw") (name := "java/lang/IndexOutOfBoundsException") (Xn := "java/lang/IndexOutOfBoundsException") hown ⟨0, 9, 12, 29⟩ [] htab (by decide) (by decide) (hts _ m_17a0b3c6) (hts _ m_b0d3d118) hex ?_
    refine W.eq (g2 := F0 m 12 ls [.ref ax]) rfl ?_
    refine lv_astore hx hb (xb_d D_Law_variable 8 rfl) hl (by decide) rfl (fun ls hl => ?_)
    have hl : lv_has ls 5 [(4, .ref ax), (0, .ref x0), (1, .int x1), (2, .int x2), (3, .ref x3)] := hl
    refine lv_iconst (v := 1) hx hb (xb_d D_Law_variable 9 rfl) (by decide) ?_
    exact xb_iret hx hb hr hlocks (show (k + c4) ≤ MC by omega) (show (n + sc4) ≤ MS by omega) hE hR hS (xb_d D_Law_variable 10 rfl) hw

theorem m_0e978570 : (.methodLink "StackHostModel" 212 y_M_next : Cond) ∈ xt_tbl := xt_in (xt_t10 (List.mem_of_getElem? (i := 214) (by decide +kernel))) (by decide +kernel)
theorem m_40099f98 : (.instanceMethod y_M_next : Cond) ∈ xt_tbl := xt_in (xt_t10 (List.mem_of_getElem? (i := 216) (by decide +kernel))) (by decide +kernel)
theorem m_a7dbfd07 : (.selects "StackHostModel" y_M_next y_M_next : Cond) ∈ xt_tbl := xt_in (xt_v9 (q := (⟨"StackHostModel", "next", "()I"⟩, 97)) (List.mem_of_getElem? (i := 4) (by decide +kernel))) (by decide +kernel)
theorem m_0af1ec6a : (.code y_M_next b_M_next 2 (some .int) : Cond) ∈ xt_tbl := xt_in (xt_t10 (List.mem_of_getElem? (i := 217) (by decide +kernel))) (by decide +kernel)
theorem nm_M_next : xt_nm y_M_next 0 := ⟨by decide +kernel, by decide +kernel⟩
set_option maxRecDepth 100000 in
def T_M_count : List (Nat × Instr × Nat) := [(0, .lconst 0, 1), (1, .lstore_n 1, 1), (2, .iconst 0, 1), (3, .istore_n 3, 1), (4, .iload_n 3, 1), (5, .iconst 5, 1), (6, .if_icmp .ge 78, 3), (9, .aload_n 0, 1), (10, .invokevirtual 212, 3), (13, .istore 4, 2), (15, .aload_n 0, 1), (16, .getfield 193, 3), (19, .ifCond .ne 26, 3), (22, .iload_n 3, 1), (23, .iconst 4, 1), (24, .if_icmp .ne 21, 3), (27, .iload 4, 2), (29, .bipush 15, 2), (31, .if_icmp .le 14, 3), (34, .aload_n 0, 1), (35, .iconst 3, 1), (36, .aload_n 0, 1), (37, .getfield 202, 3), (40, .iconst 1, 1), (41, .isub, 1), (42, .invokevirtual 208, 3), (45, .aload_n 0, 1), (46, .getfield 193, 3), (49, .ifCond .eq 5, 3), (52, .lconst 0, 1), (53, .lreturn, 1), (54, .lload_n 1, 1), (55, .iload 4, 2), (57, .bipush 127, 2), (59, .iand, 1), (60, .i2l, 1), (61, .bipush 7, 2), (63, .iload_n 3, 1), (64, .imul, 1), (65, .lshl, 1), (66, .lor, 1), (67, .lstore_n 1, 1), (68, .iload 4, 2), (70, .sipush 128, 3), (73, .if_icmp .ge 5, 3), (76, .lload_n 1, 1), (77, .lreturn, 1), (78, .iinc 3 1, 3), (81, .goto (-77), 3), (84, .lload_n 1, 1), (85, .lreturn, 1)]
theorem D_M_count : ∀ q ∈ T_M_count, decode b_M_count q.1 = .ok (q.2.1, q.2.2) := by decide +kernel
def w_M_count_L45 (K4 : Nat → Int64 → Int32 → xb_H → Prop) (Qr : Int64 → xb_H → Prop) (x0 : Nat) (x1 : Int64) (x3 : Int32) (x4 : Int32) (h : xb_H) : Prop :=
    xb_k h x0 = 9 ∧ (((xb_i h x0 17) = (0 : Int32) → ∀ v3 : Int64, v3 = (x1 ||| (xb_lshl (Int32.toInt64 (x4 &&& 127)) (7 * x3))) → (((128 : Int32) ≤ x4 → K4 x0 v3 (x3 + 1) h) ∧ (¬ (128 : Int32) ≤ x4 → Qr v3 h))) ∧ (¬ (xb_i h x0 17) = (0 : Int32) → Qr 0 h))

def w_M_count_L4 (Qr : Int64 → xb_H → Prop) : Nat → Nat → Int64 → Int32 → xb_H → Prop
  | 0, _, _, _, _ => False
  | n9 + 1, x0, x1, x3, h =>
    (((5 : Int32) ≤ x3 → Qr x1 h) ∧ (¬ (5 : Int32) ≤ x3 → xb_k h x0 = 9 ∧ w_M_next x0 h (fun (r4 : Int32) (h3 : xb_H) => xb_ext h h3 → ((¬ (xb_i h3 x0 17) = (0 : Int32) → w_M_count_L45 (w_M_count_L4 Qr n9) Qr x0 x1 x3 r4 h3) ∧ ((xb_i h3 x0 17) = (0 : Int32) → ((¬ x3 = (4 : Int32) → w_M_count_L45 (w_M_count_L4 Qr n9) Qr x0 x1 x3 r4 h3) ∧ (x3 = (4 : Int32) → ((r4 ≤ (15 : Int32) → w_M_count_L45 (w_M_count_L4 Qr n9) Qr x0 x1 x3 r4 h3) ∧ (¬ r4 ≤ (15 : Int32) → w_M_fail x0 3 ((xb_i h3 x0 15) - 1) h3 (fun (h8 : xb_H) => xb_ext h3 h8 → w_M_count_L45 (w_M_count_L4 Qr n9) Qr x0 x1 x3 r4 h8))))))))))

def w_M_count (x0 : Nat) (h : xb_H) (Qr : Int64 → xb_H → Prop) : Prop :=
    (∃ n8 : Nat, w_M_count_L4 Qr n8 x0 0 0 h)

set_option maxHeartbeats 4000000 in
set_option maxRecDepth 100000 in
theorem am_M_count_L45 (l : Launch) (hfl : l.flags = pinnedFlags ++ [noTraceFlag]) (D : va_G) (A : Nat → Prop) (σ MC MS : Nat) (h0 : xb_H) (Qr : Int64 → xb_H → Prop) (K4 : Nat → Int64 → Int32 → xb_H → Prop) (hK4 : ∀ (x0 : Nat) (x1 : Int64) (x3 : Int32) (h : xb_H), K4 x0 x1 x3 h → xb_am l D A σ 4 MC MS h0 (fun v h => ∃ r, v = some (.long r) ∧ Qr r h) (fun _ _ => False) y_M_count.cls y_M_count.name b_M_count 5 ([] : List ExceptionTableEntry) (some .long) 4 [(0, .ref x0), (1, .long x1), (3, .int x3)] [] h 0 0) (x0 : Nat) (x1 : Int64) (x3 : Int32) (x4 : Int32) (h : xb_H) (hw : w_M_count_L45 K4 Qr x0 x1 x3 x4 h) : xb_am l D A σ 4 MC MS h0 (fun v h => ∃ r, v = some (.long r) ∧ Qr r h) (fun _ _ => False) y_M_count.cls y_M_count.name b_M_count 5 ([] : List ExceptionTableEntry) (some .long) 45 [(0, .ref x0), (1, .long x1), (3, .int x3), (4, .int x4)] [] h 0 0 := by
  unfold w_M_count_L45 at hw
  intro p e s m args below meth c hC H locs ls k n hE hl hR hS hk hn
  obtain ⟨hx, hb, hown, hlocks, htab, hml, hr, hB, hA, hnm⟩ := id hC
  have hts := hB.1.1.at args
  refine lv_aload_n hx hb (xb_d D_M_count 26 rfl) rfl (lv_at hl 0 rfl) ?_
  obtain ⟨hk1, hw⟩ := hw
  refine xb_getI (C := R_M) (T := F_M) (N := 97) hx hb 8 17 hts fin_M hown hR hk1 (by decide) rfl (by decide) rfl (hts _ m_ff69da61) (fun _ h9 => h9) (xb_d D_M_count 27 rfl) ?_
  refine lv_if_eq (tgt := 54) hx hb (xb_d D_M_count 28 rfl) rfl (fun hc2 => ?_) (fun hc2 => ?_)
  · have hw := hw.1 hc2
    refine lv_lload_n hx hb (xb_d D_M_count 31 rfl) rfl (lv_at hl 1 rfl) ?_
    refine lv_iload hx hb (xb_d D_M_count 32 rfl) (lv_at hl 3 rfl) ?_
    refine lv_bipush (v := 127) hx hb (xb_d D_M_count 33 rfl) (by decide) ?_
    refine lv_iand hx hb (xb_d D_M_count 34 rfl) ?_
    refine lv_i2l hx hb (xb_d D_M_count 35 rfl) rfl ?_
    refine lv_bipush (v := 7) hx hb (xb_d D_M_count 36 rfl) (by decide) ?_
    refine lv_iload_n hx hb (xb_d D_M_count 37 rfl) rfl (lv_at hl 2 rfl) ?_
    refine lv_imul hx hb (xb_d D_M_count 38 rfl) ?_
    refine lv_lshl (v := (xb_lshl (Int32.toInt64 (x4 &&& 127)) (7 * x3))) hx hb (xb_d D_M_count 39 rfl) rfl ?_
    refine lv_lor hx hb (xb_d D_M_count 40 rfl) ?_
    obtain ⟨v3, ev3⟩ : ∃ x : Int64, x = (x1 ||| (xb_lshl (Int32.toInt64 (x4 &&& 127)) (7 * x3))) := ⟨_, rfl⟩
    have hw := hw v3 ev3
    refine xt_numl (y := v3) ev3.symm ?_
    refine lv_lstore_n hx hb (xb_d D_M_count 41 rfl) rfl hl (by decide) rfl (fun ls hl => ?_)
    have hl : lv_has ls 5 [(1, .long v3), (0, .ref x0), (3, .int x3), (4, .int x4)] := hl
    refine lv_iload hx hb (xb_d D_M_count 42 rfl) (lv_at hl 3 rfl) ?_
    refine lv_sipush (v := 128) hx hb (xb_d D_M_count 43 rfl) (by decide) ?_
    refine lv_icmp_ge (tgt := 78) hx hb (xb_d D_M_count 44 rfl) rfl (fun hc4 => ?_) (fun hc4 => ?_)
    · have hw := hw.1 hc4
      refine lv_iinc (v := (x3 + 1)) (k := 2) hx hb (xb_d D_M_count 47 rfl) hl rfl (by first | rfl | decide) (by decide) rfl (fun ls hl => ?_)
      have hl : lv_has ls 5 [(3, .int (x3 + 1)), (1, .long v3), (0, .ref x0), (4, .int x4)] := hl
      refine lv_goto (tgt := 4) hx hb (xb_d D_M_count 48 rfl) rfl ?_
      exact hK4 x0 v3 (x3 + 1) h hw p e s m args below meth c hC H locs ls k n hE (lv_sub hl [2, 1, 0] rfl) hR hS (by omega) (by omega)
    · have hw := hw.2 hc4
      refine lv_lload_n hx hb (xb_d D_M_count 45 rfl) rfl (lv_at hl 0 rfl) ?_
      exact xb_lret hx hb hr hlocks (show k ≤ MC by omega) (show n ≤ MS by omega) hE hR hS (xb_d D_M_count 46 rfl) hw
  · have hw := hw.2 hc2
    refine lv_lconst (v := 0) hx hb (xb_d D_M_count 29 rfl) (by decide) ?_
    exact xb_lret hx hb hr hlocks (show k ≤ MC by omega) (show n ≤ MS by omega) hE hR hS (xb_d D_M_count 30 rfl) hw

set_option maxHeartbeats 4000000 in
set_option maxRecDepth 100000 in
theorem am_M_count_L4 (l : Launch) (hfl : l.flags = pinnedFlags ++ [noTraceFlag]) (D : va_G) (A : Nat → Prop) (σ MC MS : Nat) (h0 : xb_H) (Qr : Int64 → xb_H → Prop) (n9 : Nat) : ∀ (x0 : Nat) (x1 : Int64) (x3 : Int32) (h : xb_H), w_M_count_L4 Qr n9 x0 x1 x3 h → xb_am l D A σ 4 MC MS h0 (fun v h => ∃ r, v = some (.long r) ∧ Qr r h) (fun _ _ => False) y_M_count.cls y_M_count.name b_M_count 5 ([] : List ExceptionTableEntry) (some .long) 4 [(0, .ref x0), (1, .long x1), (3, .int x3)] [] h 0 0 := by
  induction n9 with
  | zero => intro x0 x1 x3 h hw; exact False.elim hw
  | succ n9 ih =>
    intro x0 x1 x3 h hw
    unfold w_M_count_L4 at hw
    intro p e s m args below meth c hC H locs ls k n hE hl hR hS hk hn
    obtain ⟨hx, hb, hown, hlocks, htab, hml, hr, hB, hA, hnm⟩ := id hC
    have hts := hB.1.1.at args
    refine lv_iload_n hx hb (xb_d D_M_count 4 rfl) rfl (lv_at hl 2 rfl) ?_
    refine lv_iconst (v := 5) hx hb (xb_d D_M_count 5 rfl) (by decide) ?_
    refine lv_icmp_ge (tgt := 84) hx hb (xb_d D_M_count 6 rfl) rfl (fun hc1 => ?_) (fun hc1 => ?_)
    · have hw := hw.1 hc1
      refine lv_lload_n hx hb (xb_d D_M_count 49 rfl) rfl (lv_at hl 1 rfl) ?_
      exact xb_lret hx hb hr hlocks (show k ≤ MC by omega) (show n ≤ MS by omega) hE hR hS (xb_d D_M_count 50 rfl) hw
    · have hw := hw.2 hc1
      refine lv_aload_n hx hb (xb_d D_M_count 7 rfl) rfl (lv_at hl 0 rfl) ?_
      obtain ⟨hk2, hw⟩ := hw
      refine xb_call (D := D) (A := A) (σ := σ) (h := h) (d := 3) (mc := 0) (ms := 0) (maxL := 2) (rest := []) (av := [.ref x0]) (fun T hT X => by obtain ⟨cb, r1, r2, r3⟩ := xb_recv (ci := 8) hR rfl hk2 (by decide); exact xt_invV X hx hown (hts _ m_0e978570) (hts _ m_40099f98) (hts _ m_a7dbfd07) (xt_sigOf (hts _ m_0af1ec6a)) nm_M_next (by rw [hT]; exact r1) r2 r3 (g := F0 m 10 ls [.ref x0]) rfl (argsL := []) (rest := []) rfl rfl (by rw [hb]; exact (xb_d D_M_count 8 rfl))) (ok_M_next l hfl D A σ x0 h _ hw) (hml.trans hl.1.symm) (by rw [hb]; exact (xb_d D_M_count 8 rfl)) (Nat.le_of_ble_eq_true rfl) (Nat.le_of_ble_eq_true rfl) (Nat.le_of_ble_eq_true rfl) (show k + 0 ≤ MC by omega) (show n + 0 ≤ MS by omega) (xt_w1 hB.1 m_0af1ec6a) (xt_cdOf hB.1 m_0af1ec6a) (hts _ m_d5ed7bed) hB hR hS hA (fun vv h3 H locs hq hEh3 hR hS => ?_) (fun XX ax h3 H locs hq hEh3 hex hR hS => ?_)
      · obtain ⟨r4, rfl, hw⟩ := hq
        have hw := hw hEh3
        have hE := hE.tr hEh3
        refine W.eq (g2 := F0 m 13 ls [.int r4]) rfl ?_
        refine lv_istore hx hb (xb_d D_M_count 9 rfl) hl (by decide) rfl (fun ls hl => ?_)
        have hl : lv_has ls 5 [(4, .int r4), (0, .ref x0), (1, .long x1), (3, .int x3)] := hl
        refine lv_aload_n hx hb (xb_d D_M_count 10 rfl) rfl (lv_at hl 1 rfl) ?_
        have hk2 : xb_k h3 x0 = 9 := hEh3.k hk2
        refine xb_getI (C := R_M) (T := F_M) (N := 97) hx hb 8 17 hts fin_M hown hR hk2 (by decide) rfl (by decide) rfl (hts _ m_ff69da61) (fun _ h9 => h9) (xb_d D_M_count 11 rfl) ?_
        refine lv_if_ne (tgt := 45) hx hb (xb_d D_M_count 12 rfl) rfl (fun hc5 => ?_) (fun hc5 => ?_)
        · have hw := hw.1 hc5
          exact am_M_count_L45 l hfl D A σ MC MS h0 Qr (w_M_count_L4 Qr n9) ih x0 x1 x3 r4 h3 hw p e s m args below meth c hC H locs ls k n hE (lv_sub hl [1, 2, 3, 0] rfl) hR hS (by omega) (by omega)
        · have hw := hw.2 hc5
          refine lv_iload_n hx hb (xb_d D_M_count 13 rfl) rfl (lv_at hl 3 rfl) ?_
          refine lv_iconst (v := 4) hx hb (xb_d D_M_count 14 rfl) (by decide) ?_
          refine lv_icmp_ne (tgt := 45) hx hb (xb_d D_M_count 15 rfl) rfl (fun hc6 => ?_) (fun hc6 => ?_)
          · have hw := hw.1 hc6
            exact am_M_count_L45 l hfl D A σ MC MS h0 Qr (w_M_count_L4 Qr n9) ih x0 x1 x3 r4 h3 hw p e s m args below meth c hC H locs ls k n hE (lv_sub hl [1, 2, 3, 0] rfl) hR hS (by omega) (by omega)
          · have hw := hw.2 hc6
            refine lv_iload hx hb (xb_d D_M_count 16 rfl) (lv_at hl 0 rfl) ?_
            refine lv_bipush (v := 15) hx hb (xb_d D_M_count 17 rfl) (by decide) ?_
            refine lv_icmp_le (tgt := 45) hx hb (xb_d D_M_count 18 rfl) rfl (fun hc7 => ?_) (fun hc7 => ?_)
            · have hw := hw.1 hc7
              exact am_M_count_L45 l hfl D A σ MC MS h0 Qr (w_M_count_L4 Qr n9) ih x0 x1 x3 r4 h3 hw p e s m args below meth c hC H locs ls k n hE (lv_sub hl [1, 2, 3, 0] rfl) hR hS (by omega) (by omega)
            · have hw := hw.2 hc7
              refine lv_aload_n hx hb (xb_d D_M_count 19 rfl) rfl (lv_at hl 1 rfl) ?_
              refine lv_iconst (v := 3) hx hb (xb_d D_M_count 20 rfl) (by decide) ?_
              refine lv_aload_n hx hb (xb_d D_M_count 21 rfl) rfl (lv_at hl 1 rfl) ?_
              refine xb_getI (C := R_M) (T := F_M) (N := 97) hx hb 8 15 hts fin_M hown hR hk2 (by decide) rfl (by decide) rfl (hts _ m_6c2d27ad) (fun _ h9 => h9) (xb_d D_M_count 22 rfl) ?_
              refine lv_iconst (v := 1) hx hb (xb_d D_M_count 23 rfl) (by decide) ?_
              refine lv_isub hx hb (xb_d D_M_count 24 rfl) ?_
              refine xb_call (D := D) (A := A) (σ := σ) (h := h3) (d := 2) (mc := 0) (ms := 0) (maxL := 3) (rest := []) (av := [.ref x0, .int 3, .int ((xb_i h3 x0 15) - 1)]) (fun T hT X => by obtain ⟨cb, r1, r2, r3⟩ := xb_recv (ci := 8) hR rfl hk2 (by decide); exact xt_invV X hx hown (hts _ m_939052ad) (hts _ m_29cc8c73) (hts _ m_3b1ac7ab) (xt_sigOf (hts _ m_8f062ecd)) nm_M_fail (by rw [hT]; exact r1) r2 r3 (g := F0 m 42 ls [.int ((xb_i h3 x0 15) - 1), .int 3, .ref x0]) rfl (argsL := [.int 3, .int ((xb_i h3 x0 15) - 1)]) (rest := []) rfl rfl (by rw [hb]; exact (xb_d D_M_count 25 rfl))) (ok_M_fail l hfl D A σ x0 3 ((xb_i h3 x0 15) - 1) h3 _ hw) (hml.trans hl.1.symm) (by rw [hb]; exact (xb_d D_M_count 25 rfl)) (Nat.le_of_ble_eq_true rfl) (Nat.le_of_ble_eq_true rfl) (Nat.le_of_ble_eq_true rfl) (show k + 0 ≤ MC by omega) (show n + 0 ≤ MS by omega) (xt_w1 hB.1 m_8f062ecd) (xt_cdOf hB.1 m_8f062ecd) (hts _ m_d5ed7bed) hB hR hS hA (fun vv h8 H locs hq hEh8 hR hS => ?_) (fun XX ax h8 H locs hq hEh8 hex hR hS => ?_)
              · obtain ⟨rfl, hw⟩ := hq
                have hw := hw hEh8
                have hE := hE.tr hEh8
                refine W.eq (g2 := F0 m 45 ls []) rfl ?_
                exact am_M_count_L45 l hfl D A σ MC MS h0 Qr (w_M_count_L4 Qr n9) ih x0 x1 x3 r4 h8 hw p e s m args below meth c hC H locs ls k n hE (lv_sub hl [1, 2, 3, 0] rfl) hR hS (by omega) (by omega)
              · exact False.elim hq
      · exact False.elim hq

set_option maxHeartbeats 4000000 in
set_option maxRecDepth 100000 in
theorem ok_M_count (l : Launch) (hfl : l.flags = pinnedFlags ++ [noTraceFlag]) (D : va_G) (A : Nat → Prop) (σ : Nat) (x0 : Nat) (h : xb_H) (Qr : Int64 → xb_H → Prop) (hw : w_M_count x0 h Qr) : xt_Met l y_M_count [.code y_M_count b_M_count 5 (some .long)] (xb_rm 4 0 0) (xb_Pc D A σ h [.ref x0]) (xb_Qc D A h (fun v h => ∃ r, v = some (.long r) ∧ Qr r h) (fun _ _ => False)) 0 0 A := by
  refine xb_ofAm (cc := b_M_count) (by decide) (Nat.le_of_ble_eq_true rfl) ?_
  unfold w_M_count at hw
  show xb_am l D A σ 4 0 0 h (fun v h => ∃ r, v = some (.long r) ∧ Qr r h) (fun _ _ => False) y_M_count.cls y_M_count.name b_M_count 5 ([] : List ExceptionTableEntry) (some .long) 0 [(0, .ref x0)] [] h 0 0
  obtain ⟨MC, hMC⟩ : ∃ x, x = 0 := ⟨_, rfl⟩
  obtain ⟨MS, hMS⟩ : ∃ x, x = 0 := ⟨_, rfl⟩
  rw [show xb_am l D A σ 4 0 0 = xb_am l D A σ 4 MC MS by rw [hMC, hMS]]
  obtain ⟨h0, hh0⟩ : ∃ x, x = h := ⟨_, rfl⟩
  rw [show xb_am l D A σ 4 MC MS h = xb_am l D A σ 4 MC MS h0 by rw [hh0]]
  intro p e s m args below meth c hC H locs ls k n hE hl hR hS hk hn
  obtain ⟨hx, hb, hown, hlocks, htab, hml, hr, hB, hA, hnm⟩ := id hC
  have hts := hB.1.1.at args
  refine lv_lconst (v := 0) hx hb (xb_d D_M_count 0 rfl) (by decide) ?_
  refine lv_lstore_n hx hb (xb_d D_M_count 1 rfl) rfl hl (by decide) rfl (fun ls hl => ?_)
  have hl : lv_has ls 5 [(1, .long 0), (0, .ref x0)] := hl
  refine lv_iconst (v := 0) hx hb (xb_d D_M_count 2 rfl) (by decide) ?_
  refine lv_istore_n hx hb (xb_d D_M_count 3 rfl) rfl hl (by decide) rfl (fun ls hl => ?_)
  have hl : lv_has ls 5 [(3, .int 0), (1, .long 0), (0, .ref x0)] := hl
  obtain ⟨n8, hw⟩ := hw
  exact am_M_count_L4 l hfl D A σ MC MS h0 Qr n8 x0 0 0 h hw p e s m args below meth c hC H locs ls k n hE (lv_sub hl [2, 1, 0] rfl) hR hS (by omega) (by omega)

theorem m_3b351fe6 : (.methodLink "StackHostModel" 408 y_M_need : Cond) ∈ xt_tbl := xt_in (xt_t11 (List.mem_of_getElem? (i := 183) (by decide +kernel))) (by decide +kernel)
theorem m_c9ff1909 : (.instanceMethod y_M_need : Cond) ∈ xt_tbl := xt_in (xt_t11 (List.mem_of_getElem? (i := 185) (by decide +kernel))) (by decide +kernel)
theorem m_4d34701a : (.selects "StackHostModel" y_M_need y_M_need : Cond) ∈ xt_tbl := xt_in (xt_v12 (q := (⟨"StackHostModel", "need", "(ZI)V"⟩, 97)) (List.mem_of_getElem? (i := 2) (by decide +kernel))) (by decide +kernel)
theorem m_c5aab6b8 : (.code y_M_need b_M_need 3 none : Cond) ∈ xt_tbl := xt_in (xt_t11 (List.mem_of_getElem? (i := 186) (by decide +kernel))) (by decide +kernel)
theorem nm_M_need : xt_nm y_M_need 2 := ⟨by decide +kernel, by decide +kernel⟩
set_option maxRecDepth 100000 in
def T_M_label : List (Nat × Instr × Nat) := [(0, .aload_n 0, 1), (1, .lload_n 1, 1), (2, .aload_n 0, 1), (3, .getfield 396, 3), (6, .i2l, 1), (7, .lcmp, 1), (8, .ifCond .ge 7, 3), (11, .iconst 1, 1), (12, .goto 4, 3), (15, .iconst 0, 1), (16, .bipush 20, 2), (18, .invokevirtual 408, 3), (21, .aload_n 0, 1), (22, .getfield 193, 3), (25, .ifCond .ne 20, 3), (28, .aload_n 0, 1), (29, .getfield 49, 3), (32, .aload_n 0, 1), (33, .getfield 396, 3), (36, .iconst 1, 1), (37, .isub, 1), (38, .lload_n 1, 1), (39, .l2i, 1), (40, .isub, 1), (41, .iaload, 1), (42, .goto 5, 3), (45, .bipush 64, 2), (47, .ireturn, 1)]
theorem D_M_label : ∀ q ∈ T_M_label, decode b_M_label q.1 = .ok (q.2.1, q.2.2) := by decide +kernel
def w_M_label_L47 (Qr : Int32 → xb_H → Prop) (y0 : Int32) (h : xb_H) : Prop :=
    Qr y0 h

def w_M_label_L16 (Qr : Int32 → xb_H → Prop) (x0 : Nat) (x1 : Int64) (y0 : Int32) (y1 : Nat) (h : xb_H) : Prop :=
    xb_k h y1 = 9 ∧ w_M_need y1 y0 20 h (fun (h2 : xb_H) => xb_ext h h2 → xb_k h2 x0 = 9 ∧ ((¬ (xb_i h2 x0 17) = (0 : Int32) → w_M_label_L47 Qr 64 h2) ∧ ((xb_i h2 x0 17) = (0 : Int32) → ∃ b6 : Nat, (xb_r h2 x0 25) = some b6 ∧ xb_k h2 b6 = 102 ∧ vp_in (((xb_i h2 x0 29) - 1) - (Int64.toInt32 x1)) (xb_n h2 b6) ∧ w_M_label_L47 Qr (xb_i h2 b6 (Int32.toNatClampNeg (((xb_i h2 x0 29) - 1) - (Int64.toInt32 x1)))) h2)))

def w_M_label (x0 : Nat) (x1 : Int64) (h : xb_H) (Qr : Int32 → xb_H → Prop) : Prop :=
    xb_k h x0 = 9 ∧ (((Int32.toInt64 (xb_i h x0 29)) ≤ x1 → w_M_label_L16 Qr x0 x1 0 x0 h) ∧ (¬ (Int32.toInt64 (xb_i h x0 29)) ≤ x1 → w_M_label_L16 Qr x0 x1 1 x0 h))

set_option maxHeartbeats 4000000 in
set_option maxRecDepth 100000 in
theorem am_M_label_L47 (l : Launch) (hfl : l.flags = pinnedFlags ++ [noTraceFlag]) (D : va_G) (A : Nat → Prop) (σ MC MS : Nat) (h0 : xb_H) (Qr : Int32 → xb_H → Prop) (y0 : Int32) (h : xb_H) (hw : w_M_label_L47 Qr y0 h) : xb_am l D A σ 4 MC MS h0 (fun v h => ∃ r, v = some (.int r) ∧ Qr r h) (fun _ _ => False) y_M_label.cls y_M_label.name b_M_label 3 ([] : List ExceptionTableEntry) (some .int) 47 [] [.int y0] h 0 0 := by
  unfold w_M_label_L47 at hw
  intro p e s m args below meth c hC H locs ls k n hE hl hR hS hk hn
  obtain ⟨hx, hb, hown, hlocks, htab, hml, hr, hB, hA, hnm⟩ := id hC
  have hts := hB.1.1.at args
  exact xb_iret hx hb hr hlocks (show k ≤ MC by omega) (show n ≤ MS by omega) hE hR hS (xb_d D_M_label 27 rfl) hw

set_option maxHeartbeats 4000000 in
set_option maxRecDepth 100000 in
theorem am_M_label_L16 (l : Launch) (hfl : l.flags = pinnedFlags ++ [noTraceFlag]) (D : va_G) (A : Nat → Prop) (σ MC MS : Nat) (h0 : xb_H) (Qr : Int32 → xb_H → Prop) (x0 : Nat) (x1 : Int64) (y0 : Int32) (y1 : Nat) (h : xb_H) (hw : w_M_label_L16 Qr x0 x1 y0 y1 h) : xb_am l D A σ 4 MC MS h0 (fun v h => ∃ r, v = some (.int r) ∧ Qr r h) (fun _ _ => False) y_M_label.cls y_M_label.name b_M_label 3 ([] : List ExceptionTableEntry) (some .int) 16 [(0, .ref x0), (1, .long x1)] [.int y0, .ref y1] h 0 0 := by
  unfold w_M_label_L16 at hw
  intro p e s m args below meth c hC H locs ls k n hE hl hR hS hk hn
  obtain ⟨hx, hb, hown, hlocks, htab, hml, hr, hB, hA, hnm⟩ := id hC
  have hts := hB.1.1.at args
  refine lv_bipush (v := 20) hx hb (xb_d D_M_label 10 rfl) (by decide) ?_
  obtain ⟨hk1, hw⟩ := hw
  refine xb_call (D := D) (A := A) (σ := σ) (h := h) (d := 3) (mc := 0) (ms := 0) (maxL := 3) (rest := []) (av := [.ref y1, .int y0, .int 20]) (fun T hT X => by obtain ⟨cb, r1, r2, r3⟩ := xb_recv (ci := 8) hR rfl hk1 (by decide); exact xt_invV X hx hown (hts _ m_3b351fe6) (hts _ m_c9ff1909) (hts _ m_4d34701a) (xt_sigOf (hts _ m_c5aab6b8)) nm_M_need (by rw [hT]; exact r1) r2 r3 (g := F0 m 18 ls [.int 20, .int y0, .ref y1]) rfl (argsL := [.int y0, .int 20]) (rest := []) rfl rfl (by rw [hb]; exact (xb_d D_M_label 11 rfl))) (ok_M_need l hfl D A σ y1 y0 20 h _ hw) (hml.trans hl.1.symm) (by rw [hb]; exact (xb_d D_M_label 11 rfl)) (Nat.le_of_ble_eq_true rfl) (Nat.le_of_ble_eq_true rfl) (Nat.le_of_ble_eq_true rfl) (show k + 0 ≤ MC by omega) (show n + 0 ≤ MS by omega) (xt_w1 hB.1 m_c5aab6b8) (xt_cdOf hB.1 m_c5aab6b8) (hts _ m_d5ed7bed) hB hR hS hA (fun vv h2 H locs hq hEh2 hR hS => ?_) (fun XX ax h2 H locs hq hEh2 hex hR hS => ?_)
  · obtain ⟨rfl, hw⟩ := hq
    have hw := hw hEh2
    have hE := hE.tr hEh2
    refine W.eq (g2 := F0 m 21 ls []) rfl ?_
    refine lv_aload_n hx hb (xb_d D_M_label 12 rfl) rfl (lv_at hl 0 rfl) ?_
    obtain ⟨hk4, hw⟩ := hw
    refine xb_getI (C := R_M) (T := F_M) (N := 97) hx hb 8 17 hts fin_M hown hR hk4 (by decide) rfl (by decide) rfl (hts _ m_ff69da61) (fun _ h9 => h9) (xb_d D_M_label 13 rfl) ?_
    refine lv_if_ne (tgt := 45) hx hb (xb_d D_M_label 14 rfl) rfl (fun hc5 => ?_) (fun hc5 => ?_)
    · have hw := hw.1 hc5
      refine lv_bipush (v := 64) hx hb (xb_d D_M_label 26 rfl) (by decide) ?_
      exact am_M_label_L47 l hfl D A σ MC MS h0 Qr 64 h2 hw p e s m args below meth c hC H locs ls k n hE (lv_sub hl [] rfl) hR hS (by omega) (by omega)
    · have hw := hw.2 hc5
      refine lv_aload_n hx hb (xb_d D_M_label 15 rfl) rfl (lv_at hl 0 rfl) ?_
      refine xb_getP (C := R_M) (T := F_M) (N := 97) hx hb 8 25 hts fin_M hown hR hk4 (by decide) rfl (by decide) rfl (hts _ m_9d087e33) (fun _ h9 => h9) (xb_d D_M_label 16 rfl) ?_
      obtain ⟨b6, eb6, hw⟩ := hw
      refine xb_some eb6 ?_
      refine lv_aload_n hx hb (xb_d D_M_label 17 rfl) rfl (lv_at hl 0 rfl) ?_
      refine xb_getI (C := R_M) (T := F_M) (N := 97) hx hb 8 29 hts fin_M hown hR hk4 (by decide) rfl (by decide) rfl (hts _ m_1024c20b) (fun _ h9 => h9) (xb_d D_M_label 18 rfl) ?_
      refine lv_iconst (v := 1) hx hb (xb_d D_M_label 19 rfl) (by decide) ?_
      refine lv_isub hx hb (xb_d D_M_label 20 rfl) ?_
      refine lv_lload_n hx hb (xb_d D_M_label 21 rfl) rfl (lv_at hl 1 rfl) ?_
      refine lv_l2i hx hb (xb_d D_M_label 22 rfl) rfl ?_
      refine lv_isub hx hb (xb_d D_M_label 23 rfl) ?_
      obtain ⟨hk8, hw⟩ := hw
      obtain ⟨hi7, hw⟩ := hw
      refine xb_iald hx hb hR hk8 hi7 (xb_d D_M_label 24 rfl) ?_
      refine lv_goto (tgt := 47) hx hb (xb_d D_M_label 25 rfl) rfl ?_
      exact am_M_label_L47 l hfl D A σ MC MS h0 Qr (xb_i h2 b6 (Int32.toNatClampNeg (((xb_i h2 x0 29) - 1) - (Int64.toInt32 x1)))) h2 hw p e s m args below meth c hC H locs ls k n hE (lv_sub hl [] rfl) hR hS (by omega) (by omega)
  · exact False.elim hq

set_option maxHeartbeats 4000000 in
set_option maxRecDepth 100000 in
theorem ok_M_label (l : Launch) (hfl : l.flags = pinnedFlags ++ [noTraceFlag]) (D : va_G) (A : Nat → Prop) (σ : Nat) (x0 : Nat) (x1 : Int64) (h : xb_H) (Qr : Int32 → xb_H → Prop) (hw : w_M_label x0 x1 h Qr) : xt_Met l y_M_label [.code y_M_label b_M_label 3 (some .int)] (xb_rm 4 0 0) (xb_Pc D A σ h [.ref x0, .long x1]) (xb_Qc D A h (fun v h => ∃ r, v = some (.int r) ∧ Qr r h) (fun _ _ => False)) 0 0 A := by
  refine xb_ofAm (cc := b_M_label) (by decide) (Nat.le_of_ble_eq_true rfl) ?_
  unfold w_M_label at hw
  show xb_am l D A σ 4 0 0 h (fun v h => ∃ r, v = some (.int r) ∧ Qr r h) (fun _ _ => False) y_M_label.cls y_M_label.name b_M_label 3 ([] : List ExceptionTableEntry) (some .int) 0 [(0, .ref x0), (1, .long x1)] [] h 0 0
  obtain ⟨MC, hMC⟩ : ∃ x, x = 0 := ⟨_, rfl⟩
  obtain ⟨MS, hMS⟩ : ∃ x, x = 0 := ⟨_, rfl⟩
  rw [show xb_am l D A σ 4 0 0 = xb_am l D A σ 4 MC MS by rw [hMC, hMS]]
  obtain ⟨h0, hh0⟩ : ∃ x, x = h := ⟨_, rfl⟩
  rw [show xb_am l D A σ 4 MC MS h = xb_am l D A σ 4 MC MS h0 by rw [hh0]]
  intro p e s m args below meth c hC H locs ls k n hE hl hR hS hk hn
  obtain ⟨hx, hb, hown, hlocks, htab, hml, hr, hB, hA, hnm⟩ := id hC
  have hts := hB.1.1.at args
  refine lv_aload_n hx hb (xb_d D_M_label 0 rfl) rfl (lv_at hl 0 rfl) ?_
  refine lv_lload_n hx hb (xb_d D_M_label 1 rfl) rfl (lv_at hl 1 rfl) ?_
  refine lv_aload_n hx hb (xb_d D_M_label 2 rfl) rfl (lv_at hl 0 rfl) ?_
  obtain ⟨hk1, hw⟩ := hw
  refine xb_getI (C := R_M) (T := F_M) (N := 97) hx hb 8 29 hts fin_M hown hR hk1 (by decide) rfl (by decide) rfl (hts _ m_1024c20b) (fun _ h9 => h9) (xb_d D_M_label 3 rfl) ?_
  refine lv_i2l hx hb (xb_d D_M_label 4 rfl) rfl ?_
  refine xb_lc_ge (tgt := 15) hx hb (xb_d D_M_label 5 rfl) (xb_d D_M_label 6 rfl) rfl (fun hc2 => ?_) (fun hc2 => ?_)
  · have hw := hw.1 hc2
    refine lv_iconst (v := 0) hx hb (xb_d D_M_label 9 rfl) (by decide) ?_
    exact am_M_label_L16 l hfl D A σ MC MS h0 Qr x0 x1 0 x0 h hw p e s m args below meth c hC H locs ls k n hE (lv_sub hl [0, 1] rfl) hR hS (by omega) (by omega)
  · have hw := hw.2 hc2
    refine lv_iconst (v := 1) hx hb (xb_d D_M_label 7 rfl) (by decide) ?_
    refine lv_goto (tgt := 16) hx hb (xb_d D_M_label 8 rfl) rfl ?_
    exact am_M_label_L16 l hfl D A σ MC MS h0 Qr x0 x1 1 x0 h hw p e s m args below meth c hC H locs ls k n hE (lv_sub hl [0, 1] rfl) hR hS (by omega) (by omega)

theorem m_940fb65e : (.methodLink "StackHostModel" 362 y_M_total : Cond) ∈ xt_tbl := xt_in (xt_t11 (List.mem_of_getElem? (i := 117) (by decide +kernel))) (by decide +kernel)
theorem m_342c0f16 : (.instanceMethod y_M_total : Cond) ∈ xt_tbl := xt_in (xt_t11 (List.mem_of_getElem? (i := 119) (by decide +kernel))) (by decide +kernel)
theorem m_c0324d76 : (.selects "StackHostModel" y_M_total y_M_total : Cond) ∈ xt_tbl := xt_in (xt_v11 (q := (⟨"StackHostModel", "total", "(II)J"⟩, 97)) (List.mem_of_getElem? (i := 5) (by decide +kernel))) (by decide +kernel)
theorem m_feaaa075 : (.code y_M_total b_M_total 3 (some .long) : Cond) ∈ xt_tbl := xt_in (xt_t11 (List.mem_of_getElem? (i := 120) (by decide +kernel))) (by decide +kernel)
theorem nm_M_total : xt_nm y_M_total 2 := ⟨by decide +kernel, by decide +kernel⟩
set_option maxRecDepth 100000 in
def T_M_module : List (Nat × Instr × Nat) := [(0, .aload_n 0, 1), (1, .aload_n 0, 1), (2, .iload_n 1, 1), (3, .invokevirtual 473, 3), (6, .ifCond .eq 17, 3), (9, .iload_n 2, 1), (10, .ifCond .lt 13, 3), (13, .iload_n 2, 1), (14, .bipush 9, 2), (16, .if_icmp .ge 7, 3), (19, .iconst 0, 1), (20, .goto 4, 3), (23, .iconst 1, 1), (24, .putfield 189, 3), (27, .aload_n 0, 1), (28, .getfield 189, 3), (31, .ifCond .le 5, 3), (34, .iconst 0, 1), (35, .ireturn, 1), (36, .iload_n 2, 1), (37, .iconst 2, 1), (38, .if_icmp .lt 18, 3), (41, .iload_n 2, 1), (42, .iconst 5, 1), (43, .if_icmp .gt 13, 3), (46, .aload_n 0, 1), (47, .iload_n 1, 1), (48, .iload_n 2, 1), (49, .iconst 2, 1), (50, .isub, 1), (51, .invokevirtual 362, 3), (54, .l2i, 1), (55, .ireturn, 1), (56, .aload_n 0, 1), (57, .iload_n 1, 1), (58, .iload_n 2, 1), (59, .iconst 2, 1), (60, .if_icmp .ge 9, 3), (63, .iload_n 2, 1), (64, .iconst 1, 1), (65, .iadd, 1), (66, .goto 27, 3), (69, .iload_n 2, 1), (70, .bipush 6, 2), (72, .if_icmp .ne 8, 3), (75, .bipush 7, 2), (77, .goto 16, 3), (80, .iload_n 2, 1), (81, .bipush 7, 2), (83, .if_icmp .ne 8, 3), (86, .bipush 9, 2), (88, .goto 5, 3), (91, .bipush 11, 2), (93, .invokevirtual 316, 3), (96, .ireturn, 1)]
theorem D_M_module : ∀ q ∈ T_M_module, decode b_M_module q.1 = .ok (q.2.1, q.2.2) := by decide +kernel
def w_M_module_L93 (Qr : Int32 → xb_H → Prop) (y0 : Int32) (y1 : Int32) (y2 : Nat) (h : xb_H) : Prop :=
    xb_k h y2 = 9 ∧ w_M_manyOf y2 y1 y0 h (fun (r3 : Int32) (h2 : xb_H) => xb_ext h h2 → Qr r3 h2)

def w_M_module_L56 (Qr : Int32 → xb_H → Prop) (x0 : Nat) (x1 : Int32) (x2 : Int32) (h : xb_H) : Prop :=
    (((2 : Int32) ≤ x2 → ((¬ x2 = (6 : Int32) → ((¬ x2 = (7 : Int32) → w_M_module_L93 Qr 11 x1 x0 h) ∧ (x2 = (7 : Int32) → w_M_module_L93 Qr 9 x1 x0 h))) ∧ (x2 = (6 : Int32) → w_M_module_L93 Qr 7 x1 x0 h))) ∧ (¬ (2 : Int32) ≤ x2 → w_M_module_L93 Qr (x2 + 1) x1 x0 h))

def w_M_module_L24 (Qr : Int32 → xb_H → Prop) (x0 : Nat) (x1 : Int32) (x2 : Int32) (y0 : Int32) (y1 : Nat) (h : xb_H) : Prop :=
    xb_k h y1 = 9 ∧ ∀ h2 : xb_H, h2 = xb_I h y1 0 y0 → xb_k h2 x0 = 9 ∧ (((xb_i h2 x0 0) ≤ (0 : Int32) → ((x2 < (2 : Int32) → w_M_module_L56 Qr x0 x1 x2 h2) ∧ (¬ x2 < (2 : Int32) → (((5 : Int32) < x2 → w_M_module_L56 Qr x0 x1 x2 h2) ∧ (¬ (5 : Int32) < x2 → w_M_total x0 x1 (x2 - 2) h2 (fun (r8 : Int64) (h7 : xb_H) => xb_ext h2 h7 → Qr (Int64.toInt32 r8) h7)))))) ∧ (¬ (xb_i h2 x0 0) ≤ (0 : Int32) → Qr 0 h2))

def w_M_module_L23 (Qr : Int32 → xb_H → Prop) (x0 : Nat) (x1 : Int32) (x2 : Int32) (y0 : Nat) (h : xb_H) : Prop :=
    w_M_module_L24 Qr x0 x1 x2 1 y0 h

def w_M_module (x0 : Nat) (x1 : Int32) (x2 : Int32) (h : xb_H) (Qr : Int32 → xb_H → Prop) : Prop :=
    xb_k h x0 = 9 ∧ w_M_isModule x0 x1 h (fun (r3 : Int32) (h2 : xb_H) => xb_ext h h2 → ((r3 = (0 : Int32) → w_M_module_L23 Qr x0 x1 x2 x0 h2) ∧ (¬ r3 = (0 : Int32) → ((x2 < (0 : Int32) → w_M_module_L23 Qr x0 x1 x2 x0 h2) ∧ (¬ x2 < (0 : Int32) → (((9 : Int32) ≤ x2 → w_M_module_L23 Qr x0 x1 x2 x0 h2) ∧ (¬ (9 : Int32) ≤ x2 → w_M_module_L24 Qr x0 x1 x2 0 x0 h2)))))))

set_option maxHeartbeats 4000000 in
set_option maxRecDepth 100000 in
theorem am_M_module_L93 (l : Launch) (hfl : l.flags = pinnedFlags ++ [noTraceFlag]) (D : va_G) (A : Nat → Prop) (σ MC MS : Nat) (h0 : xb_H) (Qr : Int32 → xb_H → Prop) (y0 : Int32) (y1 : Int32) (y2 : Nat) (h : xb_H) (hw : w_M_module_L93 Qr y0 y1 y2 h) : xb_am l D A σ 4 MC MS h0 (fun v h => ∃ r, v = some (.int r) ∧ Qr r h) (fun _ _ => False) y_M_module.cls y_M_module.name b_M_module 3 ([] : List ExceptionTableEntry) (some .int) 93 [] [.int y0, .int y1, .ref y2] h 0 0 := by
  unfold w_M_module_L93 at hw
  intro p e s m args below meth c hC H locs ls k n hE hl hR hS hk hn
  obtain ⟨hx, hb, hown, hlocks, htab, hml, hr, hB, hA, hnm⟩ := id hC
  have hts := hB.1.1.at args
  obtain ⟨hk1, hw⟩ := hw
  refine xb_call (D := D) (A := A) (σ := σ) (h := h) (d := 2) (mc := 0) (ms := 0) (maxL := 3) (rest := []) (av := [.ref y2, .int y1, .int y0]) (fun T hT X => by obtain ⟨cb, r1, r2, r3⟩ := xb_recv (ci := 8) hR rfl hk1 (by decide); exact xt_invV X hx hown (hts _ m_b47f62c2) (hts _ m_9f071faf) (hts _ m_e1bb5c84) (xt_sigOf (hts _ m_3a6212d6)) nm_M_manyOf (by rw [hT]; exact r1) r2 r3 (g := F0 m 93 ls [.int y0, .int y1, .ref y2]) rfl (argsL := [.int y1, .int y0]) (rest := []) rfl rfl (by rw [hb]; exact (xb_d D_M_module 53 rfl))) (ok_M_manyOf l hfl D A σ y2 y1 y0 h _ hw) (hml.trans hl.1.symm) (by rw [hb]; exact (xb_d D_M_module 53 rfl)) (Nat.le_of_ble_eq_true rfl) (Nat.le_of_ble_eq_true rfl) (Nat.le_of_ble_eq_true rfl) (show k + 0 ≤ MC by omega) (show n + 0 ≤ MS by omega) (xt_w1 hB.1 m_3a6212d6) (xt_cdOf hB.1 m_3a6212d6) (hts _ m_d5ed7bed) hB hR hS hA (fun vv h2 H locs hq hEh2 hR hS => ?_) (fun XX ax h2 H locs hq hEh2 hex hR hS => ?_)
  · obtain ⟨r3, rfl, hw⟩ := hq
    have hw := hw hEh2
    have hE := hE.tr hEh2
    refine W.eq (g2 := F0 m 96 ls [.int r3]) rfl ?_
    exact xb_iret hx hb hr hlocks (show k ≤ MC by omega) (show n ≤ MS by omega) hE hR hS (xb_d D_M_module 54 rfl) hw
  · exact False.elim hq

set_option maxHeartbeats 4000000 in
set_option maxRecDepth 100000 in
theorem am_M_module_L56 (l : Launch) (hfl : l.flags = pinnedFlags ++ [noTraceFlag]) (D : va_G) (A : Nat → Prop) (σ MC MS : Nat) (h0 : xb_H) (Qr : Int32 → xb_H → Prop) (x0 : Nat) (x1 : Int32) (x2 : Int32) (h : xb_H) (hw : w_M_module_L56 Qr x0 x1 x2 h) : xb_am l D A σ 4 MC MS h0 (fun v h => ∃ r, v = some (.int r) ∧ Qr r h) (fun _ _ => False) y_M_module.cls y_M_module.name b_M_module 3 ([] : List ExceptionTableEntry) (some .int) 56 [(0, .ref x0), (1, .int x1), (2, .int x2)] [] h 0 0 := by
  unfold w_M_module_L56 at hw
  intro p e s m args below meth c hC H locs ls k n hE hl hR hS hk hn
  obtain ⟨hx, hb, hown, hlocks, htab, hml, hr, hB, hA, hnm⟩ := id hC
  have hts := hB.1.1.at args
  refine lv_aload_n hx hb (xb_d D_M_module 33 rfl) rfl (lv_at hl 0 rfl) ?_
  refine lv_iload_n hx hb (xb_d D_M_module 34 rfl) rfl (lv_at hl 1 rfl) ?_
  refine lv_iload_n hx hb (xb_d D_M_module 35 rfl) rfl (lv_at hl 2 rfl) ?_
  refine lv_iconst (v := 2) hx hb (xb_d D_M_module 36 rfl) (by decide) ?_
  refine lv_icmp_ge (tgt := 69) hx hb (xb_d D_M_module 37 rfl) rfl (fun hc1 => ?_) (fun hc1 => ?_)
  · have hw := hw.1 hc1
    refine lv_iload_n hx hb (xb_d D_M_module 42 rfl) rfl (lv_at hl 2 rfl) ?_
    refine lv_bipush (v := 6) hx hb (xb_d D_M_module 43 rfl) (by decide) ?_
    refine lv_icmp_ne (tgt := 80) hx hb (xb_d D_M_module 44 rfl) rfl (fun hc2 => ?_) (fun hc2 => ?_)
    · have hw := hw.1 hc2
      refine lv_iload_n hx hb (xb_d D_M_module 47 rfl) rfl (lv_at hl 2 rfl) ?_
      refine lv_bipush (v := 7) hx hb (xb_d D_M_module 48 rfl) (by decide) ?_
      refine lv_icmp_ne (tgt := 91) hx hb (xb_d D_M_module 49 rfl) rfl (fun hc3 => ?_) (fun hc3 => ?_)
      · have hw := hw.1 hc3
        refine lv_bipush (v := 11) hx hb (xb_d D_M_module 52 rfl) (by decide) ?_
        exact am_M_module_L93 l hfl D A σ MC MS h0 Qr 11 x1 x0 h hw p e s m args below meth c hC H locs ls k n hE (lv_sub hl [] rfl) hR hS (by omega) (by omega)
      · have hw := hw.2 hc3
        refine lv_bipush (v := 9) hx hb (xb_d D_M_module 50 rfl) (by decide) ?_
        refine lv_goto (tgt := 93) hx hb (xb_d D_M_module 51 rfl) rfl ?_
        exact am_M_module_L93 l hfl D A σ MC MS h0 Qr 9 x1 x0 h hw p e s m args below meth c hC H locs ls k n hE (lv_sub hl [] rfl) hR hS (by omega) (by omega)
    · have hw := hw.2 hc2
      refine lv_bipush (v := 7) hx hb (xb_d D_M_module 45 rfl) (by decide) ?_
      refine lv_goto (tgt := 93) hx hb (xb_d D_M_module 46 rfl) rfl ?_
      exact am_M_module_L93 l hfl D A σ MC MS h0 Qr 7 x1 x0 h hw p e s m args below meth c hC H locs ls k n hE (lv_sub hl [] rfl) hR hS (by omega) (by omega)
  · have hw := hw.2 hc1
    refine lv_iload_n hx hb (xb_d D_M_module 38 rfl) rfl (lv_at hl 2 rfl) ?_
    refine lv_iconst (v := 1) hx hb (xb_d D_M_module 39 rfl) (by decide) ?_
    refine lv_iadd hx hb (xb_d D_M_module 40 rfl) ?_
    refine lv_goto (tgt := 93) hx hb (xb_d D_M_module 41 rfl) rfl ?_
    exact am_M_module_L93 l hfl D A σ MC MS h0 Qr (x2 + 1) x1 x0 h hw p e s m args below meth c hC H locs ls k n hE (lv_sub hl [] rfl) hR hS (by omega) (by omega)

set_option maxHeartbeats 4000000 in
set_option maxRecDepth 100000 in
theorem am_M_module_L24 (l : Launch) (hfl : l.flags = pinnedFlags ++ [noTraceFlag]) (D : va_G) (A : Nat → Prop) (σ MC MS : Nat) (h0 : xb_H) (Qr : Int32 → xb_H → Prop) (x0 : Nat) (x1 : Int32) (x2 : Int32) (y0 : Int32) (y1 : Nat) (h : xb_H) (hw : w_M_module_L24 Qr x0 x1 x2 y0 y1 h) : xb_am l D A σ 4 MC MS h0 (fun v h => ∃ r, v = some (.int r) ∧ Qr r h) (fun _ _ => False) y_M_module.cls y_M_module.name b_M_module 3 ([] : List ExceptionTableEntry) (some .int) 24 [(0, .ref x0), (1, .int x1), (2, .int x2)] [.int y0, .ref y1] h 0 0 := by
  unfold w_M_module_L24 at hw
  intro p e s m args below meth c hC H locs ls k n hE hl hR hS hk hn
  obtain ⟨hx, hb, hown, hlocks, htab, hml, hr, hB, hA, hnm⟩ := id hC
  have hts := hB.1.1.at args
  obtain ⟨hk1, hw⟩ := hw
  refine xb_putI (C := R_M) (T := F_M) (N := 97) (ty := .int) (x := y0) hx hb 8 0 hts fin_M t_M t_M_ok n_M hown hR hS hk1 (by decide) rfl (by decide) rfl (hts _ m_afabd6a0) (fun _ h9 => h9) rfl (by decide +kernel) rfl rfl (xb_d D_M_module 13 rfl) (fun H locs hR hS => ?_)
  obtain ⟨h2, eh2⟩ : ∃ x : xb_H, x = xb_I h y1 0 y0 := ⟨_, rfl⟩
  rw [← eh2] at hR
  have hw := hw h2 eh2
  have hE : xb_ext h0 h2 := by rw [eh2]; exact hE
  refine lv_aload_n hx hb (xb_d D_M_module 14 rfl) rfl (lv_at hl 0 rfl) ?_
  obtain ⟨hk3, hw⟩ := hw
  refine xb_getI (C := R_M) (T := F_M) (N := 97) hx hb 8 0 hts fin_M hown hR hk3 (by decide) rfl (by decide) rfl (hts _ m_afabd6a0) (fun _ h9 => h9) (xb_d D_M_module 15 rfl) ?_
  refine lv_if_le (tgt := 36) hx hb (xb_d D_M_module 16 rfl) rfl (fun hc4 => ?_) (fun hc4 => ?_)
  · have hw := hw.1 hc4
    refine lv_iload_n hx hb (xb_d D_M_module 19 rfl) rfl (lv_at hl 2 rfl) ?_
    refine lv_iconst (v := 2) hx hb (xb_d D_M_module 20 rfl) (by decide) ?_
    refine lv_icmp_lt (tgt := 56) hx hb (xb_d D_M_module 21 rfl) rfl (fun hc5 => ?_) (fun hc5 => ?_)
    · have hw := hw.1 hc5
      exact am_M_module_L56 l hfl D A σ MC MS h0 Qr x0 x1 x2 h2 hw p e s m args below meth c hC H locs ls k n hE (lv_sub hl [0, 1, 2] rfl) hR hS (by omega) (by omega)
    · have hw := hw.2 hc5
      refine lv_iload_n hx hb (xb_d D_M_module 22 rfl) rfl (lv_at hl 2 rfl) ?_
      refine lv_iconst (v := 5) hx hb (xb_d D_M_module 23 rfl) (by decide) ?_
      refine lv_icmp_gt (tgt := 56) hx hb (xb_d D_M_module 24 rfl) rfl (fun hc6 => ?_) (fun hc6 => ?_)
      · have hw := hw.1 hc6
        exact am_M_module_L56 l hfl D A σ MC MS h0 Qr x0 x1 x2 h2 hw p e s m args below meth c hC H locs ls k n hE (lv_sub hl [0, 1, 2] rfl) hR hS (by omega) (by omega)
      · have hw := hw.2 hc6
        refine lv_aload_n hx hb (xb_d D_M_module 25 rfl) rfl (lv_at hl 0 rfl) ?_
        refine lv_iload_n hx hb (xb_d D_M_module 26 rfl) rfl (lv_at hl 1 rfl) ?_
        refine lv_iload_n hx hb (xb_d D_M_module 27 rfl) rfl (lv_at hl 2 rfl) ?_
        refine lv_iconst (v := 2) hx hb (xb_d D_M_module 28 rfl) (by decide) ?_
        refine lv_isub hx hb (xb_d D_M_module 29 rfl) ?_
        refine xb_call (D := D) (A := A) (σ := σ) (h := h2) (d := 3) (mc := 0) (ms := 0) (maxL := 3) (rest := []) (av := [.ref x0, .int x1, .int (x2 - 2)]) (fun T hT X => by obtain ⟨cb, r1, r2, r3⟩ := xb_recv (ci := 8) hR rfl hk3 (by decide); exact xt_invV X hx hown (hts _ m_940fb65e) (hts _ m_342c0f16) (hts _ m_c0324d76) (xt_sigOf (hts _ m_feaaa075)) nm_M_total (by rw [hT]; exact r1) r2 r3 (g := F0 m 51 ls [.int (x2 - 2), .int x1, .ref x0]) rfl (argsL := [.int x1, .int (x2 - 2)]) (rest := []) rfl rfl (by rw [hb]; exact (xb_d D_M_module 30 rfl))) (ok_M_total l hfl D A σ x0 x1 (x2 - 2) h2 _ hw) (hml.trans hl.1.symm) (by rw [hb]; exact (xb_d D_M_module 30 rfl)) (Nat.le_of_ble_eq_true rfl) (Nat.le_of_ble_eq_true rfl) (Nat.le_of_ble_eq_true rfl) (show k + 0 ≤ MC by omega) (show n + 0 ≤ MS by omega) (xt_w1 hB.1 m_feaaa075) (xt_cdOf hB.1 m_feaaa075) (hts _ m_d5ed7bed) hB hR hS hA (fun vv h7 H locs hq hEh7 hR hS => ?_) (fun XX ax h7 H locs hq hEh7 hex hR hS => ?_)
        · obtain ⟨r8, rfl, hw⟩ := hq
          have hw := hw hEh7
          have hE := hE.tr hEh7
          refine W.eq (g2 := F0 m 54 ls [.long r8]) rfl ?_
          refine lv_l2i hx hb (xb_d D_M_module 31 rfl) rfl ?_
          exact xb_iret hx hb hr hlocks (show k ≤ MC by omega) (show n ≤ MS by omega) hE hR hS (xb_d D_M_module 32 rfl) hw
        · exact False.elim hq
  · have hw := hw.2 hc4
    refine lv_iconst (v := 0) hx hb (xb_d D_M_module 17 rfl) (by decide) ?_
    exact xb_iret hx hb hr hlocks (show k ≤ MC by omega) (show n ≤ MS by omega) hE hR hS (xb_d D_M_module 18 rfl) hw

set_option maxHeartbeats 4000000 in
set_option maxRecDepth 100000 in
theorem am_M_module_L23 (l : Launch) (hfl : l.flags = pinnedFlags ++ [noTraceFlag]) (D : va_G) (A : Nat → Prop) (σ MC MS : Nat) (h0 : xb_H) (Qr : Int32 → xb_H → Prop) (x0 : Nat) (x1 : Int32) (x2 : Int32) (y0 : Nat) (h : xb_H) (hw : w_M_module_L23 Qr x0 x1 x2 y0 h) : xb_am l D A σ 4 MC MS h0 (fun v h => ∃ r, v = some (.int r) ∧ Qr r h) (fun _ _ => False) y_M_module.cls y_M_module.name b_M_module 3 ([] : List ExceptionTableEntry) (some .int) 23 [(0, .ref x0), (1, .int x1), (2, .int x2)] [.ref y0] h 0 0 := by
  unfold w_M_module_L23 at hw
  intro p e s m args below meth c hC H locs ls k n hE hl hR hS hk hn
  obtain ⟨hx, hb, hown, hlocks, htab, hml, hr, hB, hA, hnm⟩ := id hC
  have hts := hB.1.1.at args
  refine lv_iconst (v := 1) hx hb (xb_d D_M_module 12 rfl) (by decide) ?_
  exact am_M_module_L24 l hfl D A σ MC MS h0 Qr x0 x1 x2 1 y0 h hw p e s m args below meth c hC H locs ls k n hE (lv_sub hl [0, 1, 2] rfl) hR hS (by omega) (by omega)

set_option maxHeartbeats 4000000 in
set_option maxRecDepth 100000 in
theorem ok_M_module (l : Launch) (hfl : l.flags = pinnedFlags ++ [noTraceFlag]) (D : va_G) (A : Nat → Prop) (σ : Nat) (x0 : Nat) (x1 : Int32) (x2 : Int32) (h : xb_H) (Qr : Int32 → xb_H → Prop) (hw : w_M_module x0 x1 x2 h Qr) : xt_Met l y_M_module [.code y_M_module b_M_module 3 (some .int)] (xb_rm 4 0 0) (xb_Pc D A σ h [.ref x0, .int x1, .int x2]) (xb_Qc D A h (fun v h => ∃ r, v = some (.int r) ∧ Qr r h) (fun _ _ => False)) 0 0 A := by
  refine xb_ofAm (cc := b_M_module) (by decide) (Nat.le_of_ble_eq_true rfl) ?_
  unfold w_M_module at hw
  show xb_am l D A σ 4 0 0 h (fun v h => ∃ r, v = some (.int r) ∧ Qr r h) (fun _ _ => False) y_M_module.cls y_M_module.name b_M_module 3 ([] : List ExceptionTableEntry) (some .int) 0 [(0, .ref x0), (1, .int x1), (2, .int x2)] [] h 0 0
  obtain ⟨MC, hMC⟩ : ∃ x, x = 0 := ⟨_, rfl⟩
  obtain ⟨MS, hMS⟩ : ∃ x, x = 0 := ⟨_, rfl⟩
  rw [show xb_am l D A σ 4 0 0 = xb_am l D A σ 4 MC MS by rw [hMC, hMS]]
  obtain ⟨h0, hh0⟩ : ∃ x, x = h := ⟨_, rfl⟩
  rw [show xb_am l D A σ 4 MC MS h = xb_am l D A σ 4 MC MS h0 by rw [hh0]]
  intro p e s m args below meth c hC H locs ls k n hE hl hR hS hk hn
  obtain ⟨hx, hb, hown, hlocks, htab, hml, hr, hB, hA, hnm⟩ := id hC
  have hts := hB.1.1.at args
  refine lv_aload_n hx hb (xb_d D_M_module 0 rfl) rfl (lv_at hl 0 rfl) ?_
  refine lv_aload_n hx hb (xb_d D_M_module 1 rfl) rfl (lv_at hl 0 rfl) ?_
  refine lv_iload_n hx hb (xb_d D_M_module 2 rfl) rfl (lv_at hl 1 rfl) ?_
  obtain ⟨hk1, hw⟩ := hw
  refine xb_call (D := D) (A := A) (σ := σ) (h := h) (d := 2) (mc := 0) (ms := 0) (maxL := 2) (rest := [.ref x0]) (av := [.ref x0, .int x1]) (fun T hT X => by obtain ⟨cb, r1, r2, r3⟩ := xb_recv (ci := 8) hR rfl hk1 (by decide); exact xt_invV X hx hown (hts _ m_c611635e) (hts _ m_5d755988) (hts _ m_f51c38a1) (xt_sigOf (hts _ m_012cb97d)) nm_M_isModule (by rw [hT]; exact r1) r2 r3 (g := F0 m 3 ls [.int x1, .ref x0, .ref x0]) rfl (argsL := [.int x1]) (rest := [.ref x0]) rfl rfl (by rw [hb]; exact (xb_d D_M_module 3 rfl))) (ok_M_isModule l hfl D A σ x0 x1 h _ hw) (hml.trans hl.1.symm) (by rw [hb]; exact (xb_d D_M_module 3 rfl)) (Nat.le_of_ble_eq_true rfl) (Nat.le_of_ble_eq_true rfl) (Nat.le_of_ble_eq_true rfl) (show k + 0 ≤ MC by omega) (show n + 0 ≤ MS by omega) (xt_w1 hB.1 m_012cb97d) (xt_cdOf hB.1 m_012cb97d) (hts _ m_d5ed7bed) hB hR hS hA (fun vv h2 H locs hq hEh2 hR hS => ?_) (fun XX ax h2 H locs hq hEh2 hex hR hS => ?_)
  · obtain ⟨r3, rfl, hw⟩ := hq
    have hw := hw hEh2
    have hE := hE.tr hEh2
    refine W.eq (g2 := F0 m 6 ls [.int r3, .ref x0]) rfl ?_
    refine lv_if_eq (tgt := 23) hx hb (xb_d D_M_module 4 rfl) rfl (fun hc4 => ?_) (fun hc4 => ?_)
    · have hw := hw.1 hc4
      exact am_M_module_L23 l hfl D A σ MC MS h0 Qr x0 x1 x2 x0 h2 hw p e s m args below meth c hC H locs ls k n hE (lv_sub hl [0, 1, 2] rfl) hR hS (by omega) (by omega)
    · have hw := hw.2 hc4
      refine lv_iload_n hx hb (xb_d D_M_module 5 rfl) rfl (lv_at hl 2 rfl) ?_
      refine lv_if_lt (tgt := 23) hx hb (xb_d D_M_module 6 rfl) rfl (fun hc5 => ?_) (fun hc5 => ?_)
      · have hw := hw.1 hc5
        exact am_M_module_L23 l hfl D A σ MC MS h0 Qr x0 x1 x2 x0 h2 hw p e s m args below meth c hC H locs ls k n hE (lv_sub hl [0, 1, 2] rfl) hR hS (by omega) (by omega)
      · have hw := hw.2 hc5
        refine lv_iload_n hx hb (xb_d D_M_module 7 rfl) rfl (lv_at hl 2 rfl) ?_
        refine lv_bipush (v := 9) hx hb (xb_d D_M_module 8 rfl) (by decide) ?_
        refine lv_icmp_ge (tgt := 23) hx hb (xb_d D_M_module 9 rfl) rfl (fun hc6 => ?_) (fun hc6 => ?_)
        · have hw := hw.1 hc6
          exact am_M_module_L23 l hfl D A σ MC MS h0 Qr x0 x1 x2 x0 h2 hw p e s m args below meth c hC H locs ls k n hE (lv_sub hl [0, 1, 2] rfl) hR hS (by omega) (by omega)
        · have hw := hw.2 hc6
          refine lv_iconst (v := 0) hx hb (xb_d D_M_module 10 rfl) (by decide) ?_
          refine lv_goto (tgt := 24) hx hb (xb_d D_M_module 11 rfl) rfl ?_
          exact am_M_module_L24 l hfl D A σ MC MS h0 Qr x0 x1 x2 0 x0 h2 hw p e s m args below meth c hC H locs ls k n hE (lv_sub hl [0, 1, 2] rfl) hR hS (by omega) (by omega)
  · exact False.elim hq

theorem m_75691c4a : (.methodLink "StackHostModel" 307 y_M_keepTape : Cond) ∈ xt_tbl := xt_in (xt_t10 (List.mem_of_getElem? (i := 198) (by decide +kernel))) (by decide +kernel)
theorem m_ab8b88b5 : (.instanceMethod y_M_keepTape : Cond) ∈ xt_tbl := xt_in (xt_t10 (List.mem_of_getElem? (i := 200) (by decide +kernel))) (by decide +kernel)
theorem m_465bbb27 : (.selects "StackHostModel" y_M_keepTape y_M_keepTape : Cond) ∈ xt_tbl := xt_in (xt_v9 (q := (⟨"StackHostModel", "keepTape", "()I"⟩, 97)) (List.mem_of_getElem? (i := 0) (by decide +kernel))) (by decide +kernel)
theorem m_0e3942d4 : (.code y_M_keepTape b_M_keepTape 2 (some .int) : Cond) ∈ xt_tbl := xt_in (xt_t10 (List.mem_of_getElem? (i := 201) (by decide +kernel))) (by decide +kernel)
theorem nm_M_keepTape : xt_nm y_M_keepTape 0 := ⟨by decide +kernel, by decide +kernel⟩
set_option maxRecDepth 100000 in
def T_M_name1 : List (Nat × Instr × Nat) := [(0, .aload_n 0, 1), (1, .aload_n 0, 1), (2, .iload_n 1, 1), (3, .invokevirtual 592, 3), (6, .ifCond .eq 7, 3), (9, .iconst 0, 1), (10, .goto 4, 3), (13, .iconst 1, 1), (14, .putfield 189, 3), (17, .aload_n 0, 1), (18, .getfield 189, 3), (21, .ifCond .ne 49, 3), (24, .aload_n 0, 1), (25, .getfield 86, 3), (28, .aload_n 0, 1), (29, .getfield 493, 3), (32, .aload_n 0, 1), (33, .getfield 265, 3), (36, .iastore, 1), (37, .aload_n 0, 1), (38, .getfield 83, 3), (41, .aload_n 0, 1), (42, .getfield 493, 3), (45, .aload_n 0, 1), (46, .invokevirtual 307, 3), (49, .iastore, 1), (50, .aload_n 0, 1), (51, .getfield 89, 3), (54, .aload_n 0, 1), (55, .getfield 493, 3), (58, .iload_n 1, 1), (59, .iastore, 1), (60, .aload_n 0, 1), (61, .dup, 1), (62, .getfield 493, 3), (65, .iconst 1, 1), (66, .iadd, 1), (67, .putfield 493, 3), (70, .return_, 1)]
theorem D_M_name1 : ∀ q ∈ T_M_name1, decode b_M_name1 q.1 = .ok (q.2.1, q.2.2) := by decide +kernel
def w_M_name1_L70 (Qr : xb_H → Prop) (h : xb_H) (bc : Nat) (bs : Nat) : Prop :=
    Qr h

def w_M_name1_L14 (Qr : xb_H → Prop) (x0 : Nat) (x1 : Int32) (y0 : Int32) (y1 : Nat) (h : xb_H) (bc : Nat) (bs : Nat) : Prop :=
    xb_k h y1 = 9 ∧ ∀ h2 : xb_H, h2 = xb_I h y1 0 y0 → xb_k h2 x0 = 9 ∧ ((¬ (xb_i h2 x0 0) = (0 : Int32) → w_M_name1_L70 Qr h2 bc bs) ∧ ((xb_i h2 x0 0) = (0 : Int32) → ∃ b5 : Nat, (xb_r h2 x0 40) = some b5 ∧ xb_k h2 b5 = 102 ∧ vp_in (xb_i h2 x0 42) (xb_n h2 b5) ∧ ∀ h8 : xb_H, h8 = xb_I h2 b5 (Int32.toNatClampNeg (xb_i h2 x0 42)) (xb_i h2 x0 2) → ∃ b9 : Nat, (xb_r h8 x0 39) = some b9 ∧ ∃ c12 sc12 : Nat, c12 ≤ bc ∧ sc12 ≤ bs ∧ w_M_keepTape x0 h8 c12 sc12 (fun (r11 : Int32) (h10 : xb_H) => xb_ext h8 h10 → xb_k h10 b9 = 102 ∧ vp_in (xb_i h8 x0 42) (xb_n h10 b9) ∧ ∀ h15 : xb_H, h15 = xb_I h10 b9 (Int32.toNatClampNeg (xb_i h8 x0 42)) r11 → ∃ b16 : Nat, (xb_r h15 x0 41) = some b16 ∧ xb_k h15 b16 = 102 ∧ vp_in (xb_i h15 x0 42) (xb_n h15 b16) ∧ ∀ h19 : xb_H, h19 = xb_I h15 b16 (Int32.toNatClampNeg (xb_i h15 x0 42)) x1 → ∀ h20 : xb_H, h20 = xb_I h19 x0 42 ((xb_i h19 x0 42) + 1) → w_M_name1_L70 Qr h20 (bc - c12) (bs - sc12))))

def w_M_name1 (x0 : Nat) (x1 : Int32) (h : xb_H) (bc : Nat) (bs : Nat) (Qr : xb_H → Prop) : Prop :=
    xb_k h x0 = 9 ∧ w_M_isInstance x0 x1 h (fun (r3 : Int32) (h2 : xb_H) => xb_ext h h2 → ((r3 = (0 : Int32) → w_M_name1_L14 Qr x0 x1 1 x0 h2 bc bs) ∧ (¬ r3 = (0 : Int32) → w_M_name1_L14 Qr x0 x1 0 x0 h2 bc bs)))

set_option maxHeartbeats 4000000 in
set_option maxRecDepth 100000 in
theorem am_M_name1_L70 (l : Launch) (hfl : l.flags = pinnedFlags ++ [noTraceFlag]) (D : va_G) (A : Nat → Prop) (σ MC MS : Nat) (h0 : xb_H) (Qr : xb_H → Prop) (h : xb_H) (bc : Nat) (bs : Nat) (hw : w_M_name1_L70 Qr h bc bs) : xb_am l D A σ 4 MC MS h0 (fun v h => v = none ∧ Qr h) (fun _ _ => False) y_M_name1.cls y_M_name1.name b_M_name1 2 ([] : List ExceptionTableEntry) none 70 [] [] h bc bs := by
  unfold w_M_name1_L70 at hw
  intro p e s m args below meth c hC H locs ls k n hE hl hR hS hk hn
  obtain ⟨hx, hb, hown, hlocks, htab, hml, hr, hB, hA, hnm⟩ := id hC
  have hts := hB.1.1.at args
  exact xb_vret hx hb hr hlocks (show k ≤ MC by omega) (show n ≤ MS by omega) hE hR hS (xb_d D_M_name1 38 rfl) hw

set_option maxHeartbeats 4000000 in
set_option maxRecDepth 100000 in
theorem am_M_name1_L14 (l : Launch) (hfl : l.flags = pinnedFlags ++ [noTraceFlag]) (D : va_G) (A : Nat → Prop) (σ MC MS : Nat) (h0 : xb_H) (Qr : xb_H → Prop) (x0 : Nat) (x1 : Int32) (y0 : Int32) (y1 : Nat) (h : xb_H) (bc : Nat) (bs : Nat) (hw : w_M_name1_L14 Qr x0 x1 y0 y1 h bc bs) : xb_am l D A σ 4 MC MS h0 (fun v h => v = none ∧ Qr h) (fun _ _ => False) y_M_name1.cls y_M_name1.name b_M_name1 2 ([] : List ExceptionTableEntry) none 14 [(0, .ref x0), (1, .int x1)] [.int y0, .ref y1] h bc bs := by
  unfold w_M_name1_L14 at hw
  intro p e s m args below meth c hC H locs ls k n hE hl hR hS hk hn
  obtain ⟨hx, hb, hown, hlocks, htab, hml, hr, hB, hA, hnm⟩ := id hC
  have hts := hB.1.1.at args
  obtain ⟨hk1, hw⟩ := hw
  refine xb_putI (C := R_M) (T := F_M) (N := 97) (ty := .int) (x := y0) hx hb 8 0 hts fin_M t_M t_M_ok n_M hown hR hS hk1 (by decide) rfl (by decide) rfl (hts _ m_afabd6a0) (fun _ h9 => h9) rfl (by decide +kernel) rfl rfl (xb_d D_M_name1 8 rfl) (fun H locs hR hS => ?_)
  obtain ⟨h2, eh2⟩ : ∃ x : xb_H, x = xb_I h y1 0 y0 := ⟨_, rfl⟩
  rw [← eh2] at hR
  have hw := hw h2 eh2
  have hE : xb_ext h0 h2 := by rw [eh2]; exact hE
  refine lv_aload_n hx hb (xb_d D_M_name1 9 rfl) rfl (lv_at hl 0 rfl) ?_
  obtain ⟨hk3, hw⟩ := hw
  refine xb_getI (C := R_M) (T := F_M) (N := 97) hx hb 8 0 hts fin_M hown hR hk3 (by decide) rfl (by decide) rfl (hts _ m_afabd6a0) (fun _ h9 => h9) (xb_d D_M_name1 10 rfl) ?_
  refine lv_if_ne (tgt := 70) hx hb (xb_d D_M_name1 11 rfl) rfl (fun hc4 => ?_) (fun hc4 => ?_)
  · have hw := hw.1 hc4
    exact am_M_name1_L70 l hfl D A σ MC MS h0 Qr h2 bc bs hw p e s m args below meth c hC H locs ls k n hE (lv_sub hl [] rfl) hR hS (by omega) (by omega)
  · have hw := hw.2 hc4
    refine lv_aload_n hx hb (xb_d D_M_name1 12 rfl) rfl (lv_at hl 0 rfl) ?_
    refine xb_getP (C := R_M) (T := F_M) (N := 97) hx hb 8 40 hts fin_M hown hR hk3 (by decide) rfl (by decide) rfl (hts _ m_48bc85e4) (fun _ h9 => h9) (xb_d D_M_name1 13 rfl) ?_
    obtain ⟨b5, eb5, hw⟩ := hw
    refine xb_some eb5 ?_
    refine lv_aload_n hx hb (xb_d D_M_name1 14 rfl) rfl (lv_at hl 0 rfl) ?_
    refine xb_getI (C := R_M) (T := F_M) (N := 97) hx hb 8 42 hts fin_M hown hR hk3 (by decide) rfl (by decide) rfl (hts _ m_9b569c31) (fun _ h9 => h9) (xb_d D_M_name1 15 rfl) ?_
    refine lv_aload_n hx hb (xb_d D_M_name1 16 rfl) rfl (lv_at hl 0 rfl) ?_
    refine xb_getI (C := R_M) (T := F_M) (N := 97) hx hb 8 2 hts fin_M hown hR hk3 (by decide) rfl (by decide) rfl (hts _ m_7895fa0a) (fun _ h9 => h9) (xb_d D_M_name1 17 rfl) ?_
    obtain ⟨hk6, hw⟩ := hw
    obtain ⟨hi7, hw⟩ := hw
    refine xb_iast hx hb hR hS hk6 hi7 (xb_d D_M_name1 18 rfl) (fun H locs hR hS => ?_)
    obtain ⟨h8, eh8⟩ : ∃ x : xb_H, x = xb_I h2 b5 (Int32.toNatClampNeg (xb_i h2 x0 42)) (xb_i h2 x0 2) := ⟨_, rfl⟩
    rw [← eh8] at hR
    have hw := hw h8 eh8
    have hE : xb_ext h0 h8 := by rw [eh8]; exact hE
    refine lv_aload_n hx hb (xb_d D_M_name1 19 rfl) rfl (lv_at hl 0 rfl) ?_
    have hk3 : xb_k h8 x0 = 9 := by rw [eh8]; exact hk3
    refine xb_getP (C := R_M) (T := F_M) (N := 97) hx hb 8 39 hts fin_M hown hR hk3 (by decide) rfl (by decide) rfl (hts _ m_c7ddbadb) (fun _ h9 => h9) (xb_d D_M_name1 20 rfl) ?_
    obtain ⟨b9, eb9, hw⟩ := hw
    refine xb_some eb9 ?_
    refine lv_aload_n hx hb (xb_d D_M_name1 21 rfl) rfl (lv_at hl 0 rfl) ?_
    refine xb_getI (C := R_M) (T := F_M) (N := 97) hx hb 8 42 hts fin_M hown hR hk3 (by decide) rfl (by decide) rfl (hts _ m_9b569c31) (fun _ h9 => h9) (xb_d D_M_name1 22 rfl) ?_
    refine lv_aload_n hx hb (xb_d D_M_name1 23 rfl) rfl (lv_at hl 0 rfl) ?_
    obtain ⟨c12, sc12, hlc12, hlsc12, hw⟩ := hw
    refine xb_call (D := D) (A := A) (σ := σ) (h := h8) (d := 3) (mc := c12) (ms := sc12) (maxL := 2) (rest := [.int (xb_i h8 x0 42), .ref b9]) (av := [.ref x0]) (fun T hT X => by obtain ⟨cb, r1, r2, r3⟩ := xb_recv (ci := 8) hR rfl hk3 (by decide); exact xt_invV X hx hown (hts _ m_75691c4a) (hts _ m_ab8b88b5) (hts _ m_465bbb27) (xt_sigOf (hts _ m_0e3942d4)) nm_M_keepTape (by rw [hT]; exact r1) r2 r3 (g := F0 m 46 ls [.ref x0, .int (xb_i h8 x0 42), .ref b9]) rfl (argsL := []) (rest := [.int (xb_i h8 x0 42), .ref b9]) rfl rfl (by rw [hb]; exact (xb_d D_M_name1 24 rfl))) (ok_M_keepTape l hfl D A σ x0 h8 c12 sc12 _ hw) (hml.trans hl.1.symm) (by rw [hb]; exact (xb_d D_M_name1 24 rfl)) (Nat.le_of_ble_eq_true rfl) (Nat.le_of_ble_eq_true rfl) (Nat.le_of_ble_eq_true rfl) (show k + c12 ≤ MC by omega) (show n + sc12 ≤ MS by omega) (xt_w1 hB.1 m_0e3942d4) (xt_cdOf hB.1 m_0e3942d4) (hts _ m_d5ed7bed) hB hR hS hA (fun vv h10 H locs hq hEh10 hR hS => ?_) (fun XX ax h10 H locs hq hEh10 hex hR hS => ?_)
    · obtain ⟨r11, rfl, hw⟩ := hq
      have hw := hw hEh10
      have hE := hE.tr hEh10
      refine W.eq (g2 := F0 m 49 ls [.int r11, .int (xb_i h8 x0 42), .ref b9]) rfl ?_
      obtain ⟨hk13, hw⟩ := hw
      obtain ⟨hi14, hw⟩ := hw
      refine xb_iast hx hb hR hS hk13 hi14 (xb_d D_M_name1 25 rfl) (fun H locs hR hS => ?_)
      obtain ⟨h15, eh15⟩ : ∃ x : xb_H, x = xb_I h10 b9 (Int32.toNatClampNeg (xb_i h8 x0 42)) r11 := ⟨_, rfl⟩
      rw [← eh15] at hR
      have hw := hw h15 eh15
      have hE : xb_ext h0 h15 := by rw [eh15]; exact hE
      refine lv_aload_n hx hb (xb_d D_M_name1 26 rfl) rfl (lv_at hl 0 rfl) ?_
      have hk3 : xb_k h10 x0 = 9 := hEh10.k hk3
      have hk3 : xb_k h15 x0 = 9 := by rw [eh15]; exact hk3
      refine xb_getP (C := R_M) (T := F_M) (N := 97) hx hb 8 41 hts fin_M hown hR hk3 (by decide) rfl (by decide) rfl (hts _ m_b88bfd37) (fun _ h9 => h9) (xb_d D_M_name1 27 rfl) ?_
      obtain ⟨b16, eb16, hw⟩ := hw
      refine xb_some eb16 ?_
      refine lv_aload_n hx hb (xb_d D_M_name1 28 rfl) rfl (lv_at hl 0 rfl) ?_
      refine xb_getI (C := R_M) (T := F_M) (N := 97) hx hb 8 42 hts fin_M hown hR hk3 (by decide) rfl (by decide) rfl (hts _ m_9b569c31) (fun _ h9 => h9) (xb_d D_M_name1 29 rfl) ?_
      refine lv_iload_n hx hb (xb_d D_M_name1 30 rfl) rfl (lv_at hl 1 rfl) ?_
      obtain ⟨hk17, hw⟩ := hw
      obtain ⟨hi18, hw⟩ := hw
      refine xb_iast hx hb hR hS hk17 hi18 (xb_d D_M_name1 31 rfl) (fun H locs hR hS => ?_)
      obtain ⟨h19, eh19⟩ : ∃ x : xb_H, x = xb_I h15 b16 (Int32.toNatClampNeg (xb_i h15 x0 42)) x1 := ⟨_, rfl⟩
      rw [← eh19] at hR
      have hw := hw h19 eh19
      have hE : xb_ext h0 h19 := by rw [eh19]; exact hE
      refine lv_aload_n hx hb (xb_d D_M_name1 32 rfl) rfl (lv_at hl 0 rfl) ?_
      refine lv_dup hx hb (xb_d D_M_name1 33 rfl) rfl ?_
      have hk3 : xb_k h19 x0 = 9 := by rw [eh19]; exact hk3
      refine xb_getI (C := R_M) (T := F_M) (N := 97) hx hb 8 42 hts fin_M hown hR hk3 (by decide) rfl (by decide) rfl (hts _ m_9b569c31) (fun _ h9 => h9) (xb_d D_M_name1 34 rfl) ?_
      refine lv_iconst (v := 1) hx hb (xb_d D_M_name1 35 rfl) (by decide) ?_
      refine lv_iadd hx hb (xb_d D_M_name1 36 rfl) ?_
      refine xb_putI (C := R_M) (T := F_M) (N := 97) (ty := .int) (x := ((xb_i h19 x0 42) + 1)) hx hb 8 42 hts fin_M t_M t_M_ok n_M hown hR hS hk3 (by decide) rfl (by decide) rfl (hts _ m_9b569c31) (fun _ h9 => h9) rfl (by decide +kernel) rfl rfl (xb_d D_M_name1 37 rfl) (fun H locs hR hS => ?_)
      obtain ⟨h20, eh20⟩ : ∃ x : xb_H, x = xb_I h19 x0 42 ((xb_i h19 x0 42) + 1) := ⟨_, rfl⟩
      rw [← eh20] at hR
      have hw := hw h20 eh20
      have hE : xb_ext h0 h20 := by rw [eh20]; exact hE
      exact am_M_name1_L70 l hfl D A σ MC MS h0 Qr h20 (bc - c12) (bs - sc12) hw p e s m args below meth c hC H locs ls (k + c12) (n + sc12) hE (lv_sub hl [] rfl) hR hS (by omega) (by omega)
    · exact False.elim hq

set_option maxHeartbeats 4000000 in
set_option maxRecDepth 100000 in
theorem ok_M_name1 (l : Launch) (hfl : l.flags = pinnedFlags ++ [noTraceFlag]) (D : va_G) (A : Nat → Prop) (σ : Nat) (x0 : Nat) (x1 : Int32) (h : xb_H) (bc : Nat) (bs : Nat) (Qr : xb_H → Prop) (hw : w_M_name1 x0 x1 h bc bs Qr) : xt_Met l y_M_name1 [.code y_M_name1 b_M_name1 2 none] (xb_rm 4 bc bs) (xb_Pc D A σ h [.ref x0, .int x1]) (xb_Qc D A h (fun v h => v = none ∧ Qr h) (fun _ _ => False)) bc bs A := by
  refine xb_ofAm (cc := b_M_name1) (by decide) (Nat.le_of_ble_eq_true rfl) ?_
  unfold w_M_name1 at hw
  show xb_am l D A σ 4 bc bs h (fun v h => v = none ∧ Qr h) (fun _ _ => False) y_M_name1.cls y_M_name1.name b_M_name1 2 ([] : List ExceptionTableEntry) none 0 [(0, .ref x0), (1, .int x1)] [] h bc bs
  obtain ⟨MC, hMC⟩ : ∃ x, x = bc := ⟨_, rfl⟩
  obtain ⟨MS, hMS⟩ : ∃ x, x = bs := ⟨_, rfl⟩
  rw [show xb_am l D A σ 4 bc bs = xb_am l D A σ 4 MC MS by rw [hMC, hMS]]
  obtain ⟨h0, hh0⟩ : ∃ x, x = h := ⟨_, rfl⟩
  rw [show xb_am l D A σ 4 MC MS h = xb_am l D A σ 4 MC MS h0 by rw [hh0]]
  intro p e s m args below meth c hC H locs ls k n hE hl hR hS hk hn
  obtain ⟨hx, hb, hown, hlocks, htab, hml, hr, hB, hA, hnm⟩ := id hC
  have hts := hB.1.1.at args
  refine lv_aload_n hx hb (xb_d D_M_name1 0 rfl) rfl (lv_at hl 0 rfl) ?_
  refine lv_aload_n hx hb (xb_d D_M_name1 1 rfl) rfl (lv_at hl 0 rfl) ?_
  refine lv_iload_n hx hb (xb_d D_M_name1 2 rfl) rfl (lv_at hl 1 rfl) ?_
  obtain ⟨hk1, hw⟩ := hw
  refine xb_call (D := D) (A := A) (σ := σ) (h := h) (d := 2) (mc := 0) (ms := 0) (maxL := 2) (rest := [.ref x0]) (av := [.ref x0, .int x1]) (fun T hT X => by obtain ⟨cb, r1, r2, r3⟩ := xb_recv (ci := 8) hR rfl hk1 (by decide); exact xt_invV X hx hown (hts _ m_ec7c79cd) (hts _ m_cefd1701) (hts _ m_d2ca0421) (xt_sigOf (hts _ m_5aaa69eb)) nm_M_isInstance (by rw [hT]; exact r1) r2 r3 (g := F0 m 3 ls [.int x1, .ref x0, .ref x0]) rfl (argsL := [.int x1]) (rest := [.ref x0]) rfl rfl (by rw [hb]; exact (xb_d D_M_name1 3 rfl))) (ok_M_isInstance l hfl D A σ x0 x1 h _ hw) (hml.trans hl.1.symm) (by rw [hb]; exact (xb_d D_M_name1 3 rfl)) (Nat.le_of_ble_eq_true rfl) (Nat.le_of_ble_eq_true rfl) (Nat.le_of_ble_eq_true rfl) (show k + 0 ≤ MC by omega) (show n + 0 ≤ MS by omega) (xt_w1 hB.1 m_5aaa69eb) (xt_cdOf hB.1 m_5aaa69eb) (hts _ m_d5ed7bed) hB hR hS hA (fun vv h2 H locs hq hEh2 hR hS => ?_) (fun XX ax h2 H locs hq hEh2 hex hR hS => ?_)
  · obtain ⟨r3, rfl, hw⟩ := hq
    have hw := hw hEh2
    have hE := hE.tr hEh2
    refine W.eq (g2 := F0 m 6 ls [.int r3, .ref x0]) rfl ?_
    refine lv_if_eq (tgt := 13) hx hb (xb_d D_M_name1 4 rfl) rfl (fun hc4 => ?_) (fun hc4 => ?_)
    · have hw := hw.1 hc4
      refine lv_iconst (v := 1) hx hb (xb_d D_M_name1 7 rfl) (by decide) ?_
      exact am_M_name1_L14 l hfl D A σ MC MS h0 Qr x0 x1 1 x0 h2 bc bs hw p e s m args below meth c hC H locs ls k n hE (lv_sub hl [0, 1] rfl) hR hS (by omega) (by omega)
    · have hw := hw.2 hc4
      refine lv_iconst (v := 0) hx hb (xb_d D_M_name1 5 rfl) (by decide) ?_
      refine lv_goto (tgt := 14) hx hb (xb_d D_M_name1 6 rfl) rfl ?_
      exact am_M_name1_L14 l hfl D A σ MC MS h0 Qr x0 x1 0 x0 h2 bc bs hw p e s m args below meth c hC H locs ls k n hE (lv_sub hl [0, 1] rfl) hR hS (by omega) (by omega)
  · exact False.elim hq

set_option maxRecDepth 100000 in
def T_M_signed : List (Nat × Instr × Nat) := [(0, .lconst 0, 1), (1, .lstore_n 2, 1), (2, .iload_n 1, 1), (3, .bipush 32, 2), (5, .if_icmp .ne 7, 3), (8, .iconst 4, 1), (9, .goto 5, 3), (12, .bipush 9, 2), (14, .istore 4, 2), (16, .iconst 0, 1), (17, .istore 5, 2), (19, .iload 5, 2), (21, .iload 4, 2), (23, .if_icmp .gt 186, 3), (26, .aload_n 0, 1), (27, .invokevirtual 212, 3), (30, .istore 6, 2), (32, .iload 5, 2), (34, .iload 4, 2), (36, .if_icmp .lt 46, 3), (39, .iload_n 1, 1), (40, .bipush 32, 2), (42, .if_icmp .ne 28, 3), (45, .iload 6, 2), (47, .bipush 8, 2), (49, .if_icmp .lt 33, 3), (52, .iload 6, 2), (54, .bipush 120, 2), (56, .if_icmp .lt 30, 3), (59, .iload 6, 2), (61, .sipush 128, 3), (64, .if_icmp .ge 22, 3), (67, .goto 15, 3), (70, .iload 6, 2), (72, .ifCond .eq 10, 3), (75, .iload 6, 2), (77, .bipush 127, 2), (79, .if_icmp .ne 7, 3), (82, .iconst 1, 1), (83, .goto 4, 3), (86, .iconst 0, 1), (87, .istore 7, 2), (89, .aload_n 0, 1), (90, .getfield 193, 3), (93, .ifCond .ne 19, 3), (96, .iload 7, 2), (98, .ifCond .ne 14, 3), (101, .aload_n 0, 1), (102, .iconst 3, 1), (103, .aload_n 0, 1), (104, .getfield 202, 3), (107, .iconst 1, 1), (108, .isub, 1), (109, .invokevirtual 208, 3), (112, .aload_n 0, 1), (113, .getfield 193, 3), (116, .ifCond .eq 5, 3), (119, .lconst 0, 1), (120, .lreturn, 1), (121, .lload_n 2, 1), (122, .iload 6, 2), (124, .bipush 127, 2), (126, .iand, 1), (127, .i2l, 1), (128, .bipush 7, 2), (130, .iload 5, 2), (132, .imul, 1), (133, .lshl, 1), (134, .lor, 1), (135, .lstore_n 2, 1), (136, .iload 6, 2), (138, .sipush 128, 3), (141, .if_icmp .ge 62, 3), (144, .iload 5, 2), (146, .iload 4, 2), (148, .if_icmp .ge 15, 3), (151, .iload 6, 2), (153, .bipush 64, 2), (155, .iand, 1), (156, .ifCond .eq 7, 3), (159, .iconst 1, 1), (160, .goto 4, 3), (163, .iconst 0, 1), (164, .istore 8, 2), (166, .iload 8, 2), (168, .ifCond .eq 19, 3), (171, .lload_n 2, 1), (172, .ldc2_w 216, 3), (175, .bipush 7, 2), (177, .iload 5, 2), (179, .iconst 1, 1), (180, .iadd, 1), (181, .imul, 1), (182, .lshl, 1), (183, .lor, 1), (184, .goto 4, 3), (187, .lload_n 2, 1), (188, .lstore_n 2, 1), (189, .iload_n 1, 1), (190, .bipush 32, 2), (192, .if_icmp .ne 9, 3), (195, .lload_n 2, 1), (196, .l2i, 1), (197, .i2l, 1), (198, .goto 4, 3), (201, .lload_n 2, 1), (202, .lreturn, 1), (203, .iinc 5 1, 3), (206, .goto (-187), 3), (209, .lload_n 2, 1), (210, .lreturn, 1)]
theorem D_M_signed : ∀ q ∈ T_M_signed, decode b_M_signed q.1 = .ok (q.2.1, q.2.2) := by decide +kernel
def w_M_signed_L202 (K19 : Nat → Int32 → Int64 → Int32 → Int32 → xb_H → Prop) (Qr : Int64 → xb_H → Prop) (y0 : Int64) (h : xb_H) : Prop :=
    Qr y0 h

def w_M_signed_L188 (K19 : Nat → Int32 → Int64 → Int32 → Int32 → xb_H → Prop) (Qr : Int64 → xb_H → Prop) (x1 : Int32) (y0 : Int64) (h : xb_H) : Prop :=
    ((¬ x1 = (32 : Int32) → w_M_signed_L202 K19 Qr y0 h) ∧ (x1 = (32 : Int32) → w_M_signed_L202 K19 Qr (Int32.toInt64 (Int64.toInt32 y0)) h))

def w_M_signed_L164 (K19 : Nat → Int32 → Int64 → Int32 → Int32 → xb_H → Prop) (Qr : Int64 → xb_H → Prop) (x1 : Int32) (x2 : Int64) (x5 : Int32) (y0 : Int32) (h : xb_H) : Prop :=
    ((y0 = (0 : Int32) → w_M_signed_L188 K19 Qr x1 x2 h) ∧ (¬ y0 = (0 : Int32) → w_M_signed_L188 K19 Qr x1 (x2 ||| (xb_lshl (-1) (7 * (x5 + 1)))) h))

def w_M_signed_L163 (K19 : Nat → Int32 → Int64 → Int32 → Int32 → xb_H → Prop) (Qr : Int64 → xb_H → Prop) (x1 : Int32) (x2 : Int64) (x5 : Int32) (h : xb_H) : Prop :=
    w_M_signed_L164 K19 Qr x1 x2 x5 0 h

def w_M_signed_L112 (K19 : Nat → Int32 → Int64 → Int32 → Int32 → xb_H → Prop) (Qr : Int64 → xb_H → Prop) (x0 : Nat) (x1 : Int32) (x2 : Int64) (x4 : Int32) (x5 : Int32) (x6 : Int32) (h : xb_H) : Prop :=
    xb_k h x0 = 9 ∧ (((xb_i h x0 17) = (0 : Int32) → ∀ v3 : Int64, v3 = (x2 ||| (xb_lshl (Int32.toInt64 (x6 &&& 127)) (7 * x5))) → (((128 : Int32) ≤ x6 → K19 x0 x1 v3 x4 (x5 + 1) h) ∧ (¬ (128 : Int32) ≤ x6 → ((x4 ≤ x5 → w_M_signed_L163 K19 Qr x1 v3 x5 h) ∧ (¬ x4 ≤ x5 → (((x6 &&& 64) = (0 : Int32) → w_M_signed_L163 K19 Qr x1 v3 x5 h) ∧ (¬ (x6 &&& 64) = (0 : Int32) → w_M_signed_L164 K19 Qr x1 v3 x5 1 h))))))) ∧ (¬ (xb_i h x0 17) = (0 : Int32) → Qr 0 h))

def w_M_signed_L87 (K19 : Nat → Int32 → Int64 → Int32 → Int32 → xb_H → Prop) (Qr : Int64 → xb_H → Prop) (x0 : Nat) (x1 : Int32) (x2 : Int64) (x4 : Int32) (x5 : Int32) (x6 : Int32) (y0 : Int32) (h : xb_H) : Prop :=
    xb_k h x0 = 9 ∧ ((¬ (xb_i h x0 17) = (0 : Int32) → w_M_signed_L112 K19 Qr x0 x1 x2 x4 x5 x6 h) ∧ ((xb_i h x0 17) = (0 : Int32) → ((¬ y0 = (0 : Int32) → w_M_signed_L112 K19 Qr x0 x1 x2 x4 x5 x6 h) ∧ (y0 = (0 : Int32) → w_M_fail x0 3 ((xb_i h x0 15) - 1) h (fun (h4 : xb_H) => xb_ext h h4 → w_M_signed_L112 K19 Qr x0 x1 x2 x4 x5 x6 h4)))))

def w_M_signed_L86 (K19 : Nat → Int32 → Int64 → Int32 → Int32 → xb_H → Prop) (Qr : Int64 → xb_H → Prop) (x0 : Nat) (x1 : Int32) (x2 : Int64) (x4 : Int32) (x5 : Int32) (x6 : Int32) (h : xb_H) : Prop :=
    w_M_signed_L87 K19 Qr x0 x1 x2 x4 x5 x6 0 h

def w_M_signed_L82 (K19 : Nat → Int32 → Int64 → Int32 → Int32 → xb_H → Prop) (Qr : Int64 → xb_H → Prop) (x0 : Nat) (x1 : Int32) (x2 : Int64) (x4 : Int32) (x5 : Int32) (x6 : Int32) (h : xb_H) : Prop :=
    w_M_signed_L87 K19 Qr x0 x1 x2 x4 x5 x6 1 h

def w_M_signed_L19 (Qr : Int64 → xb_H → Prop) : Nat → Nat → Int32 → Int64 → Int32 → Int32 → xb_H → Prop
  | 0, _, _, _, _, _, _ => False
  | n9 + 1, x0, x1, x2, x4, x5, h =>
    ((x4 < x5 → Qr x2 h) ∧ (¬ x4 < x5 → xb_k h x0 = 9 ∧ w_M_next x0 h (fun (r4 : Int32) (h3 : xb_H) => xb_ext h h3 → ((x5 < x4 → w_M_signed_L82 (w_M_signed_L19 Qr n9) Qr x0 x1 x2 x4 x5 r4 h3) ∧ (¬ x5 < x4 → ((¬ x1 = (32 : Int32) → ((r4 = (0 : Int32) → w_M_signed_L82 (w_M_signed_L19 Qr n9) Qr x0 x1 x2 x4 x5 r4 h3) ∧ (¬ r4 = (0 : Int32) → ((¬ r4 = (127 : Int32) → w_M_signed_L86 (w_M_signed_L19 Qr n9) Qr x0 x1 x2 x4 x5 r4 h3) ∧ (r4 = (127 : Int32) → w_M_signed_L82 (w_M_signed_L19 Qr n9) Qr x0 x1 x2 x4 x5 r4 h3))))) ∧ (x1 = (32 : Int32) → ((r4 < (8 : Int32) → w_M_signed_L82 (w_M_signed_L19 Qr n9) Qr x0 x1 x2 x4 x5 r4 h3) ∧ (¬ r4 < (8 : Int32) → ((r4 < (120 : Int32) → w_M_signed_L86 (w_M_signed_L19 Qr n9) Qr x0 x1 x2 x4 x5 r4 h3) ∧ (¬ r4 < (120 : Int32) → (((128 : Int32) ≤ r4 → w_M_signed_L86 (w_M_signed_L19 Qr n9) Qr x0 x1 x2 x4 x5 r4 h3) ∧ (¬ (128 : Int32) ≤ r4 → w_M_signed_L82 (w_M_signed_L19 Qr n9) Qr x0 x1 x2 x4 x5 r4 h3)))))))))))))

def w_M_signed_L14 (Qr : Int64 → xb_H → Prop) (x0 : Nat) (x1 : Int32) (x2 : Int64) (y0 : Int32) (h : xb_H) : Prop :=
    (∃ n8 : Nat, w_M_signed_L19 Qr n8 x0 x1 x2 y0 0 h)

def w_M_signed (x0 : Nat) (x1 : Int32) (h : xb_H) (Qr : Int64 → xb_H → Prop) : Prop :=
    ((¬ x1 = (32 : Int32) → w_M_signed_L14 Qr x0 x1 0 9 h) ∧ (x1 = (32 : Int32) → w_M_signed_L14 Qr x0 x1 0 4 h))

set_option maxHeartbeats 4000000 in
set_option maxRecDepth 100000 in
theorem am_M_signed_L202 (l : Launch) (hfl : l.flags = pinnedFlags ++ [noTraceFlag]) (D : va_G) (A : Nat → Prop) (σ MC MS : Nat) (h0 : xb_H) (Qr : Int64 → xb_H → Prop) (K19 : Nat → Int32 → Int64 → Int32 → Int32 → xb_H → Prop) (hK19 : ∀ (x0 : Nat) (x1 : Int32) (x2 : Int64) (x4 : Int32) (x5 : Int32) (h : xb_H), K19 x0 x1 x2 x4 x5 h → xb_am l D A σ 4 MC MS h0 (fun v h => ∃ r, v = some (.long r) ∧ Qr r h) (fun _ _ => False) y_M_signed.cls y_M_signed.name b_M_signed 9 ([] : List ExceptionTableEntry) (some .long) 19 [(0, .ref x0), (1, .int x1), (2, .long x2), (4, .int x4), (5, .int x5)] [] h 0 0) (y0 : Int64) (h : xb_H) (hw : w_M_signed_L202 K19 Qr y0 h) : xb_am l D A σ 4 MC MS h0 (fun v h => ∃ r, v = some (.long r) ∧ Qr r h) (fun _ _ => False) y_M_signed.cls y_M_signed.name b_M_signed 9 ([] : List ExceptionTableEntry) (some .long) 202 [] [.long y0] h 0 0 := by
  unfold w_M_signed_L202 at hw
  intro p e s m args below meth c hC H locs ls k n hE hl hR hS hk hn
  obtain ⟨hx, hb, hown, hlocks, htab, hml, hr, hB, hA, hnm⟩ := id hC
  have hts := hB.1.1.at args
  exact xb_lret hx hb hr hlocks (show k ≤ MC by omega) (show n ≤ MS by omega) hE hR hS (xb_d D_M_signed 106 rfl) hw

set_option maxHeartbeats 4000000 in
set_option maxRecDepth 100000 in
theorem am_M_signed_L188 (l : Launch) (hfl : l.flags = pinnedFlags ++ [noTraceFlag]) (D : va_G) (A : Nat → Prop) (σ MC MS : Nat) (h0 : xb_H) (Qr : Int64 → xb_H → Prop) (K19 : Nat → Int32 → Int64 → Int32 → Int32 → xb_H → Prop) (hK19 : ∀ (x0 : Nat) (x1 : Int32) (x2 : Int64) (x4 : Int32) (x5 : Int32) (h : xb_H), K19 x0 x1 x2 x4 x5 h → xb_am l D A σ 4 MC MS h0 (fun v h => ∃ r, v = some (.long r) ∧ Qr r h) (fun _ _ => False) y_M_signed.cls y_M_signed.name b_M_signed 9 ([] : List ExceptionTableEntry) (some .long) 19 [(0, .ref x0), (1, .int x1), (2, .long x2), (4, .int x4), (5, .int x5)] [] h 0 0) (x1 : Int32) (y0 : Int64) (h : xb_H) (hw : w_M_signed_L188 K19 Qr x1 y0 h) : xb_am l D A σ 4 MC MS h0 (fun v h => ∃ r, v = some (.long r) ∧ Qr r h) (fun _ _ => False) y_M_signed.cls y_M_signed.name b_M_signed 9 ([] : List ExceptionTableEntry) (some .long) 188 [(1, .int x1)] [.long y0] h 0 0 := by
  unfold w_M_signed_L188 at hw
  intro p e s m args below meth c hC H locs ls k n hE hl hR hS hk hn
  obtain ⟨hx, hb, hown, hlocks, htab, hml, hr, hB, hA, hnm⟩ := id hC
  have hts := hB.1.1.at args
  refine lv_lstore_n hx hb (xb_d D_M_signed 97 rfl) rfl hl (by decide) rfl (fun ls hl => ?_)
  have hl : lv_has ls 9 [(2, .long y0), (1, .int x1)] := hl
  refine lv_iload_n hx hb (xb_d D_M_signed 98 rfl) rfl (lv_at hl 1 rfl) ?_
  refine lv_bipush (v := 32) hx hb (xb_d D_M_signed 99 rfl) (by decide) ?_
  refine lv_icmp_ne (tgt := 201) hx hb (xb_d D_M_signed 100 rfl) rfl (fun hc1 => ?_) (fun hc1 => ?_)
  · have hw := hw.1 hc1
    refine lv_lload_n hx hb (xb_d D_M_signed 105 rfl) rfl (lv_at hl 0 rfl) ?_
    exact am_M_signed_L202 l hfl D A σ MC MS h0 Qr K19 hK19 y0 h hw p e s m args below meth c hC H locs ls k n hE (lv_sub hl [] rfl) hR hS (by omega) (by omega)
  · have hw := hw.2 hc1
    refine lv_lload_n hx hb (xb_d D_M_signed 101 rfl) rfl (lv_at hl 0 rfl) ?_
    refine lv_l2i hx hb (xb_d D_M_signed 102 rfl) rfl ?_
    refine lv_i2l hx hb (xb_d D_M_signed 103 rfl) rfl ?_
    refine lv_goto (tgt := 202) hx hb (xb_d D_M_signed 104 rfl) rfl ?_
    exact am_M_signed_L202 l hfl D A σ MC MS h0 Qr K19 hK19 (Int32.toInt64 (Int64.toInt32 y0)) h hw p e s m args below meth c hC H locs ls k n hE (lv_sub hl [] rfl) hR hS (by omega) (by omega)

set_option maxHeartbeats 4000000 in
set_option maxRecDepth 100000 in
theorem am_M_signed_L164 (l : Launch) (hfl : l.flags = pinnedFlags ++ [noTraceFlag]) (D : va_G) (A : Nat → Prop) (σ MC MS : Nat) (h0 : xb_H) (Qr : Int64 → xb_H → Prop) (K19 : Nat → Int32 → Int64 → Int32 → Int32 → xb_H → Prop) (hK19 : ∀ (x0 : Nat) (x1 : Int32) (x2 : Int64) (x4 : Int32) (x5 : Int32) (h : xb_H), K19 x0 x1 x2 x4 x5 h → xb_am l D A σ 4 MC MS h0 (fun v h => ∃ r, v = some (.long r) ∧ Qr r h) (fun _ _ => False) y_M_signed.cls y_M_signed.name b_M_signed 9 ([] : List ExceptionTableEntry) (some .long) 19 [(0, .ref x0), (1, .int x1), (2, .long x2), (4, .int x4), (5, .int x5)] [] h 0 0) (x1 : Int32) (x2 : Int64) (x5 : Int32) (y0 : Int32) (h : xb_H) (hw : w_M_signed_L164 K19 Qr x1 x2 x5 y0 h) : xb_am l D A σ 4 MC MS h0 (fun v h => ∃ r, v = some (.long r) ∧ Qr r h) (fun _ _ => False) y_M_signed.cls y_M_signed.name b_M_signed 9 ([] : List ExceptionTableEntry) (some .long) 164 [(1, .int x1), (2, .long x2), (5, .int x5)] [.int y0] h 0 0 := by
  unfold w_M_signed_L164 at hw
  intro p e s m args below meth c hC H locs ls k n hE hl hR hS hk hn
  obtain ⟨hx, hb, hown, hlocks, htab, hml, hr, hB, hA, hnm⟩ := id hC
  have hts := hB.1.1.at args
  refine lv_istore hx hb (xb_d D_M_signed 83 rfl) hl (by decide) rfl (fun ls hl => ?_)
  have hl : lv_has ls 9 [(8, .int y0), (1, .int x1), (2, .long x2), (5, .int x5)] := hl
  refine lv_iload hx hb (xb_d D_M_signed 84 rfl) (lv_at hl 0 rfl) ?_
  refine lv_if_eq (tgt := 187) hx hb (xb_d D_M_signed 85 rfl) rfl (fun hc1 => ?_) (fun hc1 => ?_)
  · have hw := hw.1 hc1
    refine lv_lload_n hx hb (xb_d D_M_signed 96 rfl) rfl (lv_at hl 2 rfl) ?_
    exact am_M_signed_L188 l hfl D A σ MC MS h0 Qr K19 hK19 x1 x2 h hw p e s m args below meth c hC H locs ls k n hE (lv_sub hl [1] rfl) hR hS (by omega) (by omega)
  · have hw := hw.2 hc1
    refine lv_lload_n hx hb (xb_d D_M_signed 86 rfl) rfl (lv_at hl 2 rfl) ?_
    refine lv_ldc2 (v := (-1)) hx hb hown (hts _ m_a1d4f677) (xb_d D_M_signed 87 rfl) ?_
    refine lv_bipush (v := 7) hx hb (xb_d D_M_signed 88 rfl) (by decide) ?_
    refine lv_iload hx hb (xb_d D_M_signed 89 rfl) (lv_at hl 3 rfl) ?_
    refine lv_iconst (v := 1) hx hb (xb_d D_M_signed 90 rfl) (by decide) ?_
    refine lv_iadd hx hb (xb_d D_M_signed 91 rfl) ?_
    refine lv_imul hx hb (xb_d D_M_signed 92 rfl) ?_
    refine lv_lshl (v := (xb_lshl (-1) (7 * (x5 + 1)))) hx hb (xb_d D_M_signed 93 rfl) rfl ?_
    refine lv_lor hx hb (xb_d D_M_signed 94 rfl) ?_
    refine lv_goto (tgt := 188) hx hb (xb_d D_M_signed 95 rfl) rfl ?_
    exact am_M_signed_L188 l hfl D A σ MC MS h0 Qr K19 hK19 x1 (x2 ||| (xb_lshl (-1) (7 * (x5 + 1)))) h hw p e s m args below meth c hC H locs ls k n hE (lv_sub hl [1] rfl) hR hS (by omega) (by omega)

set_option maxHeartbeats 4000000 in
set_option maxRecDepth 100000 in
theorem am_M_signed_L163 (l : Launch) (hfl : l.flags = pinnedFlags ++ [noTraceFlag]) (D : va_G) (A : Nat → Prop) (σ MC MS : Nat) (h0 : xb_H) (Qr : Int64 → xb_H → Prop) (K19 : Nat → Int32 → Int64 → Int32 → Int32 → xb_H → Prop) (hK19 : ∀ (x0 : Nat) (x1 : Int32) (x2 : Int64) (x4 : Int32) (x5 : Int32) (h : xb_H), K19 x0 x1 x2 x4 x5 h → xb_am l D A σ 4 MC MS h0 (fun v h => ∃ r, v = some (.long r) ∧ Qr r h) (fun _ _ => False) y_M_signed.cls y_M_signed.name b_M_signed 9 ([] : List ExceptionTableEntry) (some .long) 19 [(0, .ref x0), (1, .int x1), (2, .long x2), (4, .int x4), (5, .int x5)] [] h 0 0) (x1 : Int32) (x2 : Int64) (x5 : Int32) (h : xb_H) (hw : w_M_signed_L163 K19 Qr x1 x2 x5 h) : xb_am l D A σ 4 MC MS h0 (fun v h => ∃ r, v = some (.long r) ∧ Qr r h) (fun _ _ => False) y_M_signed.cls y_M_signed.name b_M_signed 9 ([] : List ExceptionTableEntry) (some .long) 163 [(1, .int x1), (2, .long x2), (5, .int x5)] [] h 0 0 := by
  unfold w_M_signed_L163 at hw
  intro p e s m args below meth c hC H locs ls k n hE hl hR hS hk hn
  obtain ⟨hx, hb, hown, hlocks, htab, hml, hr, hB, hA, hnm⟩ := id hC
  have hts := hB.1.1.at args
  refine lv_iconst (v := 0) hx hb (xb_d D_M_signed 82 rfl) (by decide) ?_
  exact am_M_signed_L164 l hfl D A σ MC MS h0 Qr K19 hK19 x1 x2 x5 0 h hw p e s m args below meth c hC H locs ls k n hE (lv_sub hl [0, 1, 2] rfl) hR hS (by omega) (by omega)

set_option maxHeartbeats 4000000 in
set_option maxRecDepth 100000 in
theorem am_M_signed_L112 (l : Launch) (hfl : l.flags = pinnedFlags ++ [noTraceFlag]) (D : va_G) (A : Nat → Prop) (σ MC MS : Nat) (h0 : xb_H) (Qr : Int64 → xb_H → Prop) (K19 : Nat → Int32 → Int64 → Int32 → Int32 → xb_H → Prop) (hK19 : ∀ (x0 : Nat) (x1 : Int32) (x2 : Int64) (x4 : Int32) (x5 : Int32) (h : xb_H), K19 x0 x1 x2 x4 x5 h → xb_am l D A σ 4 MC MS h0 (fun v h => ∃ r, v = some (.long r) ∧ Qr r h) (fun _ _ => False) y_M_signed.cls y_M_signed.name b_M_signed 9 ([] : List ExceptionTableEntry) (some .long) 19 [(0, .ref x0), (1, .int x1), (2, .long x2), (4, .int x4), (5, .int x5)] [] h 0 0) (x0 : Nat) (x1 : Int32) (x2 : Int64) (x4 : Int32) (x5 : Int32) (x6 : Int32) (h : xb_H) (hw : w_M_signed_L112 K19 Qr x0 x1 x2 x4 x5 x6 h) : xb_am l D A σ 4 MC MS h0 (fun v h => ∃ r, v = some (.long r) ∧ Qr r h) (fun _ _ => False) y_M_signed.cls y_M_signed.name b_M_signed 9 ([] : List ExceptionTableEntry) (some .long) 112 [(0, .ref x0), (1, .int x1), (2, .long x2), (4, .int x4), (5, .int x5), (6, .int x6)] [] h 0 0 := by
  unfold w_M_signed_L112 at hw
  intro p e s m args below meth c hC H locs ls k n hE hl hR hS hk hn
  obtain ⟨hx, hb, hown, hlocks, htab, hml, hr, hB, hA, hnm⟩ := id hC
  have hts := hB.1.1.at args
  refine lv_aload_n hx hb (xb_d D_M_signed 54 rfl) rfl (lv_at hl 0 rfl) ?_
  obtain ⟨hk1, hw⟩ := hw
  refine xb_getI (C := R_M) (T := F_M) (N := 97) hx hb 8 17 hts fin_M hown hR hk1 (by decide) rfl (by decide) rfl (hts _ m_ff69da61) (fun _ h9 => h9) (xb_d D_M_signed 55 rfl) ?_
  refine lv_if_eq (tgt := 121) hx hb (xb_d D_M_signed 56 rfl) rfl (fun hc2 => ?_) (fun hc2 => ?_)
  · have hw := hw.1 hc2
    refine lv_lload_n hx hb (xb_d D_M_signed 59 rfl) rfl (lv_at hl 2 rfl) ?_
    refine lv_iload hx hb (xb_d D_M_signed 60 rfl) (lv_at hl 5 rfl) ?_
    refine lv_bipush (v := 127) hx hb (xb_d D_M_signed 61 rfl) (by decide) ?_
    refine lv_iand hx hb (xb_d D_M_signed 62 rfl) ?_
    refine lv_i2l hx hb (xb_d D_M_signed 63 rfl) rfl ?_
    refine lv_bipush (v := 7) hx hb (xb_d D_M_signed 64 rfl) (by decide) ?_
    refine lv_iload hx hb (xb_d D_M_signed 65 rfl) (lv_at hl 4 rfl) ?_
    refine lv_imul hx hb (xb_d D_M_signed 66 rfl) ?_
    refine lv_lshl (v := (xb_lshl (Int32.toInt64 (x6 &&& 127)) (7 * x5))) hx hb (xb_d D_M_signed 67 rfl) rfl ?_
    refine lv_lor hx hb (xb_d D_M_signed 68 rfl) ?_
    obtain ⟨v3, ev3⟩ : ∃ x : Int64, x = (x2 ||| (xb_lshl (Int32.toInt64 (x6 &&& 127)) (7 * x5))) := ⟨_, rfl⟩
    have hw := hw v3 ev3
    refine xt_numl (y := v3) ev3.symm ?_
    refine lv_lstore_n hx hb (xb_d D_M_signed 69 rfl) rfl hl (by decide) rfl (fun ls hl => ?_)
    have hl : lv_has ls 9 [(2, .long v3), (0, .ref x0), (1, .int x1), (4, .int x4), (5, .int x5), (6, .int x6)] := hl
    refine lv_iload hx hb (xb_d D_M_signed 70 rfl) (lv_at hl 5 rfl) ?_
    refine lv_sipush (v := 128) hx hb (xb_d D_M_signed 71 rfl) (by decide) ?_
    refine lv_icmp_ge (tgt := 203) hx hb (xb_d D_M_signed 72 rfl) rfl (fun hc4 => ?_) (fun hc4 => ?_)
    · have hw := hw.1 hc4
      refine lv_iinc (v := (x5 + 1)) (k := 4) hx hb (xb_d D_M_signed 107 rfl) hl rfl (by first | rfl | decide) (by decide) rfl (fun ls hl => ?_)
      have hl : lv_has ls 9 [(5, .int (x5 + 1)), (2, .long v3), (0, .ref x0), (1, .int x1), (4, .int x4), (6, .int x6)] := hl
      refine lv_goto (tgt := 19) hx hb (xb_d D_M_signed 108 rfl) rfl ?_
      exact hK19 x0 x1 v3 x4 (x5 + 1) h hw p e s m args below meth c hC H locs ls k n hE (lv_sub hl [2, 3, 1, 4, 0] rfl) hR hS (by omega) (by omega)
    · have hw := hw.2 hc4
      refine lv_iload hx hb (xb_d D_M_signed 73 rfl) (lv_at hl 4 rfl) ?_
      refine lv_iload hx hb (xb_d D_M_signed 74 rfl) (lv_at hl 3 rfl) ?_
      refine lv_icmp_ge (tgt := 163) hx hb (xb_d D_M_signed 75 rfl) rfl (fun hc5 => ?_) (fun hc5 => ?_)
      · have hw := hw.1 hc5
        exact am_M_signed_L163 l hfl D A σ MC MS h0 Qr K19 hK19 x1 v3 x5 h hw p e s m args below meth c hC H locs ls k n hE (lv_sub hl [2, 0, 4] rfl) hR hS (by omega) (by omega)
      · have hw := hw.2 hc5
        refine lv_iload hx hb (xb_d D_M_signed 76 rfl) (lv_at hl 5 rfl) ?_
        refine lv_bipush (v := 64) hx hb (xb_d D_M_signed 77 rfl) (by decide) ?_
        refine lv_iand hx hb (xb_d D_M_signed 78 rfl) ?_
        refine lv_if_eq (tgt := 163) hx hb (xb_d D_M_signed 79 rfl) rfl (fun hc6 => ?_) (fun hc6 => ?_)
        · have hw := hw.1 hc6
          exact am_M_signed_L163 l hfl D A σ MC MS h0 Qr K19 hK19 x1 v3 x5 h hw p e s m args below meth c hC H locs ls k n hE (lv_sub hl [2, 0, 4] rfl) hR hS (by omega) (by omega)
        · have hw := hw.2 hc6
          refine lv_iconst (v := 1) hx hb (xb_d D_M_signed 80 rfl) (by decide) ?_
          refine lv_goto (tgt := 164) hx hb (xb_d D_M_signed 81 rfl) rfl ?_
          exact am_M_signed_L164 l hfl D A σ MC MS h0 Qr K19 hK19 x1 v3 x5 1 h hw p e s m args below meth c hC H locs ls k n hE (lv_sub hl [2, 0, 4] rfl) hR hS (by omega) (by omega)
  · have hw := hw.2 hc2
    refine lv_lconst (v := 0) hx hb (xb_d D_M_signed 57 rfl) (by decide) ?_
    exact xb_lret hx hb hr hlocks (show k ≤ MC by omega) (show n ≤ MS by omega) hE hR hS (xb_d D_M_signed 58 rfl) hw

set_option maxHeartbeats 4000000 in
set_option maxRecDepth 100000 in
theorem am_M_signed_L87 (l : Launch) (hfl : l.flags = pinnedFlags ++ [noTraceFlag]) (D : va_G) (A : Nat → Prop) (σ MC MS : Nat) (h0 : xb_H) (Qr : Int64 → xb_H → Prop) (K19 : Nat → Int32 → Int64 → Int32 → Int32 → xb_H → Prop) (hK19 : ∀ (x0 : Nat) (x1 : Int32) (x2 : Int64) (x4 : Int32) (x5 : Int32) (h : xb_H), K19 x0 x1 x2 x4 x5 h → xb_am l D A σ 4 MC MS h0 (fun v h => ∃ r, v = some (.long r) ∧ Qr r h) (fun _ _ => False) y_M_signed.cls y_M_signed.name b_M_signed 9 ([] : List ExceptionTableEntry) (some .long) 19 [(0, .ref x0), (1, .int x1), (2, .long x2), (4, .int x4), (5, .int x5)] [] h 0 0) (x0 : Nat) (x1 : Int32) (x2 : Int64) (x4 : Int32) (x5 : Int32) (x6 : Int32) (y0 : Int32) (h : xb_H) (hw : w_M_signed_L87 K19 Qr x0 x1 x2 x4 x5 x6 y0 h) : xb_am l D A σ 4 MC MS h0 (fun v h => ∃ r, v = some (.long r) ∧ Qr r h) (fun _ _ => False) y_M_signed.cls y_M_signed.name b_M_signed 9 ([] : List ExceptionTableEntry) (some .long) 87 [(0, .ref x0), (1, .int x1), (2, .long x2), (4, .int x4), (5, .int x5), (6, .int x6)] [.int y0] h 0 0 := by
  unfold w_M_signed_L87 at hw
  intro p e s m args below meth c hC H locs ls k n hE hl hR hS hk hn
  obtain ⟨hx, hb, hown, hlocks, htab, hml, hr, hB, hA, hnm⟩ := id hC
  have hts := hB.1.1.at args
  refine lv_istore hx hb (xb_d D_M_signed 41 rfl) hl (by decide) rfl (fun ls hl => ?_)
  have hl : lv_has ls 9 [(7, .int y0), (0, .ref x0), (1, .int x1), (2, .long x2), (4, .int x4), (5, .int x5), (6, .int x6)] := hl
  refine lv_aload_n hx hb (xb_d D_M_signed 42 rfl) rfl (lv_at hl 1 rfl) ?_
  obtain ⟨hk1, hw⟩ := hw
  refine xb_getI (C := R_M) (T := F_M) (N := 97) hx hb 8 17 hts fin_M hown hR hk1 (by decide) rfl (by decide) rfl (hts _ m_ff69da61) (fun _ h9 => h9) (xb_d D_M_signed 43 rfl) ?_
  refine lv_if_ne (tgt := 112) hx hb (xb_d D_M_signed 44 rfl) rfl (fun hc2 => ?_) (fun hc2 => ?_)
  · have hw := hw.1 hc2
    exact am_M_signed_L112 l hfl D A σ MC MS h0 Qr K19 hK19 x0 x1 x2 x4 x5 x6 h hw p e s m args below meth c hC H locs ls k n hE (lv_sub hl [1, 2, 3, 4, 5, 6] rfl) hR hS (by omega) (by omega)
  · have hw := hw.2 hc2
    refine lv_iload hx hb (xb_d D_M_signed 45 rfl) (lv_at hl 0 rfl) ?_
    refine lv_if_ne (tgt := 112) hx hb (xb_d D_M_signed 46 rfl) rfl (fun hc3 => ?_) (fun hc3 => ?_)
    · have hw := hw.1 hc3
      exact am_M_signed_L112 l hfl D A σ MC MS h0 Qr K19 hK19 x0 x1 x2 x4 x5 x6 h hw p e s m args below meth c hC H locs ls k n hE (lv_sub hl [1, 2, 3, 4, 5, 6] rfl) hR hS (by omega) (by omega)
    · have hw := hw.2 hc3
      refine lv_aload_n hx hb (xb_d D_M_signed 47 rfl) rfl (lv_at hl 1 rfl) ?_
      refine lv_iconst (v := 3) hx hb (xb_d D_M_signed 48 rfl) (by decide) ?_
      refine lv_aload_n hx hb (xb_d D_M_signed 49 rfl) rfl (lv_at hl 1 rfl) ?_
      refine xb_getI (C := R_M) (T := F_M) (N := 97) hx hb 8 15 hts fin_M hown hR hk1 (by decide) rfl (by decide) rfl (hts _ m_6c2d27ad) (fun _ h9 => h9) (xb_d D_M_signed 50 rfl) ?_
      refine lv_iconst (v := 1) hx hb (xb_d D_M_signed 51 rfl) (by decide) ?_
      refine lv_isub hx hb (xb_d D_M_signed 52 rfl) ?_
      refine xb_call (D := D) (A := A) (σ := σ) (h := h) (d := 2) (mc := 0) (ms := 0) (maxL := 3) (rest := []) (av := [.ref x0, .int 3, .int ((xb_i h x0 15) - 1)]) (fun T hT X => by obtain ⟨cb, r1, r2, r3⟩ := xb_recv (ci := 8) hR rfl hk1 (by decide); exact xt_invV X hx hown (hts _ m_939052ad) (hts _ m_29cc8c73) (hts _ m_3b1ac7ab) (xt_sigOf (hts _ m_8f062ecd)) nm_M_fail (by rw [hT]; exact r1) r2 r3 (g := F0 m 109 ls [.int ((xb_i h x0 15) - 1), .int 3, .ref x0]) rfl (argsL := [.int 3, .int ((xb_i h x0 15) - 1)]) (rest := []) rfl rfl (by rw [hb]; exact (xb_d D_M_signed 53 rfl))) (ok_M_fail l hfl D A σ x0 3 ((xb_i h x0 15) - 1) h _ hw) (hml.trans hl.1.symm) (by rw [hb]; exact (xb_d D_M_signed 53 rfl)) (Nat.le_of_ble_eq_true rfl) (Nat.le_of_ble_eq_true rfl) (Nat.le_of_ble_eq_true rfl) (show k + 0 ≤ MC by omega) (show n + 0 ≤ MS by omega) (xt_w1 hB.1 m_8f062ecd) (xt_cdOf hB.1 m_8f062ecd) (hts _ m_d5ed7bed) hB hR hS hA (fun vv h4 H locs hq hEh4 hR hS => ?_) (fun XX ax h4 H locs hq hEh4 hex hR hS => ?_)
      · obtain ⟨rfl, hw⟩ := hq
        have hw := hw hEh4
        have hE := hE.tr hEh4
        refine W.eq (g2 := F0 m 112 ls []) rfl ?_
        exact am_M_signed_L112 l hfl D A σ MC MS h0 Qr K19 hK19 x0 x1 x2 x4 x5 x6 h4 hw p e s m args below meth c hC H locs ls k n hE (lv_sub hl [1, 2, 3, 4, 5, 6] rfl) hR hS (by omega) (by omega)
      · exact False.elim hq

set_option maxHeartbeats 4000000 in
set_option maxRecDepth 100000 in
theorem am_M_signed_L86 (l : Launch) (hfl : l.flags = pinnedFlags ++ [noTraceFlag]) (D : va_G) (A : Nat → Prop) (σ MC MS : Nat) (h0 : xb_H) (Qr : Int64 → xb_H → Prop) (K19 : Nat → Int32 → Int64 → Int32 → Int32 → xb_H → Prop) (hK19 : ∀ (x0 : Nat) (x1 : Int32) (x2 : Int64) (x4 : Int32) (x5 : Int32) (h : xb_H), K19 x0 x1 x2 x4 x5 h → xb_am l D A σ 4 MC MS h0 (fun v h => ∃ r, v = some (.long r) ∧ Qr r h) (fun _ _ => False) y_M_signed.cls y_M_signed.name b_M_signed 9 ([] : List ExceptionTableEntry) (some .long) 19 [(0, .ref x0), (1, .int x1), (2, .long x2), (4, .int x4), (5, .int x5)] [] h 0 0) (x0 : Nat) (x1 : Int32) (x2 : Int64) (x4 : Int32) (x5 : Int32) (x6 : Int32) (h : xb_H) (hw : w_M_signed_L86 K19 Qr x0 x1 x2 x4 x5 x6 h) : xb_am l D A σ 4 MC MS h0 (fun v h => ∃ r, v = some (.long r) ∧ Qr r h) (fun _ _ => False) y_M_signed.cls y_M_signed.name b_M_signed 9 ([] : List ExceptionTableEntry) (some .long) 86 [(0, .ref x0), (1, .int x1), (2, .long x2), (4, .int x4), (5, .int x5), (6, .int x6)] [] h 0 0 := by
  unfold w_M_signed_L86 at hw
  intro p e s m args below meth c hC H locs ls k n hE hl hR hS hk hn
  obtain ⟨hx, hb, hown, hlocks, htab, hml, hr, hB, hA, hnm⟩ := id hC
  have hts := hB.1.1.at args
  refine lv_iconst (v := 0) hx hb (xb_d D_M_signed 40 rfl) (by decide) ?_
  exact am_M_signed_L87 l hfl D A σ MC MS h0 Qr K19 hK19 x0 x1 x2 x4 x5 x6 0 h hw p e s m args below meth c hC H locs ls k n hE (lv_sub hl [0, 1, 2, 3, 4, 5] rfl) hR hS (by omega) (by omega)

set_option maxHeartbeats 4000000 in
set_option maxRecDepth 100000 in
theorem am_M_signed_L82 (l : Launch) (hfl : l.flags = pinnedFlags ++ [noTraceFlag]) (D : va_G) (A : Nat → Prop) (σ MC MS : Nat) (h0 : xb_H) (Qr : Int64 → xb_H → Prop) (K19 : Nat → Int32 → Int64 → Int32 → Int32 → xb_H → Prop) (hK19 : ∀ (x0 : Nat) (x1 : Int32) (x2 : Int64) (x4 : Int32) (x5 : Int32) (h : xb_H), K19 x0 x1 x2 x4 x5 h → xb_am l D A σ 4 MC MS h0 (fun v h => ∃ r, v = some (.long r) ∧ Qr r h) (fun _ _ => False) y_M_signed.cls y_M_signed.name b_M_signed 9 ([] : List ExceptionTableEntry) (some .long) 19 [(0, .ref x0), (1, .int x1), (2, .long x2), (4, .int x4), (5, .int x5)] [] h 0 0) (x0 : Nat) (x1 : Int32) (x2 : Int64) (x4 : Int32) (x5 : Int32) (x6 : Int32) (h : xb_H) (hw : w_M_signed_L82 K19 Qr x0 x1 x2 x4 x5 x6 h) : xb_am l D A σ 4 MC MS h0 (fun v h => ∃ r, v = some (.long r) ∧ Qr r h) (fun _ _ => False) y_M_signed.cls y_M_signed.name b_M_signed 9 ([] : List ExceptionTableEntry) (some .long) 82 [(0, .ref x0), (1, .int x1), (2, .long x2), (4, .int x4), (5, .int x5), (6, .int x6)] [] h 0 0 := by
  unfold w_M_signed_L82 at hw
  intro p e s m args below meth c hC H locs ls k n hE hl hR hS hk hn
  obtain ⟨hx, hb, hown, hlocks, htab, hml, hr, hB, hA, hnm⟩ := id hC
  have hts := hB.1.1.at args
  refine lv_iconst (v := 1) hx hb (xb_d D_M_signed 38 rfl) (by decide) ?_
  refine lv_goto (tgt := 87) hx hb (xb_d D_M_signed 39 rfl) rfl ?_
  exact am_M_signed_L87 l hfl D A σ MC MS h0 Qr K19 hK19 x0 x1 x2 x4 x5 x6 1 h hw p e s m args below meth c hC H locs ls k n hE (lv_sub hl [0, 1, 2, 3, 4, 5] rfl) hR hS (by omega) (by omega)

set_option maxHeartbeats 4000000 in
set_option maxRecDepth 100000 in
theorem am_M_signed_L19 (l : Launch) (hfl : l.flags = pinnedFlags ++ [noTraceFlag]) (D : va_G) (A : Nat → Prop) (σ MC MS : Nat) (h0 : xb_H) (Qr : Int64 → xb_H → Prop) (n9 : Nat) : ∀ (x0 : Nat) (x1 : Int32) (x2 : Int64) (x4 : Int32) (x5 : Int32) (h : xb_H), w_M_signed_L19 Qr n9 x0 x1 x2 x4 x5 h → xb_am l D A σ 4 MC MS h0 (fun v h => ∃ r, v = some (.long r) ∧ Qr r h) (fun _ _ => False) y_M_signed.cls y_M_signed.name b_M_signed 9 ([] : List ExceptionTableEntry) (some .long) 19 [(0, .ref x0), (1, .int x1), (2, .long x2), (4, .int x4), (5, .int x5)] [] h 0 0 := by
  induction n9 with
  | zero => intro x0 x1 x2 x4 x5 h hw; exact False.elim hw
  | succ n9 ih =>
    intro x0 x1 x2 x4 x5 h hw
    unfold w_M_signed_L19 at hw
    intro p e s m args below meth c hC H locs ls k n hE hl hR hS hk hn
    obtain ⟨hx, hb, hown, hlocks, htab, hml, hr, hB, hA, hnm⟩ := id hC
    have hts := hB.1.1.at args
    refine lv_iload hx hb (xb_d D_M_signed 11 rfl) (lv_at hl 4 rfl) ?_
    refine lv_iload hx hb (xb_d D_M_signed 12 rfl) (lv_at hl 3 rfl) ?_
    refine lv_icmp_gt (tgt := 209) hx hb (xb_d D_M_signed 13 rfl) rfl (fun hc1 => ?_) (fun hc1 => ?_)
    · have hw := hw.1 hc1
      refine lv_lload_n hx hb (xb_d D_M_signed 109 rfl) rfl (lv_at hl 2 rfl) ?_
      exact xb_lret hx hb hr hlocks (show k ≤ MC by omega) (show n ≤ MS by omega) hE hR hS (xb_d D_M_signed 110 rfl) hw
    · have hw := hw.2 hc1
      refine lv_aload_n hx hb (xb_d D_M_signed 14 rfl) rfl (lv_at hl 0 rfl) ?_
      obtain ⟨hk2, hw⟩ := hw
      refine xb_call (D := D) (A := A) (σ := σ) (h := h) (d := 3) (mc := 0) (ms := 0) (maxL := 2) (rest := []) (av := [.ref x0]) (fun T hT X => by obtain ⟨cb, r1, r2, r3⟩ := xb_recv (ci := 8) hR rfl hk2 (by decide); exact xt_invV X hx hown (hts _ m_0e978570) (hts _ m_40099f98) (hts _ m_a7dbfd07) (xt_sigOf (hts _ m_0af1ec6a)) nm_M_next (by rw [hT]; exact r1) r2 r3 (g := F0 m 27 ls [.ref x0]) rfl (argsL := []) (rest := []) rfl rfl (by rw [hb]; exact (xb_d D_M_signed 15 rfl))) (ok_M_next l hfl D A σ x0 h _ hw) (hml.trans hl.1.symm) (by rw [hb]; exact (xb_d D_M_signed 15 rfl)) (Nat.le_of_ble_eq_true rfl) (Nat.le_of_ble_eq_true rfl) (Nat.le_of_ble_eq_true rfl) (show k + 0 ≤ MC by omega) (show n + 0 ≤ MS by omega) (xt_w1 hB.1 m_0af1ec6a) (xt_cdOf hB.1 m_0af1ec6a) (hts _ m_d5ed7bed) hB hR hS hA (fun vv h3 H locs hq hEh3 hR hS => ?_) (fun XX ax h3 H locs hq hEh3 hex hR hS => ?_)
      · obtain ⟨r4, rfl, hw⟩ := hq
        have hw := hw hEh3
        have hE := hE.tr hEh3
        refine W.eq (g2 := F0 m 30 ls [.int r4]) rfl ?_
        refine lv_istore hx hb (xb_d D_M_signed 16 rfl) hl (by decide) rfl (fun ls hl => ?_)
        have hl : lv_has ls 9 [(6, .int r4), (0, .ref x0), (1, .int x1), (2, .long x2), (4, .int x4), (5, .int x5)] := hl
        refine lv_iload hx hb (xb_d D_M_signed 17 rfl) (lv_at hl 5 rfl) ?_
        refine lv_iload hx hb (xb_d D_M_signed 18 rfl) (lv_at hl 4 rfl) ?_
        refine lv_icmp_lt (tgt := 82) hx hb (xb_d D_M_signed 19 rfl) rfl (fun hc5 => ?_) (fun hc5 => ?_)
        · have hw := hw.1 hc5
          exact am_M_signed_L82 l hfl D A σ MC MS h0 Qr (w_M_signed_L19 Qr n9) ih x0 x1 x2 x4 x5 r4 h3 hw p e s m args below meth c hC H locs ls k n hE (lv_sub hl [1, 2, 3, 4, 5, 0] rfl) hR hS (by omega) (by omega)
        · have hw := hw.2 hc5
          refine lv_iload_n hx hb (xb_d D_M_signed 20 rfl) rfl (lv_at hl 2 rfl) ?_
          refine lv_bipush (v := 32) hx hb (xb_d D_M_signed 21 rfl) (by decide) ?_
          refine lv_icmp_ne (tgt := 70) hx hb (xb_d D_M_signed 22 rfl) rfl (fun hc6 => ?_) (fun hc6 => ?_)
          · have hw := hw.1 hc6
            refine lv_iload hx hb (xb_d D_M_signed 33 rfl) (lv_at hl 0 rfl) ?_
            refine lv_if_eq (tgt := 82) hx hb (xb_d D_M_signed 34 rfl) rfl (fun hc7 => ?_) (fun hc7 => ?_)
            · have hw := hw.1 hc7
              exact am_M_signed_L82 l hfl D A σ MC MS h0 Qr (w_M_signed_L19 Qr n9) ih x0 x1 x2 x4 x5 r4 h3 hw p e s m args below meth c hC H locs ls k n hE (lv_sub hl [1, 2, 3, 4, 5, 0] rfl) hR hS (by omega) (by omega)
            · have hw := hw.2 hc7
              refine lv_iload hx hb (xb_d D_M_signed 35 rfl) (lv_at hl 0 rfl) ?_
              refine lv_bipush (v := 127) hx hb (xb_d D_M_signed 36 rfl) (by decide) ?_
              refine lv_icmp_ne (tgt := 86) hx hb (xb_d D_M_signed 37 rfl) rfl (fun hc8 => ?_) (fun hc8 => ?_)
              · have hw := hw.1 hc8
                exact am_M_signed_L86 l hfl D A σ MC MS h0 Qr (w_M_signed_L19 Qr n9) ih x0 x1 x2 x4 x5 r4 h3 hw p e s m args below meth c hC H locs ls k n hE (lv_sub hl [1, 2, 3, 4, 5, 0] rfl) hR hS (by omega) (by omega)
              · have hw := hw.2 hc8
                exact am_M_signed_L82 l hfl D A σ MC MS h0 Qr (w_M_signed_L19 Qr n9) ih x0 x1 x2 x4 x5 r4 h3 hw p e s m args below meth c hC H locs ls k n hE (lv_sub hl [1, 2, 3, 4, 5, 0] rfl) hR hS (by omega) (by omega)
          · have hw := hw.2 hc6
            refine lv_iload hx hb (xb_d D_M_signed 23 rfl) (lv_at hl 0 rfl) ?_
            refine lv_bipush (v := 8) hx hb (xb_d D_M_signed 24 rfl) (by decide) ?_
            refine lv_icmp_lt (tgt := 82) hx hb (xb_d D_M_signed 25 rfl) rfl (fun hc9 => ?_) (fun hc9 => ?_)
            · have hw := hw.1 hc9
              exact am_M_signed_L82 l hfl D A σ MC MS h0 Qr (w_M_signed_L19 Qr n9) ih x0 x1 x2 x4 x5 r4 h3 hw p e s m args below meth c hC H locs ls k n hE (lv_sub hl [1, 2, 3, 4, 5, 0] rfl) hR hS (by omega) (by omega)
            · have hw := hw.2 hc9
              refine lv_iload hx hb (xb_d D_M_signed 26 rfl) (lv_at hl 0 rfl) ?_
              refine lv_bipush (v := 120) hx hb (xb_d D_M_signed 27 rfl) (by decide) ?_
              refine lv_icmp_lt (tgt := 86) hx hb (xb_d D_M_signed 28 rfl) rfl (fun hc10 => ?_) (fun hc10 => ?_)
              · have hw := hw.1 hc10
                exact am_M_signed_L86 l hfl D A σ MC MS h0 Qr (w_M_signed_L19 Qr n9) ih x0 x1 x2 x4 x5 r4 h3 hw p e s m args below meth c hC H locs ls k n hE (lv_sub hl [1, 2, 3, 4, 5, 0] rfl) hR hS (by omega) (by omega)
              · have hw := hw.2 hc10
                refine lv_iload hx hb (xb_d D_M_signed 29 rfl) (lv_at hl 0 rfl) ?_
                refine lv_sipush (v := 128) hx hb (xb_d D_M_signed 30 rfl) (by decide) ?_
                refine lv_icmp_ge (tgt := 86) hx hb (xb_d D_M_signed 31 rfl) rfl (fun hc11 => ?_) (fun hc11 => ?_)
                · have hw := hw.1 hc11
                  exact am_M_signed_L86 l hfl D A σ MC MS h0 Qr (w_M_signed_L19 Qr n9) ih x0 x1 x2 x4 x5 r4 h3 hw p e s m args below meth c hC H locs ls k n hE (lv_sub hl [1, 2, 3, 4, 5, 0] rfl) hR hS (by omega) (by omega)
                · have hw := hw.2 hc11
                  refine lv_goto (tgt := 82) hx hb (xb_d D_M_signed 32 rfl) rfl ?_
                  exact am_M_signed_L82 l hfl D A σ MC MS h0 Qr (w_M_signed_L19 Qr n9) ih x0 x1 x2 x4 x5 r4 h3 hw p e s m args below meth c hC H locs ls k n hE (lv_sub hl [1, 2, 3, 4, 5, 0] rfl) hR hS (by omega) (by omega)
      · exact False.elim hq

set_option maxHeartbeats 4000000 in
set_option maxRecDepth 100000 in
theorem am_M_signed_L14 (l : Launch) (hfl : l.flags = pinnedFlags ++ [noTraceFlag]) (D : va_G) (A : Nat → Prop) (σ MC MS : Nat) (h0 : xb_H) (Qr : Int64 → xb_H → Prop) (x0 : Nat) (x1 : Int32) (x2 : Int64) (y0 : Int32) (h : xb_H) (hw : w_M_signed_L14 Qr x0 x1 x2 y0 h) : xb_am l D A σ 4 MC MS h0 (fun v h => ∃ r, v = some (.long r) ∧ Qr r h) (fun _ _ => False) y_M_signed.cls y_M_signed.name b_M_signed 9 ([] : List ExceptionTableEntry) (some .long) 14 [(0, .ref x0), (1, .int x1), (2, .long x2)] [.int y0] h 0 0 := by
  unfold w_M_signed_L14 at hw
  intro p e s m args below meth c hC H locs ls k n hE hl hR hS hk hn
  obtain ⟨hx, hb, hown, hlocks, htab, hml, hr, hB, hA, hnm⟩ := id hC
  have hts := hB.1.1.at args
  refine lv_istore hx hb (xb_d D_M_signed 8 rfl) hl (by decide) rfl (fun ls hl => ?_)
  have hl : lv_has ls 9 [(4, .int y0), (0, .ref x0), (1, .int x1), (2, .long x2)] := hl
  refine lv_iconst (v := 0) hx hb (xb_d D_M_signed 9 rfl) (by decide) ?_
  refine lv_istore hx hb (xb_d D_M_signed 10 rfl) hl (by decide) rfl (fun ls hl => ?_)
  have hl : lv_has ls 9 [(5, .int 0), (4, .int y0), (0, .ref x0), (1, .int x1), (2, .long x2)] := hl
  obtain ⟨n8, hw⟩ := hw
  exact am_M_signed_L19 l hfl D A σ MC MS h0 Qr n8 x0 x1 x2 y0 0 h hw p e s m args below meth c hC H locs ls k n hE (lv_sub hl [2, 3, 4, 1, 0] rfl) hR hS (by omega) (by omega)

set_option maxHeartbeats 4000000 in
set_option maxRecDepth 100000 in
theorem ok_M_signed (l : Launch) (hfl : l.flags = pinnedFlags ++ [noTraceFlag]) (D : va_G) (A : Nat → Prop) (σ : Nat) (x0 : Nat) (x1 : Int32) (h : xb_H) (Qr : Int64 → xb_H → Prop) (hw : w_M_signed x0 x1 h Qr) : xt_Met l y_M_signed [.code y_M_signed b_M_signed 9 (some .long)] (xb_rm 4 0 0) (xb_Pc D A σ h [.ref x0, .int x1]) (xb_Qc D A h (fun v h => ∃ r, v = some (.long r) ∧ Qr r h) (fun _ _ => False)) 0 0 A := by
  refine xb_ofAm (cc := b_M_signed) (by decide) (Nat.le_of_ble_eq_true rfl) ?_
  unfold w_M_signed at hw
  show xb_am l D A σ 4 0 0 h (fun v h => ∃ r, v = some (.long r) ∧ Qr r h) (fun _ _ => False) y_M_signed.cls y_M_signed.name b_M_signed 9 ([] : List ExceptionTableEntry) (some .long) 0 [(0, .ref x0), (1, .int x1)] [] h 0 0
  obtain ⟨MC, hMC⟩ : ∃ x, x = 0 := ⟨_, rfl⟩
  obtain ⟨MS, hMS⟩ : ∃ x, x = 0 := ⟨_, rfl⟩
  rw [show xb_am l D A σ 4 0 0 = xb_am l D A σ 4 MC MS by rw [hMC, hMS]]
  obtain ⟨h0, hh0⟩ : ∃ x, x = h := ⟨_, rfl⟩
  rw [show xb_am l D A σ 4 MC MS h = xb_am l D A σ 4 MC MS h0 by rw [hh0]]
  intro p e s m args below meth c hC H locs ls k n hE hl hR hS hk hn
  obtain ⟨hx, hb, hown, hlocks, htab, hml, hr, hB, hA, hnm⟩ := id hC
  have hts := hB.1.1.at args
  refine lv_lconst (v := 0) hx hb (xb_d D_M_signed 0 rfl) (by decide) ?_
  refine lv_lstore_n hx hb (xb_d D_M_signed 1 rfl) rfl hl (by decide) rfl (fun ls hl => ?_)
  have hl : lv_has ls 9 [(2, .long 0), (0, .ref x0), (1, .int x1)] := hl
  refine lv_iload_n hx hb (xb_d D_M_signed 2 rfl) rfl (lv_at hl 2 rfl) ?_
  refine lv_bipush (v := 32) hx hb (xb_d D_M_signed 3 rfl) (by decide) ?_
  refine lv_icmp_ne (tgt := 12) hx hb (xb_d D_M_signed 4 rfl) rfl (fun hc1 => ?_) (fun hc1 => ?_)
  · have hw := hw.1 hc1
    refine lv_bipush (v := 9) hx hb (xb_d D_M_signed 7 rfl) (by decide) ?_
    exact am_M_signed_L14 l hfl D A σ MC MS h0 Qr x0 x1 0 9 h hw p e s m args below meth c hC H locs ls k n hE (lv_sub hl [1, 2, 0] rfl) hR hS (by omega) (by omega)
  · have hw := hw.2 hc1
    refine lv_iconst (v := 4) hx hb (xb_d D_M_signed 5 rfl) (by decide) ?_
    refine lv_goto (tgt := 14) hx hb (xb_d D_M_signed 6 rfl) rfl ?_
    exact am_M_signed_L14 l hfl D A σ MC MS h0 Qr x0 x1 0 4 h hw p e s m args below meth c hC H locs ls k n hE (lv_sub hl [1, 2, 0] rfl) hR hS (by omega) (by omega)

theorem m_4290bf91 : (.methodLink "StackHostModel" 402 y_M_take : Cond) ∈ xt_tbl := xt_in (xt_t11 (List.mem_of_getElem? (i := 173) (by decide +kernel))) (by decide +kernel)
theorem m_641dba55 : (.instanceMethod y_M_take : Cond) ∈ xt_tbl := xt_in (xt_t11 (List.mem_of_getElem? (i := 175) (by decide +kernel))) (by decide +kernel)
theorem m_286bb193 : (.selects "StackHostModel" y_M_take y_M_take : Cond) ∈ xt_tbl := xt_in (xt_v12 (q := (⟨"StackHostModel", "take", "(I)I"⟩, 97)) (List.mem_of_getElem? (i := 0) (by decide +kernel))) (by decide +kernel)
theorem m_8ef3c792 : (.code y_M_take b_M_take 3 (some .int) : Cond) ∈ xt_tbl := xt_in (xt_t11 (List.mem_of_getElem? (i := 176) (by decide +kernel))) (by decide +kernel)
theorem nm_M_take : xt_nm y_M_take 1 := ⟨by decide +kernel, by decide +kernel⟩
set_option maxRecDepth 100000 in
def T_M_takeResult : List (Nat × Instr × Nat) := [(0, .iload_n 1, 1), (1, .bipush 64, 2), (3, .if_icmp .eq 9, 3), (6, .aload_n 0, 1), (7, .iload_n 1, 1), (8, .invokevirtual 402, 3), (11, .pop, 1), (12, .return_, 1)]
theorem D_M_takeResult : ∀ q ∈ T_M_takeResult, decode b_M_takeResult q.1 = .ok (q.2.1, q.2.2) := by decide +kernel
def w_M_takeResult_L12 (Qr : xb_H → Prop) (h : xb_H) : Prop :=
    Qr h

def w_M_takeResult (x0 : Nat) (x1 : Int32) (h : xb_H) (Qr : xb_H → Prop) : Prop :=
    ((x1 = (64 : Int32) → w_M_takeResult_L12 Qr h) ∧ (¬ x1 = (64 : Int32) → xb_k h x0 = 9 ∧ w_M_take x0 x1 h (fun (r4 : Int32) (h3 : xb_H) => xb_ext h h3 → w_M_takeResult_L12 Qr h3)))

set_option maxHeartbeats 4000000 in
set_option maxRecDepth 100000 in
theorem am_M_takeResult_L12 (l : Launch) (hfl : l.flags = pinnedFlags ++ [noTraceFlag]) (D : va_G) (A : Nat → Prop) (σ MC MS : Nat) (h0 : xb_H) (Qr : xb_H → Prop) (h : xb_H) (hw : w_M_takeResult_L12 Qr h) : xb_am l D A σ 4 MC MS h0 (fun v h => v = none ∧ Qr h) (fun _ _ => False) y_M_takeResult.cls y_M_takeResult.name b_M_takeResult 2 ([] : List ExceptionTableEntry) none 12 [] [] h 0 0 := by
  unfold w_M_takeResult_L12 at hw
  intro p e s m args below meth c hC H locs ls k n hE hl hR hS hk hn
  obtain ⟨hx, hb, hown, hlocks, htab, hml, hr, hB, hA, hnm⟩ := id hC
  have hts := hB.1.1.at args
  exact xb_vret hx hb hr hlocks (show k ≤ MC by omega) (show n ≤ MS by omega) hE hR hS (xb_d D_M_takeResult 7 rfl) hw

set_option maxHeartbeats 4000000 in
set_option maxRecDepth 100000 in
theorem ok_M_takeResult (l : Launch) (hfl : l.flags = pinnedFlags ++ [noTraceFlag]) (D : va_G) (A : Nat → Prop) (σ : Nat) (x0 : Nat) (x1 : Int32) (h : xb_H) (Qr : xb_H → Prop) (hw : w_M_takeResult x0 x1 h Qr) : xt_Met l y_M_takeResult [.code y_M_takeResult b_M_takeResult 2 none] (xb_rm 4 0 0) (xb_Pc D A σ h [.ref x0, .int x1]) (xb_Qc D A h (fun v h => v = none ∧ Qr h) (fun _ _ => False)) 0 0 A := by
  refine xb_ofAm (cc := b_M_takeResult) (by decide) (Nat.le_of_ble_eq_true rfl) ?_
  unfold w_M_takeResult at hw
  show xb_am l D A σ 4 0 0 h (fun v h => v = none ∧ Qr h) (fun _ _ => False) y_M_takeResult.cls y_M_takeResult.name b_M_takeResult 2 ([] : List ExceptionTableEntry) none 0 [(0, .ref x0), (1, .int x1)] [] h 0 0
  obtain ⟨MC, hMC⟩ : ∃ x, x = 0 := ⟨_, rfl⟩
  obtain ⟨MS, hMS⟩ : ∃ x, x = 0 := ⟨_, rfl⟩
  rw [show xb_am l D A σ 4 0 0 = xb_am l D A σ 4 MC MS by rw [hMC, hMS]]
  obtain ⟨h0, hh0⟩ : ∃ x, x = h := ⟨_, rfl⟩
  rw [show xb_am l D A σ 4 MC MS h = xb_am l D A σ 4 MC MS h0 by rw [hh0]]
  intro p e s m args below meth c hC H locs ls k n hE hl hR hS hk hn
  obtain ⟨hx, hb, hown, hlocks, htab, hml, hr, hB, hA, hnm⟩ := id hC
  have hts := hB.1.1.at args
  refine lv_iload_n hx hb (xb_d D_M_takeResult 0 rfl) rfl (lv_at hl 1 rfl) ?_
  refine lv_bipush (v := 64) hx hb (xb_d D_M_takeResult 1 rfl) (by decide) ?_
  refine lv_icmp_eq (tgt := 12) hx hb (xb_d D_M_takeResult 2 rfl) rfl (fun hc1 => ?_) (fun hc1 => ?_)
  · have hw := hw.1 hc1
    exact am_M_takeResult_L12 l hfl D A σ MC MS h0 Qr h hw p e s m args below meth c hC H locs ls k n hE (lv_sub hl [] rfl) hR hS (by omega) (by omega)
  · have hw := hw.2 hc1
    refine lv_aload_n hx hb (xb_d D_M_takeResult 3 rfl) rfl (lv_at hl 0 rfl) ?_
    refine lv_iload_n hx hb (xb_d D_M_takeResult 4 rfl) rfl (lv_at hl 1 rfl) ?_
    obtain ⟨hk2, hw⟩ := hw
    refine xb_call (D := D) (A := A) (σ := σ) (h := h) (d := 3) (mc := 0) (ms := 0) (maxL := 3) (rest := []) (av := [.ref x0, .int x1]) (fun T hT X => by obtain ⟨cb, r1, r2, r3⟩ := xb_recv (ci := 8) hR rfl hk2 (by decide); exact xt_invV X hx hown (hts _ m_4290bf91) (hts _ m_641dba55) (hts _ m_286bb193) (xt_sigOf (hts _ m_8ef3c792)) nm_M_take (by rw [hT]; exact r1) r2 r3 (g := F0 m 8 ls [.int x1, .ref x0]) rfl (argsL := [.int x1]) (rest := []) rfl rfl (by rw [hb]; exact (xb_d D_M_takeResult 5 rfl))) (ok_M_take l hfl D A σ x0 x1 h _ hw) (hml.trans hl.1.symm) (by rw [hb]; exact (xb_d D_M_takeResult 5 rfl)) (Nat.le_of_ble_eq_true rfl) (Nat.le_of_ble_eq_true rfl) (Nat.le_of_ble_eq_true rfl) (show k + 0 ≤ MC by omega) (show n + 0 ≤ MS by omega) (xt_w1 hB.1 m_8ef3c792) (xt_cdOf hB.1 m_8ef3c792) (hts _ m_d5ed7bed) hB hR hS hA (fun vv h3 H locs hq hEh3 hR hS => ?_) (fun XX ax h3 H locs hq hEh3 hex hR hS => ?_)
    · obtain ⟨r4, rfl, hw⟩ := hq
      have hw := hw hEh3
      have hE := hE.tr hEh3
      refine W.eq (g2 := F0 m 11 ls [.int r4]) rfl ?_
      refine lv_pop hx hb (xb_d D_M_takeResult 6 rfl) rfl ?_
      exact am_M_takeResult_L12 l hfl D A σ MC MS h0 Qr h3 hw p e s m args below meth c hC H locs ls k n hE (lv_sub hl [] rfl) hR hS (by omega) (by omega)
    · exact False.elim hq

theorem m_7755cbcf : (.methodLink "StackHostModel" 230 y_M_isType : Cond) ∈ xt_tbl := xt_in (xt_t11 (List.mem_of_getElem? (i := 17) (by decide +kernel))) (by decide +kernel)
theorem m_f0ea648f : (.static y_M_isType : Cond) ∈ xt_tbl := xt_in (xt_t11 (List.mem_of_getElem? (i := 18) (by decide +kernel))) (by decide +kernel)
theorem m_3354b7ba : (.code y_M_isType b_M_isType 1 (some .boolean) : Cond) ∈ xt_tbl := xt_in (xt_t11 (List.mem_of_getElem? (i := 19) (by decide +kernel))) (by decide +kernel)
theorem nm_M_isType : xt_nm y_M_isType 1 := ⟨by decide +kernel, by decide +kernel⟩
set_option maxRecDepth 100000 in
def T_M_valueType : List (Nat × Instr × Nat) := [(0, .aload_n 0, 1), (1, .invokevirtual 212, 3), (4, .istore_n 1, 1), (5, .aload_n 0, 1), (6, .getfield 193, 3), (9, .ifCond .ne 21, 3), (12, .iload_n 1, 1), (13, .invokestatic 230, 3), (16, .ifCond .ne 14, 3), (19, .aload_n 0, 1), (20, .iconst 5, 1), (21, .aload_n 0, 1), (22, .getfield 202, 3), (25, .iconst 1, 1), (26, .isub, 1), (27, .invokevirtual 208, 3), (30, .return_, 1)]
theorem D_M_valueType : ∀ q ∈ T_M_valueType, decode b_M_valueType q.1 = .ok (q.2.1, q.2.2) := by decide +kernel
def w_M_valueType_L30 (Qr : xb_H → Prop) (h : xb_H) : Prop :=
    Qr h

def w_M_valueType (x0 : Nat) (h : xb_H) (Qr : xb_H → Prop) : Prop :=
    xb_k h x0 = 9 ∧ w_M_next x0 h (fun (r3 : Int32) (h2 : xb_H) => xb_ext h h2 → ((¬ (xb_i h2 x0 17) = (0 : Int32) → w_M_valueType_L30 Qr h2) ∧ ((xb_i h2 x0 17) = (0 : Int32) → w_M_isType r3 h2 (fun (r6 : Int32) (h5 : xb_H) => xb_ext h2 h5 → ((¬ r6 = (0 : Int32) → w_M_valueType_L30 Qr h5) ∧ (r6 = (0 : Int32) → w_M_fail x0 5 ((xb_i h5 x0 15) - 1) h5 (fun (h8 : xb_H) => xb_ext h5 h8 → w_M_valueType_L30 Qr h8)))))))

set_option maxHeartbeats 4000000 in
set_option maxRecDepth 100000 in
theorem am_M_valueType_L30 (l : Launch) (hfl : l.flags = pinnedFlags ++ [noTraceFlag]) (D : va_G) (A : Nat → Prop) (σ MC MS : Nat) (h0 : xb_H) (Qr : xb_H → Prop) (h : xb_H) (hw : w_M_valueType_L30 Qr h) : xb_am l D A σ 4 MC MS h0 (fun v h => v = none ∧ Qr h) (fun _ _ => False) y_M_valueType.cls y_M_valueType.name b_M_valueType 2 ([] : List ExceptionTableEntry) none 30 [] [] h 0 0 := by
  unfold w_M_valueType_L30 at hw
  intro p e s m args below meth c hC H locs ls k n hE hl hR hS hk hn
  obtain ⟨hx, hb, hown, hlocks, htab, hml, hr, hB, hA, hnm⟩ := id hC
  have hts := hB.1.1.at args
  exact xb_vret hx hb hr hlocks (show k ≤ MC by omega) (show n ≤ MS by omega) hE hR hS (xb_d D_M_valueType 16 rfl) hw

set_option maxHeartbeats 4000000 in
set_option maxRecDepth 100000 in
theorem ok_M_valueType (l : Launch) (hfl : l.flags = pinnedFlags ++ [noTraceFlag]) (D : va_G) (A : Nat → Prop) (σ : Nat) (x0 : Nat) (h : xb_H) (Qr : xb_H → Prop) (hw : w_M_valueType x0 h Qr) : xt_Met l y_M_valueType [.code y_M_valueType b_M_valueType 2 none] (xb_rm 4 0 0) (xb_Pc D A σ h [.ref x0]) (xb_Qc D A h (fun v h => v = none ∧ Qr h) (fun _ _ => False)) 0 0 A := by
  refine xb_ofAm (cc := b_M_valueType) (by decide) (Nat.le_of_ble_eq_true rfl) ?_
  unfold w_M_valueType at hw
  show xb_am l D A σ 4 0 0 h (fun v h => v = none ∧ Qr h) (fun _ _ => False) y_M_valueType.cls y_M_valueType.name b_M_valueType 2 ([] : List ExceptionTableEntry) none 0 [(0, .ref x0)] [] h 0 0
  obtain ⟨MC, hMC⟩ : ∃ x, x = 0 := ⟨_, rfl⟩
  obtain ⟨MS, hMS⟩ : ∃ x, x = 0 := ⟨_, rfl⟩
  rw [show xb_am l D A σ 4 0 0 = xb_am l D A σ 4 MC MS by rw [hMC, hMS]]
  obtain ⟨h0, hh0⟩ : ∃ x, x = h := ⟨_, rfl⟩
  rw [show xb_am l D A σ 4 MC MS h = xb_am l D A σ 4 MC MS h0 by rw [hh0]]
  intro p e s m args below meth c hC H locs ls k n hE hl hR hS hk hn
  obtain ⟨hx, hb, hown, hlocks, htab, hml, hr, hB, hA, hnm⟩ := id hC
  have hts := hB.1.1.at args
  refine lv_aload_n hx hb (xb_d D_M_valueType 0 rfl) rfl (lv_at hl 0 rfl) ?_
  obtain ⟨hk1, hw⟩ := hw
  refine xb_call (D := D) (A := A) (σ := σ) (h := h) (d := 3) (mc := 0) (ms := 0) (maxL := 2) (rest := []) (av := [.ref x0]) (fun T hT X => by obtain ⟨cb, r1, r2, r3⟩ := xb_recv (ci := 8) hR rfl hk1 (by decide); exact xt_invV X hx hown (hts _ m_0e978570) (hts _ m_40099f98) (hts _ m_a7dbfd07) (xt_sigOf (hts _ m_0af1ec6a)) nm_M_next (by rw [hT]; exact r1) r2 r3 (g := F0 m 1 ls [.ref x0]) rfl (argsL := []) (rest := []) rfl rfl (by rw [hb]; exact (xb_d D_M_valueType 1 rfl))) (ok_M_next l hfl D A σ x0 h _ hw) (hml.trans hl.1.symm) (by rw [hb]; exact (xb_d D_M_valueType 1 rfl)) (Nat.le_of_ble_eq_true rfl) (Nat.le_of_ble_eq_true rfl) (Nat.le_of_ble_eq_true rfl) (show k + 0 ≤ MC by omega) (show n + 0 ≤ MS by omega) (xt_w1 hB.1 m_0af1ec6a) (xt_cdOf hB.1 m_0af1ec6a) (hts _ m_d5ed7bed) hB hR hS hA (fun vv h2 H locs hq hEh2 hR hS => ?_) (fun XX ax h2 H locs hq hEh2 hex hR hS => ?_)
  · obtain ⟨r3, rfl, hw⟩ := hq
    have hw := hw hEh2
    have hE := hE.tr hEh2
    refine W.eq (g2 := F0 m 4 ls [.int r3]) rfl ?_
    refine lv_istore_n hx hb (xb_d D_M_valueType 2 rfl) rfl hl (by decide) rfl (fun ls hl => ?_)
    have hl : lv_has ls 2 [(1, .int r3), (0, .ref x0)] := hl
    refine lv_aload_n hx hb (xb_d D_M_valueType 3 rfl) rfl (lv_at hl 1 rfl) ?_
    have hk1 : xb_k h2 x0 = 9 := hEh2.k hk1
    refine xb_getI (C := R_M) (T := F_M) (N := 97) hx hb 8 17 hts fin_M hown hR hk1 (by decide) rfl (by decide) rfl (hts _ m_ff69da61) (fun _ h9 => h9) (xb_d D_M_valueType 4 rfl) ?_
    refine lv_if_ne (tgt := 30) hx hb (xb_d D_M_valueType 5 rfl) rfl (fun hc4 => ?_) (fun hc4 => ?_)
    · have hw := hw.1 hc4
      exact am_M_valueType_L30 l hfl D A σ MC MS h0 Qr h2 hw p e s m args below meth c hC H locs ls k n hE (lv_sub hl [] rfl) hR hS (by omega) (by omega)
    · have hw := hw.2 hc4
      refine lv_iload_n hx hb (xb_d D_M_valueType 6 rfl) rfl (lv_at hl 0 rfl) ?_
      refine xb_call (D := D) (A := A) (σ := σ) (h := h2) (d := 2) (mc := 0) (ms := 0) (maxL := 1) (rest := []) (av := [.int r3]) (fun T hT X => xt_invS X hx hown (hts _ m_7755cbcf) (hts _ m_f0ea648f) (hts _ m_d5ed7bed) (xt_sgS (hts _ m_3354b7ba)).1 (xt_sgS (hts _ m_3354b7ba)).2 nm_M_isType (g := F0 m 13 ls [.int r3]) rfl (argsL := [.int r3]) (rest := []) rfl rfl (by rw [hb]; exact (xb_d D_M_valueType 7 rfl))) (ok_M_isType l hfl D A σ r3 h2 _ hw) (hml.trans hl.1.symm) (by rw [hb]; exact (xb_d D_M_valueType 7 rfl)) (Nat.le_of_ble_eq_true rfl) (Nat.le_of_ble_eq_true rfl) (Nat.le_of_ble_eq_true rfl) (show k + 0 ≤ MC by omega) (show n + 0 ≤ MS by omega) (xt_w1 hB.1 m_3354b7ba) (xt_cdOf hB.1 m_3354b7ba) (hts _ m_d5ed7bed) hB hR hS hA (fun vv h5 H locs hq hEh5 hR hS => ?_) (fun XX ax h5 H locs hq hEh5 hex hR hS => ?_)
      · obtain ⟨r6, rfl, hw⟩ := hq
        have hw := hw hEh5
        have hE := hE.tr hEh5
        refine W.eq (g2 := F0 m 16 ls [.int r6]) rfl ?_
        refine lv_if_ne (tgt := 30) hx hb (xb_d D_M_valueType 8 rfl) rfl (fun hc7 => ?_) (fun hc7 => ?_)
        · have hw := hw.1 hc7
          exact am_M_valueType_L30 l hfl D A σ MC MS h0 Qr h5 hw p e s m args below meth c hC H locs ls k n hE (lv_sub hl [] rfl) hR hS (by omega) (by omega)
        · have hw := hw.2 hc7
          refine lv_aload_n hx hb (xb_d D_M_valueType 9 rfl) rfl (lv_at hl 1 rfl) ?_
          refine lv_iconst (v := 5) hx hb (xb_d D_M_valueType 10 rfl) (by decide) ?_
          refine lv_aload_n hx hb (xb_d D_M_valueType 11 rfl) rfl (lv_at hl 1 rfl) ?_
          have hk1 : xb_k h5 x0 = 9 := hEh5.k hk1
          refine xb_getI (C := R_M) (T := F_M) (N := 97) hx hb 8 15 hts fin_M hown hR hk1 (by decide) rfl (by decide) rfl (hts _ m_6c2d27ad) (fun _ h9 => h9) (xb_d D_M_valueType 12 rfl) ?_
          refine lv_iconst (v := 1) hx hb (xb_d D_M_valueType 13 rfl) (by decide) ?_
          refine lv_isub hx hb (xb_d D_M_valueType 14 rfl) ?_
          refine xb_call (D := D) (A := A) (σ := σ) (h := h5) (d := 2) (mc := 0) (ms := 0) (maxL := 3) (rest := []) (av := [.ref x0, .int 5, .int ((xb_i h5 x0 15) - 1)]) (fun T hT X => by obtain ⟨cb, r1, r2, r3⟩ := xb_recv (ci := 8) hR rfl hk1 (by decide); exact xt_invV X hx hown (hts _ m_939052ad) (hts _ m_29cc8c73) (hts _ m_3b1ac7ab) (xt_sigOf (hts _ m_8f062ecd)) nm_M_fail (by rw [hT]; exact r1) r2 r3 (g := F0 m 27 ls [.int ((xb_i h5 x0 15) - 1), .int 5, .ref x0]) rfl (argsL := [.int 5, .int ((xb_i h5 x0 15) - 1)]) (rest := []) rfl rfl (by rw [hb]; exact (xb_d D_M_valueType 15 rfl))) (ok_M_fail l hfl D A σ x0 5 ((xb_i h5 x0 15) - 1) h5 _ hw) (hml.trans hl.1.symm) (by rw [hb]; exact (xb_d D_M_valueType 15 rfl)) (Nat.le_of_ble_eq_true rfl) (Nat.le_of_ble_eq_true rfl) (Nat.le_of_ble_eq_true rfl) (show k + 0 ≤ MC by omega) (show n + 0 ≤ MS by omega) (xt_w1 hB.1 m_8f062ecd) (xt_cdOf hB.1 m_8f062ecd) (hts _ m_d5ed7bed) hB hR hS hA (fun vv h8 H locs hq hEh8 hR hS => ?_) (fun XX ax h8 H locs hq hEh8 hex hR hS => ?_)
          · obtain ⟨rfl, hw⟩ := hq
            have hw := hw hEh8
            have hE := hE.tr hEh8
            refine W.eq (g2 := F0 m 30 ls []) rfl ?_
            exact am_M_valueType_L30 l hfl D A σ MC MS h0 Qr h8 hw p e s m args below meth c hC H locs ls k n hE (lv_sub hl [] rfl) hR hS (by omega) (by omega)
          · exact False.elim hq
      · exact False.elim hq
  · exact False.elim hq

set_option maxRecDepth 100000 in
def T_M_wanted : List (Nat × Instr × Nat) := [(0, .aload_n 0, 1), (1, .invokevirtual 212, 3), (4, .istore_n 3, 1), (5, .aload_n 0, 1), (6, .getfield 193, 3), (9, .ifCond .ne 24, 3), (12, .iload_n 3, 1), (13, .iload_n 1, 1), (14, .if_icmp .lt 8, 3), (17, .iload_n 3, 1), (18, .iload_n 2, 1), (19, .if_icmp .le 14, 3), (22, .aload_n 0, 1), (23, .iconst 5, 1), (24, .aload_n 0, 1), (25, .getfield 202, 3), (28, .iconst 1, 1), (29, .isub, 1), (30, .invokevirtual 208, 3), (33, .return_, 1)]
theorem D_M_wanted : ∀ q ∈ T_M_wanted, decode b_M_wanted q.1 = .ok (q.2.1, q.2.2) := by decide +kernel
def w_M_wanted_L33 (Qr : xb_H → Prop) (h : xb_H) : Prop :=
    Qr h

def w_M_wanted_L22 (Qr : xb_H → Prop) (x0 : Nat) (h : xb_H) : Prop :=
    xb_k h x0 = 9 ∧ w_M_fail x0 5 ((xb_i h x0 15) - 1) h (fun (h2 : xb_H) => xb_ext h h2 → w_M_wanted_L33 Qr h2)

def w_M_wanted (x0 : Nat) (x1 : Int32) (x2 : Int32) (h : xb_H) (Qr : xb_H → Prop) : Prop :=
    xb_k h x0 = 9 ∧ w_M_next x0 h (fun (r3 : Int32) (h2 : xb_H) => xb_ext h h2 → ((¬ (xb_i h2 x0 17) = (0 : Int32) → w_M_wanted_L33 Qr h2) ∧ ((xb_i h2 x0 17) = (0 : Int32) → ((r3 < x1 → w_M_wanted_L22 Qr x0 h2) ∧ (¬ r3 < x1 → ((r3 ≤ x2 → w_M_wanted_L33 Qr h2) ∧ (¬ r3 ≤ x2 → w_M_wanted_L22 Qr x0 h2)))))))

set_option maxHeartbeats 4000000 in
set_option maxRecDepth 100000 in
theorem am_M_wanted_L33 (l : Launch) (hfl : l.flags = pinnedFlags ++ [noTraceFlag]) (D : va_G) (A : Nat → Prop) (σ MC MS : Nat) (h0 : xb_H) (Qr : xb_H → Prop) (h : xb_H) (hw : w_M_wanted_L33 Qr h) : xb_am l D A σ 4 MC MS h0 (fun v h => v = none ∧ Qr h) (fun _ _ => False) y_M_wanted.cls y_M_wanted.name b_M_wanted 4 ([] : List ExceptionTableEntry) none 33 [] [] h 0 0 := by
  unfold w_M_wanted_L33 at hw
  intro p e s m args below meth c hC H locs ls k n hE hl hR hS hk hn
  obtain ⟨hx, hb, hown, hlocks, htab, hml, hr, hB, hA, hnm⟩ := id hC
  have hts := hB.1.1.at args
  exact xb_vret hx hb hr hlocks (show k ≤ MC by omega) (show n ≤ MS by omega) hE hR hS (xb_d D_M_wanted 19 rfl) hw

set_option maxHeartbeats 4000000 in
set_option maxRecDepth 100000 in
theorem am_M_wanted_L22 (l : Launch) (hfl : l.flags = pinnedFlags ++ [noTraceFlag]) (D : va_G) (A : Nat → Prop) (σ MC MS : Nat) (h0 : xb_H) (Qr : xb_H → Prop) (x0 : Nat) (h : xb_H) (hw : w_M_wanted_L22 Qr x0 h) : xb_am l D A σ 4 MC MS h0 (fun v h => v = none ∧ Qr h) (fun _ _ => False) y_M_wanted.cls y_M_wanted.name b_M_wanted 4 ([] : List ExceptionTableEntry) none 22 [(0, .ref x0)] [] h 0 0 := by
  unfold w_M_wanted_L22 at hw
  intro p e s m args below meth c hC H locs ls k n hE hl hR hS hk hn
  obtain ⟨hx, hb, hown, hlocks, htab, hml, hr, hB, hA, hnm⟩ := id hC
  have hts := hB.1.1.at args
  refine lv_aload_n hx hb (xb_d D_M_wanted 12 rfl) rfl (lv_at hl 0 rfl) ?_
  refine lv_iconst (v := 5) hx hb (xb_d D_M_wanted 13 rfl) (by decide) ?_
  refine lv_aload_n hx hb (xb_d D_M_wanted 14 rfl) rfl (lv_at hl 0 rfl) ?_
  obtain ⟨hk1, hw⟩ := hw
  refine xb_getI (C := R_M) (T := F_M) (N := 97) hx hb 8 15 hts fin_M hown hR hk1 (by decide) rfl (by decide) rfl (hts _ m_6c2d27ad) (fun _ h9 => h9) (xb_d D_M_wanted 15 rfl) ?_
  refine lv_iconst (v := 1) hx hb (xb_d D_M_wanted 16 rfl) (by decide) ?_
  refine lv_isub hx hb (xb_d D_M_wanted 17 rfl) ?_
  refine xb_call (D := D) (A := A) (σ := σ) (h := h) (d := 2) (mc := 0) (ms := 0) (maxL := 3) (rest := []) (av := [.ref x0, .int 5, .int ((xb_i h x0 15) - 1)]) (fun T hT X => by obtain ⟨cb, r1, r2, r3⟩ := xb_recv (ci := 8) hR rfl hk1 (by decide); exact xt_invV X hx hown (hts _ m_939052ad) (hts _ m_29cc8c73) (hts _ m_3b1ac7ab) (xt_sigOf (hts _ m_8f062ecd)) nm_M_fail (by rw [hT]; exact r1) r2 r3 (g := F0 m 30 ls [.int ((xb_i h x0 15) - 1), .int 5, .ref x0]) rfl (argsL := [.int 5, .int ((xb_i h x0 15) - 1)]) (rest := []) rfl rfl (by rw [hb]; exact (xb_d D_M_wanted 18 rfl))) (ok_M_fail l hfl D A σ x0 5 ((xb_i h x0 15) - 1) h _ hw) (hml.trans hl.1.symm) (by rw [hb]; exact (xb_d D_M_wanted 18 rfl)) (Nat.le_of_ble_eq_true rfl) (Nat.le_of_ble_eq_true rfl) (Nat.le_of_ble_eq_true rfl) (show k + 0 ≤ MC by omega) (show n + 0 ≤ MS by omega) (xt_w1 hB.1 m_8f062ecd) (xt_cdOf hB.1 m_8f062ecd) (hts _ m_d5ed7bed) hB hR hS hA (fun vv h2 H locs hq hEh2 hR hS => ?_) (fun XX ax h2 H locs hq hEh2 hex hR hS => ?_)
  · obtain ⟨rfl, hw⟩ := hq
    have hw := hw hEh2
    have hE := hE.tr hEh2
    refine W.eq (g2 := F0 m 33 ls []) rfl ?_
    exact am_M_wanted_L33 l hfl D A σ MC MS h0 Qr h2 hw p e s m args below meth c hC H locs ls k n hE (lv_sub hl [] rfl) hR hS (by omega) (by omega)
  · exact False.elim hq

set_option maxHeartbeats 4000000 in
set_option maxRecDepth 100000 in
theorem ok_M_wanted (l : Launch) (hfl : l.flags = pinnedFlags ++ [noTraceFlag]) (D : va_G) (A : Nat → Prop) (σ : Nat) (x0 : Nat) (x1 : Int32) (x2 : Int32) (h : xb_H) (Qr : xb_H → Prop) (hw : w_M_wanted x0 x1 x2 h Qr) : xt_Met l y_M_wanted [.code y_M_wanted b_M_wanted 4 none] (xb_rm 4 0 0) (xb_Pc D A σ h [.ref x0, .int x1, .int x2]) (xb_Qc D A h (fun v h => v = none ∧ Qr h) (fun _ _ => False)) 0 0 A := by
  refine xb_ofAm (cc := b_M_wanted) (by decide) (Nat.le_of_ble_eq_true rfl) ?_
  unfold w_M_wanted at hw
  show xb_am l D A σ 4 0 0 h (fun v h => v = none ∧ Qr h) (fun _ _ => False) y_M_wanted.cls y_M_wanted.name b_M_wanted 4 ([] : List ExceptionTableEntry) none 0 [(0, .ref x0), (1, .int x1), (2, .int x2)] [] h 0 0
  obtain ⟨MC, hMC⟩ : ∃ x, x = 0 := ⟨_, rfl⟩
  obtain ⟨MS, hMS⟩ : ∃ x, x = 0 := ⟨_, rfl⟩
  rw [show xb_am l D A σ 4 0 0 = xb_am l D A σ 4 MC MS by rw [hMC, hMS]]
  obtain ⟨h0, hh0⟩ : ∃ x, x = h := ⟨_, rfl⟩
  rw [show xb_am l D A σ 4 MC MS h = xb_am l D A σ 4 MC MS h0 by rw [hh0]]
  intro p e s m args below meth c hC H locs ls k n hE hl hR hS hk hn
  obtain ⟨hx, hb, hown, hlocks, htab, hml, hr, hB, hA, hnm⟩ := id hC
  have hts := hB.1.1.at args
  refine lv_aload_n hx hb (xb_d D_M_wanted 0 rfl) rfl (lv_at hl 0 rfl) ?_
  obtain ⟨hk1, hw⟩ := hw
  refine xb_call (D := D) (A := A) (σ := σ) (h := h) (d := 3) (mc := 0) (ms := 0) (maxL := 2) (rest := []) (av := [.ref x0]) (fun T hT X => by obtain ⟨cb, r1, r2, r3⟩ := xb_recv (ci := 8) hR rfl hk1 (by decide); exact xt_invV X hx hown (hts _ m_0e978570) (hts _ m_40099f98) (hts _ m_a7dbfd07) (xt_sigOf (hts _ m_0af1ec6a)) nm_M_next (by rw [hT]; exact r1) r2 r3 (g := F0 m 1 ls [.ref x0]) rfl (argsL := []) (rest := []) rfl rfl (by rw [hb]; exact (xb_d D_M_wanted 1 rfl))) (ok_M_next l hfl D A σ x0 h _ hw) (hml.trans hl.1.symm) (by rw [hb]; exact (xb_d D_M_wanted 1 rfl)) (Nat.le_of_ble_eq_true rfl) (Nat.le_of_ble_eq_true rfl) (Nat.le_of_ble_eq_true rfl) (show k + 0 ≤ MC by omega) (show n + 0 ≤ MS by omega) (xt_w1 hB.1 m_0af1ec6a) (xt_cdOf hB.1 m_0af1ec6a) (hts _ m_d5ed7bed) hB hR hS hA (fun vv h2 H locs hq hEh2 hR hS => ?_) (fun XX ax h2 H locs hq hEh2 hex hR hS => ?_)
  · obtain ⟨r3, rfl, hw⟩ := hq
    have hw := hw hEh2
    have hE := hE.tr hEh2
    refine W.eq (g2 := F0 m 4 ls [.int r3]) rfl ?_
    refine lv_istore_n hx hb (xb_d D_M_wanted 2 rfl) rfl hl (by decide) rfl (fun ls hl => ?_)
    have hl : lv_has ls 4 [(3, .int r3), (0, .ref x0), (1, .int x1), (2, .int x2)] := hl
    refine lv_aload_n hx hb (xb_d D_M_wanted 3 rfl) rfl (lv_at hl 1 rfl) ?_
    have hk1 : xb_k h2 x0 = 9 := hEh2.k hk1
    refine xb_getI (C := R_M) (T := F_M) (N := 97) hx hb 8 17 hts fin_M hown hR hk1 (by decide) rfl (by decide) rfl (hts _ m_ff69da61) (fun _ h9 => h9) (xb_d D_M_wanted 4 rfl) ?_
    refine lv_if_ne (tgt := 33) hx hb (xb_d D_M_wanted 5 rfl) rfl (fun hc4 => ?_) (fun hc4 => ?_)
    · have hw := hw.1 hc4
      exact am_M_wanted_L33 l hfl D A σ MC MS h0 Qr h2 hw p e s m args below meth c hC H locs ls k n hE (lv_sub hl [] rfl) hR hS (by omega) (by omega)
    · have hw := hw.2 hc4
      refine lv_iload_n hx hb (xb_d D_M_wanted 6 rfl) rfl (lv_at hl 0 rfl) ?_
      refine lv_iload_n hx hb (xb_d D_M_wanted 7 rfl) rfl (lv_at hl 2 rfl) ?_
      refine lv_icmp_lt (tgt := 22) hx hb (xb_d D_M_wanted 8 rfl) rfl (fun hc5 => ?_) (fun hc5 => ?_)
      · have hw := hw.1 hc5
        exact am_M_wanted_L22 l hfl D A σ MC MS h0 Qr x0 h2 hw p e s m args below meth c hC H locs ls k n hE (lv_sub hl [1] rfl) hR hS (by omega) (by omega)
      · have hw := hw.2 hc5
        refine lv_iload_n hx hb (xb_d D_M_wanted 9 rfl) rfl (lv_at hl 0 rfl) ?_
        refine lv_iload_n hx hb (xb_d D_M_wanted 10 rfl) rfl (lv_at hl 3 rfl) ?_
        refine lv_icmp_le (tgt := 33) hx hb (xb_d D_M_wanted 11 rfl) rfl (fun hc6 => ?_) (fun hc6 => ?_)
        · have hw := hw.1 hc6
          exact am_M_wanted_L33 l hfl D A σ MC MS h0 Qr h2 hw p e s m args below meth c hC H locs ls k n hE (lv_sub hl [] rfl) hR hS (by omega) (by omega)
        · have hw := hw.2 hc6
          exact am_M_wanted_L22 l hfl D A σ MC MS h0 Qr x0 h2 hw p e s m args below meth c hC H locs ls k n hE (lv_sub hl [1] rfl) hR hS (by omega) (by omega)
  · exact False.elim hq

