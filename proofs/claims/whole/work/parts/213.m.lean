theorem m_738a85eb : (.methodLink "StackHostLaw" 25 y_H_fault : Cond) ∈ xt_tbl := xt_in (xt_t6 (List.mem_of_getElem? (i := 60) (by decide +kernel))) (by decide +kernel)
theorem m_f43b4a5f : (.instanceMethod y_H_fault : Cond) ∈ xt_tbl := xt_in (xt_t6 (List.mem_of_getElem? (i := 61) (by decide +kernel))) (by decide +kernel)
theorem m_f971e4f9 : (.selects "StackHost" y_H_fault y_H_fault : Cond) ∈ xt_tbl := xt_in (xt_t6 (List.mem_of_getElem? (i := 62) (by decide +kernel))) (by decide +kernel)
theorem m_f9b47110 : (.code y_H_fault b_H_fault 2 (some .int) : Cond) ∈ xt_tbl := xt_in (xt_t6 (List.mem_of_getElem? (i := 63) (by decide +kernel))) (by decide +kernel)
theorem m_17a0b3c6 : (.classLink "StackHostLaw" 29 "java/lang/IndexOutOfBoundsException" : Cond) ∈ xt_tbl := xt_in (xt_t6 (List.mem_of_getElem? (i := 59) (by decide +kernel))) (by decide +kernel)
theorem m_b0d3d118 : (.castable "java/lang/IndexOutOfBoundsException" "java/lang/IndexOutOfBoundsException" : Cond) ∈ xt_tbl := xt_in (xt_t6 (List.mem_of_getElem? (i := 66) (by decide +kernel))) (by decide +kernel)
theorem nm_H_fault : xt_nm y_H_fault 1 := ⟨by decide +kernel, by decide +kernel⟩
set_option maxRecDepth 100000 in
def T_Law_fault : List (Nat × Instr × Nat) := [(0, .aload_n 2, 1), (1, .iconst 0, 1), (2, .aload_n 0, 1), (3, .iload_n 1, 1), (4, .invokevirtual 25, 3), (7, .i2l, 1), (8, .lastore, 1), (9, .goto 6, 3), (12, .astore_n 3, 1), (13, .iconst 1, 1), (14, .ireturn, 1), (15, .iconst 0, 1), (16, .ireturn, 1)]
theorem D_Law_fault : ∀ q ∈ T_Law_fault, decode b_Law_fault q.1 = .ok (q.2.1, q.2.2) := by decide +kernel
def w_Law_fault (x0 : Nat) (x1 : Int32) (x2 : Nat) (h : xb_H) (bc : Nat) (bs : Nat) (Qr : Int32 → xb_H → Prop) : Prop :=
    xb_k h x0 = 1 ∧ ∃ c4 sc4 : Nat, c4 ≤ bc ∧ sc4 ≤ bs ∧ w_H_fault x0 x1 h c4 sc4 (fun (r3 : Int32) (h2 : xb_H) => xb_ext h h2 → xb_k h2 x2 = 103 ∧ vp_in 0 (xb_n h2 x2) ∧ ∀ h7 : xb_H, h7 = xb_L h2 x2 (Int32.toNatClampNeg 0) (Int32.toInt64 r3) → Qr 0 h7) (fun (XX : String) (h2 : xb_H) => xb_ext h h2 → (XX = "java/lang/IndexOutOfBoundsException" ∧ Qr 1 h2))

set_option maxHeartbeats 4000000 in
set_option maxRecDepth 100000 in
theorem ok_Law_fault (l : Launch) (hfl : l.flags = pinnedFlags ++ [noTraceFlag]) (D : va_G) (A : Nat → Prop) (σ : Nat) (x0 : Nat) (x1 : Int32) (x2 : Nat) (h : xb_H) (bc : Nat) (bs : Nat) (Qr : Int32 → xb_H → Prop) (hw : w_Law_fault x0 x1 x2 h bc bs Qr) : xt_Met l y_Law_fault [.codeWith y_Law_fault b_Law_fault 4 (some .int) [(0, 9, 12, 29)]] (xb_rm 3 bc bs) (xb_Pc D A σ h [.ref x0, .int x1, .ref x2]) (xb_Qc D A h (fun v h => ∃ r, v = some (.int r) ∧ Qr r h) (fun _ _ => False)) bc bs A := by
  refine xb_ofAmH (cc := b_Law_fault) (by decide) (Nat.le_of_ble_eq_true rfl) ?_
  unfold w_Law_fault at hw
  show xb_am l D A σ 3 bc bs h (fun v h => ∃ r, v = some (.int r) ∧ Qr r h) (fun _ _ => False) y_Law_fault.cls y_Law_fault.name b_Law_fault 4 (tableOf [(0, 9, 12, 29)]) (some .int) 0 [(0, .ref x0), (1, .int x1), (2, .ref x2)] [] h bc bs
  obtain ⟨MC, hMC⟩ : ∃ x, x = bc := ⟨_, rfl⟩
  obtain ⟨MS, hMS⟩ : ∃ x, x = bs := ⟨_, rfl⟩
  rw [show xb_am l D A σ 3 bc bs = xb_am l D A σ 3 MC MS by rw [hMC, hMS]]
  obtain ⟨h0, hh0⟩ : ∃ x, x = h := ⟨_, rfl⟩
  rw [show xb_am l D A σ 3 MC MS h = xb_am l D A σ 3 MC MS h0 by rw [hh0]]
  intro p e s m args below meth c hC H locs ls k n hE hl hR hS hk hn
  obtain ⟨hx, hb, hown, hlocks, htab, hml, hr, hB, hA, hnm⟩ := id hC
  have hts := hB.1.1.at args
  refine lv_aload_n hx hb (xb_d D_Law_fault 0 rfl) rfl (lv_at hl 2 rfl) ?_
  refine lv_iconst (v := 0) hx hb (xb_d D_Law_fault 1 rfl) (by decide) ?_
  refine lv_aload_n hx hb (xb_d D_Law_fault 2 rfl) rfl (lv_at hl 0 rfl) ?_
  refine lv_iload_n hx hb (xb_d D_Law_fault 3 rfl) rfl (lv_at hl 1 rfl) ?_
  obtain ⟨hk1, hw⟩ := hw
  obtain ⟨c4, sc4, hlc4, hlsc4, hw⟩ := hw
  refine xb_call (D := D) (A := A) (σ := σ) (h := h) (d := 2) (mc := c4) (ms := sc4) (maxL := 2) (rest := [.int 0, .ref x2]) (av := [.ref x0, .int x1]) (fun T hT X => by obtain ⟨cb, r1, r2, r3⟩ := xb_recv (ci := 0) hR rfl hk1 (by decide); exact xt_invV X hx hown (hts _ m_738a85eb) (hts _ m_f43b4a5f) (hts _ m_f971e4f9) (xt_sigOf (hts _ m_f9b47110)) nm_H_fault (by rw [hT]; exact r1) r2 r3 (g := F0 m 4 ls [.int x1, .ref x0, .int 0, .ref x2]) rfl (argsL := [.int x1]) (rest := [.int 0, .ref x2]) rfl rfl (by rw [hb]; exact (xb_d D_Law_fault 4 rfl))) (ok_H_fault l hfl D A σ x0 x1 h c4 sc4 _ _ hw) (hml.trans hl.1.symm) (by rw [hb]; exact (xb_d D_Law_fault 4 rfl)) (Nat.le_of_ble_eq_true rfl) (Nat.le_of_ble_eq_true rfl) (Nat.le_of_ble_eq_true rfl) (show k + c4 ≤ MC by omega) (show n + sc4 ≤ MS by omega) (xt_w1 hB.1 m_f9b47110) (xt_cdOf hB.1 m_f9b47110) (hts _ m_ba0734f5) hB hR hS hA (fun vv h2 H locs hq hEh2 hR hS => ?_) (fun XX ax h2 H locs hq hEh2 hex hR hS => ?_)
  · obtain ⟨r3, rfl, hw⟩ := hq
    have hw := hw hEh2
    have hE := hE.tr hEh2
    refine W.eq (g2 := F0 m 7 ls [.int r3, .int 0, .ref x2]) rfl ?_
    refine lv_i2l hx hb (xb_d D_Law_fault 5 rfl) rfl ?_
    obtain ⟨hk5, hw⟩ := hw
    obtain ⟨hi6, hw⟩ := hw
    refine xb_last hx hb hR hS hk5 hi6 (xb_d D_Law_fault 6 rfl) (fun H locs hR hS => ?_)
    obtain ⟨h7, eh7⟩ : ∃ x : xb_H, x = xb_L h2 x2 (Int32.toNatClampNeg 0) (Int32.toInt64 r3) := ⟨_, rfl⟩
    rw [← eh7] at hR
    have hw := hw h7 eh7
    have hE : xb_ext h0 h7 := by rw [eh7]; exact hE
    refine lv_goto (tgt := 15) hx hb (xb_d D_Law_fault 7 rfl) rfl ?_
    refine lv_iconst (v := 0) hx hb (xb_d D_Law_fault 11 rfl) (by decide) ?_
    exact xb_iret hx hb hr hlocks (show (k + c4) ≤ MC by omega) (show (n + sc4) ≤ MS by omega) hE hR hS (xb_d D_Law_fault 12 rfl) hw
  · have hw := hq hEh2
    have hE := hE.tr hEh2
    obtain ⟨rfl, hw⟩ := hw
    refine xt_catch (own := "StackHostLaw") (name := "java/lang/IndexOutOfBoundsException") (Xn := "java/lang/IndexOutOfBoundsException") hown ⟨0, 9, 12, 29⟩ [] htab (by decide) (by decide) (hts _ m_17a0b3c6) (hts _ m_b0d3d118) hex ?_
    refine W.eq (g2 := F0 m 12 ls [.ref ax]) rfl ?_
    refine lv_astore_n hx hb (xb_d D_Law_fault 8 rfl) rfl hl (by decide) rfl (fun ls hl => ?_)
    have hl : lv_has ls 4 [(3, .ref ax), (0, .ref x0), (1, .int x1), (2, .ref x2)] := hl
    refine lv_iconst (v := 1) hx hb (xb_d D_Law_fault 9 rfl) (by decide) ?_
    exact xb_iret hx hb hr hlocks (show (k + c4) ≤ MC by omega) (show (n + sc4) ≤ MS by omega) hE hR hS (xb_d D_Law_fault 10 rfl) hw

theorem m_42d7cc7d : (.methodLink "StackHostLaw" 82 y_H_out : Cond) ∈ xt_tbl := xt_in (xt_t9 (List.mem_of_getElem? (i := 83) (by decide +kernel))) (by decide +kernel)
theorem m_688360bf : (.instanceMethod y_H_out : Cond) ∈ xt_tbl := xt_in (xt_t9 (List.mem_of_getElem? (i := 84) (by decide +kernel))) (by decide +kernel)
theorem m_992ab59d : (.selects "StackHost" y_H_out y_H_out : Cond) ∈ xt_tbl := xt_in (xt_t9 (List.mem_of_getElem? (i := 85) (by decide +kernel))) (by decide +kernel)
theorem m_0151fcf5 : (.code y_H_out b_H_out 2 (some .long) : Cond) ∈ xt_tbl := xt_in (xt_t9 (List.mem_of_getElem? (i := 86) (by decide +kernel))) (by decide +kernel)
theorem nm_H_out : xt_nm y_H_out 1 := ⟨by decide +kernel, by decide +kernel⟩
set_option maxRecDepth 100000 in
def T_Law_out : List (Nat × Instr × Nat) := [(0, .aload_n 2, 1), (1, .iconst 0, 1), (2, .aload_n 0, 1), (3, .iload_n 1, 1), (4, .invokevirtual 82, 3), (7, .lastore, 1), (8, .goto 6, 3), (11, .astore_n 3, 1), (12, .iconst 1, 1), (13, .ireturn, 1), (14, .iconst 0, 1), (15, .ireturn, 1)]
theorem D_Law_out : ∀ q ∈ T_Law_out, decode b_Law_out q.1 = .ok (q.2.1, q.2.2) := by decide +kernel
def w_Law_out (x0 : Nat) (x1 : Int32) (x2 : Nat) (h : xb_H) (bc : Nat) (bs : Nat) (Qr : Int32 → xb_H → Prop) : Prop :=
    xb_k h x0 = 1 ∧ ∃ c4 sc4 : Nat, c4 ≤ bc ∧ sc4 ≤ bs ∧ w_H_out x0 x1 h c4 sc4 (fun (r3 : Int64) (h2 : xb_H) => xb_ext h h2 → xb_k h2 x2 = 103 ∧ vp_in 0 (xb_n h2 x2) ∧ ∀ h7 : xb_H, h7 = xb_L h2 x2 (Int32.toNatClampNeg 0) r3 → Qr 0 h7) (fun (XX : String) (h2 : xb_H) => xb_ext h h2 → (XX = "java/lang/IndexOutOfBoundsException" ∧ Qr 1 h2))

set_option maxHeartbeats 4000000 in
set_option maxRecDepth 100000 in
theorem ok_Law_out (l : Launch) (hfl : l.flags = pinnedFlags ++ [noTraceFlag]) (D : va_G) (A : Nat → Prop) (σ : Nat) (x0 : Nat) (x1 : Int32) (x2 : Nat) (h : xb_H) (bc : Nat) (bs : Nat) (Qr : Int32 → xb_H → Prop) (hw : w_Law_out x0 x1 x2 h bc bs Qr) : xt_Met l y_Law_out [.codeWith y_Law_out b_Law_out 4 (some .int) [(0, 8, 11, 29)]] (xb_rm 3 bc bs) (xb_Pc D A σ h [.ref x0, .int x1, .ref x2]) (xb_Qc D A h (fun v h => ∃ r, v = some (.int r) ∧ Qr r h) (fun _ _ => False)) bc bs A := by
  refine xb_ofAmH (cc := b_Law_out) (by decide) (Nat.le_of_ble_eq_true rfl) ?_
  unfold w_Law_out at hw
  show xb_am l D A σ 3 bc bs h (fun v h => ∃ r, v = some (.int r) ∧ Qr r h) (fun _ _ => False) y_Law_out.cls y_Law_out.name b_Law_out 4 (tableOf [(0, 8, 11, 29)]) (some .int) 0 [(0, .ref x0), (1, .int x1), (2, .ref x2)] [] h bc bs
  obtain ⟨MC, hMC⟩ : ∃ x, x = bc := ⟨_, rfl⟩
  obtain ⟨MS, hMS⟩ : ∃ x, x = bs := ⟨_, rfl⟩
  rw [show xb_am l D A σ 3 bc bs = xb_am l D A σ 3 MC MS by rw [hMC, hMS]]
  obtain ⟨h0, hh0⟩ : ∃ x, x = h := ⟨_, rfl⟩
  rw [show xb_am l D A σ 3 MC MS h = xb_am l D A σ 3 MC MS h0 by rw [hh0]]
  intro p e s m args below meth c hC H locs ls k n hE hl hR hS hk hn
  obtain ⟨hx, hb, hown, hlocks, htab, hml, hr, hB, hA, hnm⟩ := id hC
  have hts := hB.1.1.at args
  refine lv_aload_n hx hb (xb_d D_Law_out 0 rfl) rfl (lv_at hl 2 rfl) ?_
  refine lv_iconst (v := 0) hx hb (xb_d D_Law_out 1 rfl) (by decide) ?_
  refine lv_aload_n hx hb (xb_d D_Law_out 2 rfl) rfl (lv_at hl 0 rfl) ?_
  refine lv_iload_n hx hb (xb_d D_Law_out 3 rfl) rfl (lv_at hl 1 rfl) ?_
  obtain ⟨hk1, hw⟩ := hw
  obtain ⟨c4, sc4, hlc4, hlsc4, hw⟩ := hw
  refine xb_call (D := D) (A := A) (σ := σ) (h := h) (d := 2) (mc := c4) (ms := sc4) (maxL := 2) (rest := [.int 0, .ref x2]) (av := [.ref x0, .int x1]) (fun T hT X => by obtain ⟨cb, r1, r2, r3⟩ := xb_recv (ci := 0) hR rfl hk1 (by decide); exact xt_invV X hx hown (hts _ m_42d7cc7d) (hts _ m_688360bf) (hts _ m_992ab59d) (xt_sigOf (hts _ m_0151fcf5)) nm_H_out (by rw [hT]; exact r1) r2 r3 (g := F0 m 4 ls [.int x1, .ref x0, .int 0, .ref x2]) rfl (argsL := [.int x1]) (rest := [.int 0, .ref x2]) rfl rfl (by rw [hb]; exact (xb_d D_Law_out 4 rfl))) (ok_H_out l hfl D A σ x0 x1 h c4 sc4 _ _ hw) (hml.trans hl.1.symm) (by rw [hb]; exact (xb_d D_Law_out 4 rfl)) (Nat.le_of_ble_eq_true rfl) (Nat.le_of_ble_eq_true rfl) (Nat.le_of_ble_eq_true rfl) (show k + c4 ≤ MC by omega) (show n + sc4 ≤ MS by omega) (xt_w1 hB.1 m_0151fcf5) (xt_cdOf hB.1 m_0151fcf5) (hts _ m_ba0734f5) hB hR hS hA (fun vv h2 H locs hq hEh2 hR hS => ?_) (fun XX ax h2 H locs hq hEh2 hex hR hS => ?_)
  · obtain ⟨r3, rfl, hw⟩ := hq
    have hw := hw hEh2
    have hE := hE.tr hEh2
    refine W.eq (g2 := F0 m 7 ls [.long r3, .int 0, .ref x2]) rfl ?_
    obtain ⟨hk5, hw⟩ := hw
    obtain ⟨hi6, hw⟩ := hw
    refine xb_last hx hb hR hS hk5 hi6 (xb_d D_Law_out 5 rfl) (fun H locs hR hS => ?_)
    obtain ⟨h7, eh7⟩ : ∃ x : xb_H, x = xb_L h2 x2 (Int32.toNatClampNeg 0) r3 := ⟨_, rfl⟩
    rw [← eh7] at hR
    have hw := hw h7 eh7
    have hE : xb_ext h0 h7 := by rw [eh7]; exact hE
    refine lv_goto (tgt := 14) hx hb (xb_d D_Law_out 6 rfl) rfl ?_
    refine lv_iconst (v := 0) hx hb (xb_d D_Law_out 10 rfl) (by decide) ?_
    exact xb_iret hx hb hr hlocks (show (k + c4) ≤ MC by omega) (show (n + sc4) ≤ MS by omega) hE hR hS (xb_d D_Law_out 11 rfl) hw
  · have hw := hq hEh2
    have hE := hE.tr hEh2
    obtain ⟨rfl, hw⟩ := hw
    refine xt_catch (own := "StackHostLaw") (name := "java/lang/IndexOutOfBoundsException") (Xn := "java/lang/IndexOutOfBoundsException") hown ⟨0, 8, 11, 29⟩ [] htab (by decide) (by decide) (hts _ m_17a0b3c6) (hts _ m_b0d3d118) hex ?_
    refine W.eq (g2 := F0 m 11 ls [.ref ax]) rfl ?_
    refine lv_astore_n hx hb (xb_d D_Law_out 7 rfl) rfl hl (by decide) rfl (fun ls hl => ?_)
    have hl : lv_has ls 4 [(3, .ref ax), (0, .ref x0), (1, .int x1), (2, .ref x2)] := hl
    refine lv_iconst (v := 1) hx hb (xb_d D_Law_out 8 rfl) (by decide) ?_
    exact xb_iret hx hb hr hlocks (show (k + c4) ≤ MC by omega) (show (n + sc4) ≤ MS by omega) hE hR hS (xb_d D_Law_out 9 rfl) hw

theorem m_c91e45e3 : (.methodLink "StackHostLaw" 62 y_H_trap : Cond) ∈ xt_tbl := xt_in (xt_t9 (List.mem_of_getElem? (i := 26) (by decide +kernel))) (by decide +kernel)
theorem m_59e9042a : (.instanceMethod y_H_trap : Cond) ∈ xt_tbl := xt_in (xt_t9 (List.mem_of_getElem? (i := 27) (by decide +kernel))) (by decide +kernel)
theorem m_07731f9f : (.selects "StackHost" y_H_trap y_H_trap : Cond) ∈ xt_tbl := xt_in (xt_t9 (List.mem_of_getElem? (i := 28) (by decide +kernel))) (by decide +kernel)
theorem m_c02db3ff : (.code y_H_trap b_H_trap 2 (some .int) : Cond) ∈ xt_tbl := xt_in (xt_t9 (List.mem_of_getElem? (i := 29) (by decide +kernel))) (by decide +kernel)
theorem nm_H_trap : xt_nm y_H_trap 1 := ⟨by decide +kernel, by decide +kernel⟩
set_option maxRecDepth 100000 in
def T_Law_trap : List (Nat × Instr × Nat) := [(0, .aload_n 2, 1), (1, .iconst 0, 1), (2, .aload_n 0, 1), (3, .iload_n 1, 1), (4, .invokevirtual 62, 3), (7, .i2l, 1), (8, .lastore, 1), (9, .goto 6, 3), (12, .astore_n 3, 1), (13, .iconst 1, 1), (14, .ireturn, 1), (15, .iconst 0, 1), (16, .ireturn, 1)]
theorem D_Law_trap : ∀ q ∈ T_Law_trap, decode b_Law_trap q.1 = .ok (q.2.1, q.2.2) := by decide +kernel
def w_Law_trap (x0 : Nat) (x1 : Int32) (x2 : Nat) (h : xb_H) (bc : Nat) (bs : Nat) (Qr : Int32 → xb_H → Prop) : Prop :=
    xb_k h x0 = 1 ∧ ∃ c4 sc4 : Nat, c4 ≤ bc ∧ sc4 ≤ bs ∧ w_H_trap x0 x1 h c4 sc4 (fun (r3 : Int32) (h2 : xb_H) => xb_ext h h2 → xb_k h2 x2 = 103 ∧ vp_in 0 (xb_n h2 x2) ∧ ∀ h7 : xb_H, h7 = xb_L h2 x2 (Int32.toNatClampNeg 0) (Int32.toInt64 r3) → Qr 0 h7) (fun (XX : String) (h2 : xb_H) => xb_ext h h2 → (XX = "java/lang/IndexOutOfBoundsException" ∧ Qr 1 h2))

set_option maxHeartbeats 4000000 in
set_option maxRecDepth 100000 in
theorem ok_Law_trap (l : Launch) (hfl : l.flags = pinnedFlags ++ [noTraceFlag]) (D : va_G) (A : Nat → Prop) (σ : Nat) (x0 : Nat) (x1 : Int32) (x2 : Nat) (h : xb_H) (bc : Nat) (bs : Nat) (Qr : Int32 → xb_H → Prop) (hw : w_Law_trap x0 x1 x2 h bc bs Qr) : xt_Met l y_Law_trap [.codeWith y_Law_trap b_Law_trap 4 (some .int) [(0, 9, 12, 29)]] (xb_rm 3 bc bs) (xb_Pc D A σ h [.ref x0, .int x1, .ref x2]) (xb_Qc D A h (fun v h => ∃ r, v = some (.int r) ∧ Qr r h) (fun _ _ => False)) bc bs A := by
  refine xb_ofAmH (cc := b_Law_trap) (by decide) (Nat.le_of_ble_eq_true rfl) ?_
  unfold w_Law_trap at hw
  show xb_am l D A σ 3 bc bs h (fun v h => ∃ r, v = some (.int r) ∧ Qr r h) (fun _ _ => False) y_Law_trap.cls y_Law_trap.name b_Law_trap 4 (tableOf [(0, 9, 12, 29)]) (some .int) 0 [(0, .ref x0), (1, .int x1), (2, .ref x2)] [] h bc bs
  obtain ⟨MC, hMC⟩ : ∃ x, x = bc := ⟨_, rfl⟩
  obtain ⟨MS, hMS⟩ : ∃ x, x = bs := ⟨_, rfl⟩
  rw [show xb_am l D A σ 3 bc bs = xb_am l D A σ 3 MC MS by rw [hMC, hMS]]
  obtain ⟨h0, hh0⟩ : ∃ x, x = h := ⟨_, rfl⟩
  rw [show xb_am l D A σ 3 MC MS h = xb_am l D A σ 3 MC MS h0 by rw [hh0]]
  intro p e s m args below meth c hC H locs ls k n hE hl hR hS hk hn
  obtain ⟨hx, hb, hown, hlocks, htab, hml, hr, hB, hA, hnm⟩ := id hC
  have hts := hB.1.1.at args
  refine lv_aload_n hx hb (xb_d D_Law_trap 0 rfl) rfl (lv_at hl 2 rfl) ?_
  refine lv_iconst (v := 0) hx hb (xb_d D_Law_trap 1 rfl) (by decide) ?_
  refine lv_aload_n hx hb (xb_d D_Law_trap 2 rfl) rfl (lv_at hl 0 rfl) ?_
  refine lv_iload_n hx hb (xb_d D_Law_trap 3 rfl) rfl (lv_at hl 1 rfl) ?_
  obtain ⟨hk1, hw⟩ := hw
  obtain ⟨c4, sc4, hlc4, hlsc4, hw⟩ := hw
  refine xb_call (D := D) (A := A) (σ := σ) (h := h) (d := 2) (mc := c4) (ms := sc4) (maxL := 2) (rest := [.int 0, .ref x2]) (av := [.ref x0, .int x1]) (fun T hT X => by obtain ⟨cb, r1, r2, r3⟩ := xb_recv (ci := 0) hR rfl hk1 (by decide); exact xt_invV X hx hown (hts _ m_c91e45e3) (hts _ m_59e9042a) (hts _ m_07731f9f) (xt_sigOf (hts _ m_c02db3ff)) nm_H_trap (by rw [hT]; exact r1) r2 r3 (g := F0 m 4 ls [.int x1, .ref x0, .int 0, .ref x2]) rfl (argsL := [.int x1]) (rest := [.int 0, .ref x2]) rfl rfl (by rw [hb]; exact (xb_d D_Law_trap 4 rfl))) (ok_H_trap l hfl D A σ x0 x1 h c4 sc4 _ _ hw) (hml.trans hl.1.symm) (by rw [hb]; exact (xb_d D_Law_trap 4 rfl)) (Nat.le_of_ble_eq_true rfl) (Nat.le_of_ble_eq_true rfl) (Nat.le_of_ble_eq_true rfl) (show k + c4 ≤ MC by omega) (show n + sc4 ≤ MS by omega) (xt_w1 hB.1 m_c02db3ff) (xt_cdOf hB.1 m_c02db3ff) (hts _ m_ba0734f5) hB hR hS hA (fun vv h2 H locs hq hEh2 hR hS => ?_) (fun XX ax h2 H locs hq hEh2 hex hR hS => ?_)
  · obtain ⟨r3, rfl, hw⟩ := hq
    have hw := hw hEh2
    have hE := hE.tr hEh2
    refine W.eq (g2 := F0 m 7 ls [.int r3, .int 0, .ref x2]) rfl ?_
    refine lv_i2l hx hb (xb_d D_Law_trap 5 rfl) rfl ?_
    obtain ⟨hk5, hw⟩ := hw
    obtain ⟨hi6, hw⟩ := hw
    refine xb_last hx hb hR hS hk5 hi6 (xb_d D_Law_trap 6 rfl) (fun H locs hR hS => ?_)
    obtain ⟨h7, eh7⟩ : ∃ x : xb_H, x = xb_L h2 x2 (Int32.toNatClampNeg 0) (Int32.toInt64 r3) := ⟨_, rfl⟩
    rw [← eh7] at hR
    have hw := hw h7 eh7
    have hE : xb_ext h0 h7 := by rw [eh7]; exact hE
    refine lv_goto (tgt := 15) hx hb (xb_d D_Law_trap 7 rfl) rfl ?_
    refine lv_iconst (v := 0) hx hb (xb_d D_Law_trap 11 rfl) (by decide) ?_
    exact xb_iret hx hb hr hlocks (show (k + c4) ≤ MC by omega) (show (n + sc4) ≤ MS by omega) hE hR hS (xb_d D_Law_trap 12 rfl) hw
  · have hw := hq hEh2
    have hE := hE.tr hEh2
    obtain ⟨rfl, hw⟩ := hw
    refine xt_catch (own := "StackHostLaw") (name := "java/lang/IndexOutOfBoundsException") (Xn := "java/lang/IndexOutOfBoundsException") hown ⟨0, 9, 12, 29⟩ [] htab (by decide) (by decide) (hts _ m_17a0b3c6) (hts _ m_b0d3d118) hex ?_
    refine W.eq (g2 := F0 m 12 ls [.ref ax]) rfl ?_
    refine lv_astore_n hx hb (xb_d D_Law_trap 8 rfl) rfl hl (by decide) rfl (fun ls hl => ?_)
    have hl : lv_has ls 4 [(3, .ref ax), (0, .ref x0), (1, .int x1), (2, .ref x2)] := hl
    refine lv_iconst (v := 1) hx hb (xb_d D_Law_trap 9 rfl) (by decide) ?_
    exact xb_iret hx hb hr hlocks (show (k + c4) ≤ MC by omega) (show (n + sc4) ≤ MS by omega) hE hR hS (xb_d D_Law_trap 10 rfl) hw

