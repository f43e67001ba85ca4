theorem m_13aecbf4 : (.fieldLink "StackHost$Checker" 248 "StackHost$Checker" "SIGNATURES" "[I" : Cond) ∈ xt_tbl := xt_in (xt_t5 (List.mem_of_getElem? (i := 216) (by decide +kernel))) (by decide +kernel)
set_option maxRecDepth 100000 in
def T_Checker_checkNumeric : List (Nat × Instr × Nat) := [(0, .iconst 0, 1), (1, .istore_n 2, 1), (2, .iconst 0, 1), (3, .istore_n 3, 1), (4, .iload_n 3, 1), (5, .getstatic 248, 3), (8, .arraylength, 1), (9, .if_icmp .ge 22, 3), (12, .iload_n 1, 1), (13, .getstatic 248, 3), (16, .iload_n 3, 1), (17, .iaload, 1), (18, .if_icmp .le 13, 3), (21, .iload_n 3, 1), (22, .iconst 4, 1), (23, .iadd, 1), (24, .istore_n 2, 1), (25, .iinc 3 4, 3), (28, .goto (-24), 3), (31, .iconst 0, 1), (32, .istore_n 3, 1), (33, .iload_n 3, 1), (34, .getstatic 248, 3), (37, .iload_n 2, 1), (38, .iconst 1, 1), (39, .iadd, 1), (40, .iaload, 1), (41, .if_icmp .ge 21, 3), (44, .aload_n 0, 1), (45, .getstatic 248, 3), (48, .iload_n 2, 1), (49, .iconst 2, 1), (50, .iadd, 1), (51, .iaload, 1), (52, .invokevirtual 251, 3), (55, .pop, 1), (56, .iinc 3 1, 3), (59, .goto (-26), 3), (62, .aload_n 0, 1), (63, .getstatic 248, 3), (66, .iload_n 2, 1), (67, .iconst 3, 1), (68, .iadd, 1), (69, .iaload, 1), (70, .invokevirtual 236, 3), (73, .return_, 1)]
theorem D_Checker_checkNumeric : ∀ q ∈ T_Checker_checkNumeric, decode b_Checker_checkNumeric q.1 = .ok (q.2.1, q.2.2) := by decide +kernel

set_option maxHeartbeats 4000000 in
set_option maxRecDepth 100000 in
theorem am_Checker_checkNumeric_L33 (l : Launch) (hfl : l.flags = pinnedFlags ++ [noTraceFlag]) (D : va_G) (A : Nat → Prop) (σ MC MS : Nat) (h0 : xb_H) (Qr : xb_H → Nat → Nat → Prop) (Qt : String → xb_H → Nat → Nat → Prop) (n9 : Nat) : ∀ (x0 : Nat) (x2 : Int32) (x3 : Int32) (h : xb_H) (bc : Nat) (bs : Nat), w_Checker_checkNumeric_L33 Qr Qt n9 x0 x2 x3 h bc bs → xb_am l D A σ 4 MC MS h0 (fun v h bc bs => v = none ∧ Qr h bc bs) Qt y_Checker_checkNumeric.cls y_Checker_checkNumeric.name b_Checker_checkNumeric 4 ([] : List ExceptionTableEntry) none 33 [(0, .ref x0), (2, .int x2), (3, .int x3)] [] h bc bs := by
  induction n9 with
  | zero => intro x0 x2 x3 h bc bs hw; exact False.elim hw
  | succ n9 ih =>
    intro x0 x2 x3 h bc bs hw
    unfold w_Checker_checkNumeric_L33 at hw
    intro p e s m args below meth c hC H locs ls k n hE hl hR hS hk hn
    obtain ⟨hx, hb, hown, hlocks, htab, hml, hr, hB, hA, hnm⟩ := id hC
    have hts := hB.1.1.at args
    refine lv_iload_n hx hb (xb_d D_Checker_checkNumeric 21 rfl) rfl (lv_at hl 2 rfl) ?_
    obtain ⟨tt1, hZtt1, hTtt1⟩ := hB.2.1
    refine va_gets hx hb hZtt1 hS hown (hts _ m_13aecbf4) (fun _ h9 => h9) (xb_d D_Checker_checkNumeric 22 rfl) ?_
    refine lv_iload_n hx hb (xb_d D_Checker_checkNumeric 23 rfl) rfl (lv_at hl 1 rfl) ?_
    refine lv_iconst (v := 1) hx hb (xb_d D_Checker_checkNumeric 24 rfl) (by decide) ?_
    refine lv_iadd hx hb (xb_d D_Checker_checkNumeric 25 rfl) ?_
    obtain ⟨hi2, hw⟩ := hw
    refine va_ti (v := .int (xb_cSIG.getD (Int32.toNatClampNeg (x2 + 1)) 0)) hx hb hTtt1 hS hi2 rfl (xb_d D_Checker_checkNumeric 26 rfl) ?_
    refine lv_icmp_ge (tgt := 62) hx hb (xb_d D_Checker_checkNumeric 27 rfl) rfl (fun hc3 => ?_) (fun hc3 => ?_)
    · have hw := hw.1 hc3
      refine lv_aload_n hx hb (xb_d D_Checker_checkNumeric 38 rfl) rfl (lv_at hl 0 rfl) ?_
      obtain ⟨tt4, hZtt4, hTtt4⟩ := hB.2.1
      refine va_gets hx hb hZtt4 hS hown (hts _ m_13aecbf4) (fun _ h9 => h9) (xb_d D_Checker_checkNumeric 39 rfl) ?_
      refine lv_iload_n hx hb (xb_d D_Checker_checkNumeric 40 rfl) rfl (lv_at hl 1 rfl) ?_
      refine lv_iconst (v := 3) hx hb (xb_d D_Checker_checkNumeric 41 rfl) (by decide) ?_
      refine lv_iadd hx hb (xb_d D_Checker_checkNumeric 42 rfl) ?_
      obtain ⟨hi5, hw⟩ := hw
      refine va_ti (v := .int (xb_cSIG.getD (Int32.toNatClampNeg (x2 + 3)) 0)) hx hb hTtt4 hS hi5 rfl (xb_d D_Checker_checkNumeric 43 rfl) ?_
      obtain ⟨hk6, hw⟩ := hw
      refine xb_call0 (D := D) (A := A) (σ := σ) (h := h) (d := 2) (maxL := 2) (rest := []) (av := [.ref x0, .int (xb_cSIG.getD (Int32.toNatClampNeg (x2 + 3)) 0)]) (fun T hT X => by obtain ⟨cb9, ra9, rb9, rc9⟩ := xb_recv (ci := 4) hR rfl hk6 (by decide); exact xt_invV X hx hown (hts _ m_761ff7fc) (hts _ m_e867be1e) (hts _ m_098fc344) (xt_sigOf (hts _ m_43ff17c7)) nm_Checker_put (by rw [hT]; exact ra9) rb9 rc9 (g := F0 m 70 ls [.int (xb_cSIG.getD (Int32.toNatClampNeg (x2 + 3)) 0), .ref x0]) rfl (argsL := [.int (xb_cSIG.getD (Int32.toNatClampNeg (x2 + 3)) 0)]) (rest := []) rfl rfl (by rw [hb]; exact (xb_d D_Checker_checkNumeric 44 rfl))) (ok_Checker_put l hfl D A σ x0 (xb_cSIG.getD (Int32.toNatClampNeg (x2 + 3)) 0) h _ hw) (hml.trans hl.1.symm) (by rw [hb]; exact (xb_d D_Checker_checkNumeric 44 rfl)) (Nat.le_of_ble_eq_true rfl) (Nat.le_of_ble_eq_true rfl) (Nat.le_of_ble_eq_true rfl) (show k ≤ MC by omega) (show n ≤ MS by omega) (xt_w1 hB.1 m_43ff17c7) (xt_cdOf hB.1 m_43ff17c7) (hts _ m_44748ce5) hB hR hS hA (fun vv h7 H locs hq hEh7 hR hS => ?_)
      obtain ⟨rfl, hw⟩ := hq
      have hw := hw hEh7
      have hE := hE.tr hEh7
      refine W.eq (g2 := F0 m 73 ls []) rfl ?_
      exact xb_vret bc bs hx hb hr hlocks (show k + bc ≤ MC by omega) (show n + bs ≤ MS by omega) hE hR hS (xb_d D_Checker_checkNumeric 45 rfl) hw
    · have hw := hw.2 hc3
      refine lv_aload_n hx hb (xb_d D_Checker_checkNumeric 28 rfl) rfl (lv_at hl 0 rfl) ?_
      obtain ⟨tt9, hZtt9, hTtt9⟩ := hB.2.1
      refine va_gets hx hb hZtt9 hS hown (hts _ m_13aecbf4) (fun _ h9 => h9) (xb_d D_Checker_checkNumeric 29 rfl) ?_
      refine lv_iload_n hx hb (xb_d D_Checker_checkNumeric 30 rfl) rfl (lv_at hl 1 rfl) ?_
      refine lv_iconst (v := 2) hx hb (xb_d D_Checker_checkNumeric 31 rfl) (by decide) ?_
      refine lv_iadd hx hb (xb_d D_Checker_checkNumeric 32 rfl) ?_
      obtain ⟨hi10, hw⟩ := hw
      refine va_ti (v := .int (xb_cSIG.getD (Int32.toNatClampNeg (x2 + 2)) 0)) hx hb hTtt9 hS hi10 rfl (xb_d D_Checker_checkNumeric 33 rfl) ?_
      obtain ⟨hk11, hw⟩ := hw
      refine xb_call (D := D) (A := A) (σ := σ) (h := h) (d := 3) (mc := bc) (ms := bs) (maxL := 3) (rest := []) (av := [.ref x0, .int (xb_cSIG.getD (Int32.toNatClampNeg (x2 + 2)) 0)]) (fun T hT X => by obtain ⟨cb9, ra9, rb9, rc9⟩ := xb_recv (ci := 4) hR rfl hk11 (by decide); exact xt_invV X hx hown (hts _ m_0b33e20f) (hts _ m_338dda25) (hts _ m_d7dc08f9) (xt_sigOf (hts _ m_b71cce2b)) nm_Checker_take (by rw [hT]; exact ra9) rb9 rc9 (g := F0 m 52 ls [.int (xb_cSIG.getD (Int32.toNatClampNeg (x2 + 2)) 0), .ref x0]) rfl (argsL := [.int (xb_cSIG.getD (Int32.toNatClampNeg (x2 + 2)) 0)]) (rest := []) rfl rfl (by rw [hb]; exact (xb_d D_Checker_checkNumeric 34 rfl))) (ok_Checker_take l hfl D A σ x0 (xb_cSIG.getD (Int32.toNatClampNeg (x2 + 2)) 0) h bc bs _ _ hw) (hml.trans hl.1.symm) (by rw [hb]; exact (xb_d D_Checker_checkNumeric 34 rfl)) (Nat.le_of_ble_eq_true rfl) (Nat.le_of_ble_eq_true rfl) (Nat.le_of_ble_eq_true rfl) (show k + bc ≤ MC by omega) (show n + bs ≤ MS by omega) (xt_w1 hB.1 m_b71cce2b) (xt_cdOf hB.1 m_b71cce2b) (hts _ m_44748ce5) hB hR hS hA (fun vv h12 bc13 bs13 kk13 nn13 H locs hk13 hn13 hq hEh12 hR hS => ?_) (fun XX ax h12 bc13 bs13 kk13 nn13 H locs hk13 hn13 hq hEh12 hex hR hS => ?_)
      · obtain ⟨r13, rfl, hw⟩ := hq
        have hw := hw hEh12
        have hE := hE.tr hEh12
        refine W.eq (g2 := F0 m 55 ls [.int r13]) rfl ?_
        refine lv_pop hx hb (xb_d D_Checker_checkNumeric 35 rfl) rfl ?_
        refine lv_iinc (v := (x3 + 1)) (k := 2) hx hb (xb_d D_Checker_checkNumeric 36 rfl) hl rfl (by first | rfl | decide) (by decide) rfl (fun ls hl => ?_)
        have hl : lv_has ls 4 [(3, .int (x3 + 1)), (0, .ref x0), (2, .int x2)] := hl
        refine lv_goto (tgt := 33) hx hb (xb_d D_Checker_checkNumeric 37 rfl) rfl ?_
        exact ih x0 x2 (x3 + 1) h12 bc13 bs13 hw p e s m args below meth c hC H locs ls (k + kk13) (n + nn13) hE (lv_sub hl [1, 2, 0] rfl) hR hS (by omega) (by omega)
      · exact xb_pass hlocks (fun x hx9 => by rw [htab] at hx9; first | (cases hx9; done) | (simp [tableOf] at hx9; subst hx9; decide) | (simp [tableOf] at hx9; rcases hx9 with rfl | rfl <;> decide) | (simp [tableOf] at hx9; rcases hx9 with rfl | rfl | rfl <;> decide)) (show (k + kk13) + bc13 ≤ MC by omega) (show (n + nn13) + bs13 ≤ MS by omega) (hE.tr hEh12) hR hS hex hq

set_option maxHeartbeats 4000000 in
set_option maxRecDepth 100000 in
theorem am_Checker_checkNumeric_L31 (l : Launch) (hfl : l.flags = pinnedFlags ++ [noTraceFlag]) (D : va_G) (A : Nat → Prop) (σ MC MS : Nat) (h0 : xb_H) (Qr : xb_H → Nat → Nat → Prop) (Qt : String → xb_H → Nat → Nat → Prop) (x0 : Nat) (x2 : Int32) (h : xb_H) (bc : Nat) (bs : Nat) (hw : w_Checker_checkNumeric_L31 Qr Qt x0 x2 h bc bs) : xb_am l D A σ 4 MC MS h0 (fun v h bc bs => v = none ∧ Qr h bc bs) Qt y_Checker_checkNumeric.cls y_Checker_checkNumeric.name b_Checker_checkNumeric 4 ([] : List ExceptionTableEntry) none 31 [(0, .ref x0), (2, .int x2)] [] h bc bs := by
  unfold w_Checker_checkNumeric_L31 at hw
  intro p e s m args below meth c hC H locs ls k n hE hl hR hS hk hn
  obtain ⟨hx, hb, hown, hlocks, htab, hml, hr, hB, hA, hnm⟩ := id hC
  have hts := hB.1.1.at args
  refine lv_iconst (v := 0) hx hb (xb_d D_Checker_checkNumeric 19 rfl) (by decide) ?_
  refine lv_istore_n hx hb (xb_d D_Checker_checkNumeric 20 rfl) rfl hl (by decide) rfl (fun ls hl => ?_)
  have hl : lv_has ls 4 [(3, .int 0), (0, .ref x0), (2, .int x2)] := hl
  obtain ⟨n8, hw⟩ := hw
  exact am_Checker_checkNumeric_L33 l hfl D A σ MC MS h0 Qr Qt n8 x0 x2 0 h bc bs hw p e s m args below meth c hC H locs ls k n hE (lv_sub hl [1, 2, 0] rfl) hR hS (by omega) (by omega)

set_option maxHeartbeats 4000000 in
set_option maxRecDepth 100000 in
theorem am_Checker_checkNumeric_L4 (l : Launch) (hfl : l.flags = pinnedFlags ++ [noTraceFlag]) (D : va_G) (A : Nat → Prop) (σ MC MS : Nat) (h0 : xb_H) (Qr : xb_H → Nat → Nat → Prop) (Qt : String → xb_H → Nat → Nat → Prop) (n9 : Nat) : ∀ (x0 : Nat) (x1 : Int32) (x2 : Int32) (x3 : Int32) (h : xb_H) (bc : Nat) (bs : Nat), w_Checker_checkNumeric_L4 Qr Qt n9 x0 x1 x2 x3 h bc bs → xb_am l D A σ 4 MC MS h0 (fun v h bc bs => v = none ∧ Qr h bc bs) Qt y_Checker_checkNumeric.cls y_Checker_checkNumeric.name b_Checker_checkNumeric 4 ([] : List ExceptionTableEntry) none 4 [(0, .ref x0), (1, .int x1), (2, .int x2), (3, .int x3)] [] h bc bs := by
  induction n9 with
  | zero => intro x0 x1 x2 x3 h bc bs hw; exact False.elim hw
  | succ n9 ih =>
    intro x0 x1 x2 x3 h bc bs hw
    unfold w_Checker_checkNumeric_L4 at hw
    intro p e s m args below meth c hC H locs ls k n hE hl hR hS hk hn
    obtain ⟨hx, hb, hown, hlocks, htab, hml, hr, hB, hA, hnm⟩ := id hC
    have hts := hB.1.1.at args
    refine lv_iload_n hx hb (xb_d D_Checker_checkNumeric 4 rfl) rfl (lv_at hl 3 rfl) ?_
    obtain ⟨tt1, hZtt1, hTtt1⟩ := hB.2.1
    refine va_gets hx hb hZtt1 hS hown (hts _ m_13aecbf4) (fun _ h9 => h9) (xb_d D_Checker_checkNumeric 5 rfl) ?_
    refine va_tlen (v := 120) hx hb hTtt1 hS (by decide +kernel) (xb_d D_Checker_checkNumeric 6 rfl) ?_
    refine lv_icmp_ge (tgt := 31) hx hb (xb_d D_Checker_checkNumeric 7 rfl) rfl (fun hc2 => ?_) (fun hc2 => ?_)
    · have hw := hw.1 hc2
      exact am_Checker_checkNumeric_L31 l hfl D A σ MC MS h0 Qr Qt x0 x2 h bc bs hw p e s m args below meth c hC H locs ls k n hE (lv_sub hl [0, 2] rfl) hR hS (by omega) (by omega)
    · have hw := hw.2 hc2
      refine lv_iload_n hx hb (xb_d D_Checker_checkNumeric 8 rfl) rfl (lv_at hl 1 rfl) ?_
      obtain ⟨tt3, hZtt3, hTtt3⟩ := hB.2.1
      refine va_gets hx hb hZtt3 hS hown (hts _ m_13aecbf4) (fun _ h9 => h9) (xb_d D_Checker_checkNumeric 9 rfl) ?_
      refine lv_iload_n hx hb (xb_d D_Checker_checkNumeric 10 rfl) rfl (lv_at hl 3 rfl) ?_
      obtain ⟨hi4, hw⟩ := hw
      refine va_ti (v := .int (xb_cSIG.getD (Int32.toNatClampNeg x3) 0)) hx hb hTtt3 hS hi4 rfl (xb_d D_Checker_checkNumeric 11 rfl) ?_
      refine lv_icmp_le (tgt := 31) hx hb (xb_d D_Checker_checkNumeric 12 rfl) rfl (fun hc5 => ?_) (fun hc5 => ?_)
      · have hw := hw.1 hc5
        exact am_Checker_checkNumeric_L31 l hfl D A σ MC MS h0 Qr Qt x0 x2 h bc bs hw p e s m args below meth c hC H locs ls k n hE (lv_sub hl [0, 2] rfl) hR hS (by omega) (by omega)
      · have hw := hw.2 hc5
        refine lv_iload_n hx hb (xb_d D_Checker_checkNumeric 13 rfl) rfl (lv_at hl 3 rfl) ?_
        refine lv_iconst (v := 4) hx hb (xb_d D_Checker_checkNumeric 14 rfl) (by decide) ?_
        refine lv_iadd hx hb (xb_d D_Checker_checkNumeric 15 rfl) ?_
        obtain ⟨v6, ev6⟩ : ∃ x : Int32, x = (x3 + 4) := ⟨_, rfl⟩
        have hw := hw v6 ev6
        refine xt_numi (y := v6) ev6.symm ?_
        refine lv_istore_n hx hb (xb_d D_Checker_checkNumeric 16 rfl) rfl hl (by decide) rfl (fun ls hl => ?_)
        have hl : lv_has ls 4 [(2, .int v6), (0, .ref x0), (1, .int x1), (3, .int x3)] := hl
        refine lv_iinc (v := (x3 + 4)) (k := 3) hx hb (xb_d D_Checker_checkNumeric 17 rfl) hl rfl (by first | rfl | decide) (by decide) rfl (fun ls hl => ?_)
        have hl : lv_has ls 4 [(3, .int (x3 + 4)), (2, .int v6), (0, .ref x0), (1, .int x1)] := hl
        refine lv_goto (tgt := 4) hx hb (xb_d D_Checker_checkNumeric 18 rfl) rfl ?_
        exact ih x0 x1 v6 (x3 + 4) h bc bs hw p e s m args below meth c hC H locs ls k n hE (lv_sub hl [2, 3, 1, 0] rfl) hR hS (by omega) (by omega)

set_option maxHeartbeats 4000000 in
set_option maxRecDepth 100000 in
theorem ok_Checker_checkNumeric (l : Launch) (hfl : l.flags = pinnedFlags ++ [noTraceFlag]) (D : va_G) (A : Nat → Prop) (σ : Nat) (x0 : Nat) (x1 : Int32) (h : xb_H) (bc : Nat) (bs : Nat) (Qr : xb_H → Nat → Nat → Prop) (Qt : String → xb_H → Nat → Nat → Prop) (hw : w_Checker_checkNumeric x0 x1 h bc bs Qr Qt) : xb_Met l y_Checker_checkNumeric [.code y_Checker_checkNumeric b_Checker_checkNumeric 4 none] (xb_rm 4 bc bs) (xb_Pc D A σ h [.ref x0, .int x1]) (xb_Qc D A h bc bs (fun v h bc bs => v = none ∧ Qr h bc bs) Qt) A := by
  refine xb_ofAm (cc := b_Checker_checkNumeric) (by decide) (Nat.le_of_ble_eq_true rfl) ?_
  unfold w_Checker_checkNumeric at hw
  show xb_am l D A σ 4 bc bs h (fun v h bc bs => v = none ∧ Qr h bc bs) Qt y_Checker_checkNumeric.cls y_Checker_checkNumeric.name b_Checker_checkNumeric 4 ([] : List ExceptionTableEntry) none 0 [(0, .ref x0), (1, .int x1)] [] h bc bs
  obtain ⟨MC, hMC⟩ : ∃ x, x = bc := ⟨_, rfl⟩
  obtain ⟨MS, hMS⟩ : ∃ x, x = bs := ⟨_, rfl⟩
  rw [show xb_am l D A σ 4 bc bs = xb_am l D A σ 4 MC MS by rw [hMC, hMS]]
  obtain ⟨h0, hh0⟩ : ∃ x, x = h := ⟨_, rfl⟩
  rw [show xb_am l D A σ 4 MC MS h = xb_am l D A σ 4 MC MS h0 by rw [hh0]]
  intro p e s m args below meth c hC H locs ls k n hE hl hR hS hk hn
  obtain ⟨hx, hb, hown, hlocks, htab, hml, hr, hB, hA, hnm⟩ := id hC
  have hts := hB.1.1.at args
  refine lv_iconst (v := 0) hx hb (xb_d D_Checker_checkNumeric 0 rfl) (by decide) ?_
  refine lv_istore_n hx hb (xb_d D_Checker_checkNumeric 1 rfl) rfl hl (by decide) rfl (fun ls hl => ?_)
  have hl : lv_has ls 4 [(2, .int 0), (0, .ref x0), (1, .int x1)] := hl
  refine lv_iconst (v := 0) hx hb (xb_d D_Checker_checkNumeric 2 rfl) (by decide) ?_
  refine lv_istore_n hx hb (xb_d D_Checker_checkNumeric 3 rfl) rfl hl (by decide) rfl (fun ls hl => ?_)
  have hl : lv_has ls 4 [(3, .int 0), (2, .int 0), (0, .ref x0), (1, .int x1)] := hl
  obtain ⟨n8, hw⟩ := hw
  exact am_Checker_checkNumeric_L4 l hfl D A σ MC MS h0 Qr Qt n8 x0 x1 0 0 h bc bs hw p e s m args below meth c hC H locs ls k n hE (lv_sub hl [2, 3, 1, 0] rfl) hR hS (by omega) (by omega)

theorem m_8c087939 : (.methodLink "StackHost$Checker" 137 y_Checker_checkExpression : Cond) ∈ xt_tbl := xt_in (xt_t4 (List.mem_of_getElem? (i := 131) (by decide +kernel))) (by decide +kernel)
theorem m_6cd68843 : (.instanceMethod y_Checker_checkExpression : Cond) ∈ xt_tbl := xt_in (xt_t4 (List.mem_of_getElem? (i := 133) (by decide +kernel))) (by decide +kernel)
theorem m_835be859 : (.selects "StackHost$Checker" y_Checker_checkExpression y_Checker_checkExpression : Cond) ∈ xt_tbl := xt_in (xt_v3 (q := (⟨"StackHost$Checker", "checkExpression", "(II)V"⟩, 17)) (List.mem_of_getElem? (i := 5) (by decide +kernel))) (by decide +kernel)
theorem m_8e908334 : (.code y_Checker_checkExpression b_Checker_checkExpression 5 none : Cond) ∈ xt_tbl := xt_in (xt_t4 (List.mem_of_getElem? (i := 134) (by decide +kernel))) (by decide +kernel)
theorem nm_Checker_checkExpression : xt_nm y_Checker_checkExpression 2 := ⟨by decide +kernel, by decide +kernel⟩
set_option maxRecDepth 100000 in
def T_Checker_checkOffset : List (Nat × Instr × Nat) := [(0, .aload_n 1, 1), (1, .iload_n 2, 1), (2, .iconst 1, 1), (3, .invokevirtual 121, 3), (6, .iload_n 3, 1), (7, .invokestatic 125, 3), (10, .ifCond .ne 18, 3), (13, .aload_n 0, 1), (14, .getfield 38, 3), (17, .bipush 20, 2), (19, .aload_n 1, 1), (20, .iload_n 2, 1), (21, .iconst 0, 1), (22, .invokevirtual 90, 3), (25, .invokevirtual 94, 3), (28, .aload_n 0, 1), (29, .aload_n 1, 1), (30, .iload_n 2, 1), (31, .iconst 2, 1), (32, .invokevirtual 90, 3), (35, .bipush 127, 2), (37, .invokevirtual 137, 3), (40, .return_, 1)]
theorem D_Checker_checkOffset : ∀ q ∈ T_Checker_checkOffset, decode b_Checker_checkOffset q.1 = .ok (q.2.1, q.2.2) := by decide +kernel

set_option maxHeartbeats 4000000 in
set_option maxRecDepth 100000 in
theorem am_Checker_checkOffset_L28 (l : Launch) (hfl : l.flags = pinnedFlags ++ [noTraceFlag]) (D : va_G) (A : Nat → Prop) (σ MC MS : Nat) (h0 : xb_H) (Qr : xb_H → Nat → Nat → Prop) (Qt : String → xb_H → Nat → Nat → Prop) (x0 : Nat) (x1 : Nat) (x2 : Int32) (h : xb_H) (bc : Nat) (bs : Nat) (hw : w_Checker_checkOffset_L28 Qr Qt x0 x1 x2 h bc bs) : xb_am l D A σ 4 MC MS h0 (fun v h bc bs => v = none ∧ Qr h bc bs) Qt y_Checker_checkOffset.cls y_Checker_checkOffset.name b_Checker_checkOffset 4 ([] : List ExceptionTableEntry) none 28 [(0, .ref x0), (1, .ref x1), (2, .int x2)] [] h bc bs := by
  unfold w_Checker_checkOffset_L28 at hw
  intro p e s m args below meth c hC H locs ls k n hE hl hR hS hk hn
  obtain ⟨hx, hb, hown, hlocks, htab, hml, hr, hB, hA, hnm⟩ := id hC
  have hts := hB.1.1.at args
  refine lv_aload_n hx hb (xb_d D_Checker_checkOffset 15 rfl) rfl (lv_at hl 0 rfl) ?_
  refine lv_aload_n hx hb (xb_d D_Checker_checkOffset 16 rfl) rfl (lv_at hl 1 rfl) ?_
  refine lv_iload_n hx hb (xb_d D_Checker_checkOffset 17 rfl) rfl (lv_at hl 2 rfl) ?_
  refine lv_iconst (v := 2) hx hb (xb_d D_Checker_checkOffset 18 rfl) (by decide) ?_
  obtain ⟨hk1, hw⟩ := hw
  refine xb_call0 (D := D) (A := A) (σ := σ) (h := h) (d := 2) (maxL := 3) (rest := [.ref x0]) (av := [.ref x1, .int x2, .int 2]) (fun T hT X => by obtain ⟨cb9, ra9, rb9, rc9⟩ := xb_recv (ci := 1) hR rfl hk1 (by decide); exact xt_invV X hx hown (hts _ m_068feb96) (hts _ m_8e233096) (hts _ m_27eed10c) (xt_sigOf (hts _ m_ff1c70ae)) nm_Row_at (by rw [hT]; exact ra9) rb9 rc9 (g := F0 m 32 ls [.int 2, .int x2, .ref x1, .ref x0]) rfl (argsL := [.int x2, .int 2]) (rest := [.ref x0]) rfl rfl (by rw [hb]; exact (xb_d D_Checker_checkOffset 19 rfl))) (ok_Row_at l hfl D A σ x1 x2 2 h _ hw) (hml.trans hl.1.symm) (by rw [hb]; exact (xb_d D_Checker_checkOffset 19 rfl)) (Nat.le_of_ble_eq_true rfl) (Nat.le_of_ble_eq_true rfl) (Nat.le_of_ble_eq_true rfl) (show k ≤ MC by omega) (show n ≤ MS by omega) (xt_w1 hB.1 m_ff1c70ae) (xt_cdOf hB.1 m_ff1c70ae) (hts _ m_c1bef504) hB hR hS hA (fun vv h2 H locs hq hEh2 hR hS => ?_)
  obtain ⟨r3, rfl, hw⟩ := hq
  have hw := hw hEh2
  have hE := hE.tr hEh2
  refine W.eq (g2 := F0 m 35 ls [.int r3, .ref x0]) rfl ?_
  refine lv_bipush (v := 127) hx hb (xb_d D_Checker_checkOffset 20 rfl) (by decide) ?_
  obtain ⟨hk4, hw⟩ := hw
  refine xb_call (D := D) (A := A) (σ := σ) (h := h2) (d := 3) (mc := bc) (ms := bs) (maxL := 5) (rest := []) (av := [.ref x0, .int r3, .int 127]) (fun T hT X => by obtain ⟨cb9, ra9, rb9, rc9⟩ := xb_recv (ci := 4) hR rfl hk4 (by decide); exact xt_invV X hx hown (hts _ m_8c087939) (hts _ m_6cd68843) (hts _ m_835be859) (xt_sigOf (hts _ m_8e908334)) nm_Checker_checkExpression (by rw [hT]; exact ra9) rb9 rc9 (g := F0 m 37 ls [.int 127, .int r3, .ref x0]) rfl (argsL := [.int r3, .int 127]) (rest := []) rfl rfl (by rw [hb]; exact (xb_d D_Checker_checkOffset 21 rfl))) (ok_Checker_checkExpression l hfl D A σ x0 r3 127 h2 bc bs _ _ hw) (hml.trans hl.1.symm) (by rw [hb]; exact (xb_d D_Checker_checkOffset 21 rfl)) (Nat.le_of_ble_eq_true rfl) (Nat.le_of_ble_eq_true rfl) (Nat.le_of_ble_eq_true rfl) (show k + bc ≤ MC by omega) (show n + bs ≤ MS by omega) (xt_w1 hB.1 m_8e908334) (xt_cdOf hB.1 m_8e908334) (hts _ m_44748ce5) hB hR hS hA (fun vv h5 bc6 bs6 kk6 nn6 H locs hk6 hn6 hq hEh5 hR hS => ?_) (fun XX ax h5 bc6 bs6 kk6 nn6 H locs hk6 hn6 hq hEh5 hex hR hS => ?_)
  · obtain ⟨rfl, hw⟩ := hq
    have hw := hw hEh5
    have hE := hE.tr hEh5
    refine W.eq (g2 := F0 m 40 ls []) rfl ?_
    exact xb_vret bc6 bs6 hx hb hr hlocks (show (k + kk6) + bc6 ≤ MC by omega) (show (n + nn6) + bs6 ≤ MS by omega) hE hR hS (xb_d D_Checker_checkOffset 22 rfl) hw
  · exact xb_pass hlocks (fun x hx9 => by rw [htab] at hx9; first | (cases hx9; done) | (simp [tableOf] at hx9; subst hx9; decide) | (simp [tableOf] at hx9; rcases hx9 with rfl | rfl <;> decide) | (simp [tableOf] at hx9; rcases hx9 with rfl | rfl | rfl <;> decide)) (show (k + kk6) + bc6 ≤ MC by omega) (show (n + nn6) + bs6 ≤ MS by omega) (hE.tr hEh5) hR hS hex hq

set_option maxHeartbeats 4000000 in
set_option maxRecDepth 100000 in
theorem ok_Checker_checkOffset (l : Launch) (hfl : l.flags = pinnedFlags ++ [noTraceFlag]) (D : va_G) (A : Nat → Prop) (σ : Nat) (x0 : Nat) (x1 : Nat) (x2 : Int32) (x3 : Int32) (h : xb_H) (bc : Nat) (bs : Nat) (Qr : xb_H → Nat → Nat → Prop) (Qt : String → xb_H → Nat → Nat → Prop) (hw : w_Checker_checkOffset x0 x1 x2 x3 h bc bs Qr Qt) : xb_Met l y_Checker_checkOffset [.code y_Checker_checkOffset b_Checker_checkOffset 4 none] (xb_rm 4 bc bs) (xb_Pc D A σ h [.ref x0, .ref x1, .int x2, .int x3]) (xb_Qc D A h bc bs (fun v h bc bs => v = none ∧ Qr h bc bs) Qt) A := by
  refine xb_ofAm (cc := b_Checker_checkOffset) (by decide) (Nat.le_of_ble_eq_true rfl) ?_
  unfold w_Checker_checkOffset at hw
  show xb_am l D A σ 4 bc bs h (fun v h bc bs => v = none ∧ Qr h bc bs) Qt y_Checker_checkOffset.cls y_Checker_checkOffset.name b_Checker_checkOffset 4 ([] : List ExceptionTableEntry) none 0 [(0, .ref x0), (1, .ref x1), (2, .int x2), (3, .int x3)] [] h bc bs
  obtain ⟨MC, hMC⟩ : ∃ x, x = bc := ⟨_, rfl⟩
  obtain ⟨MS, hMS⟩ : ∃ x, x = bs := ⟨_, rfl⟩
  rw [show xb_am l D A σ 4 bc bs = xb_am l D A σ 4 MC MS by rw [hMC, hMS]]
  obtain ⟨h0, hh0⟩ : ∃ x, x = h := ⟨_, rfl⟩
  rw [show xb_am l D A σ 4 MC MS h = xb_am l D A σ 4 MC MS h0 by rw [hh0]]
  intro p e s m args below meth c hC H locs ls k n hE hl hR hS hk hn
  obtain ⟨hx, hb, hown, hlocks, htab, hml, hr, hB, hA, hnm⟩ := id hC
  have hts := hB.1.1.at args
  refine lv_aload_n hx hb (xb_d D_Checker_checkOffset 0 rfl) rfl (lv_at hl 1 rfl) ?_
  refine lv_iload_n hx hb (xb_d D_Checker_checkOffset 1 rfl) rfl (lv_at hl 2 rfl) ?_
  refine lv_iconst (v := 1) hx hb (xb_d D_Checker_checkOffset 2 rfl) (by decide) ?_
  obtain ⟨hk1, hw⟩ := hw
  refine xb_call0 (D := D) (A := A) (σ := σ) (h := h) (d := 2) (maxL := 3) (rest := []) (av := [.ref x1, .int x2, .int 1]) (fun T hT X => by obtain ⟨cb9, ra9, rb9, rc9⟩ := xb_recv (ci := 1) hR rfl hk1 (by decide); exact xt_invV X hx hown (hts _ m_e00feb7e) (hts _ m_8db3b24f) (hts _ m_78dc30a4) (xt_sigOf (hts _ m_a4177401)) nm_Row_longAt (by rw [hT]; exact ra9) rb9 rc9 (g := F0 m 3 ls [.int 1, .int x2, .ref x1]) rfl (argsL := [.int x2, .int 1]) (rest := []) rfl rfl (by rw [hb]; exact (xb_d D_Checker_checkOffset 3 rfl))) (ok_Row_longAt l hfl D A σ x1 x2 1 h _ hw) (hml.trans hl.1.symm) (by rw [hb]; exact (xb_d D_Checker_checkOffset 3 rfl)) (Nat.le_of_ble_eq_true rfl) (Nat.le_of_ble_eq_true rfl) (Nat.le_of_ble_eq_true rfl) (show k ≤ MC by omega) (show n ≤ MS by omega) (xt_w1 hB.1 m_a4177401) (xt_cdOf hB.1 m_a4177401) (hts _ m_c1bef504) hB hR hS hA (fun vv h2 H locs hq hEh2 hR hS => ?_)
  obtain ⟨r3, rfl, hw⟩ := hq
  have hw := hw hEh2
  have hE := hE.tr hEh2
  refine W.eq (g2 := F0 m 6 ls [.long r3]) rfl ?_
  refine lv_iload_n hx hb (xb_d D_Checker_checkOffset 4 rfl) rfl (lv_at hl 3 rfl) ?_
  refine xb_call0 (D := D) (A := A) (σ := σ) (h := h2) (d := 2) (maxL := 3) (rest := []) (av := [.long r3, .int x3]) (fun T hT X => xt_invS X hx hown (hts _ m_fe08b245) (hts _ m_9ad1e0af) (hts _ m_44748ce5) (xt_sgS (hts _ m_2237aee6)).1 (xt_sgS (hts _ m_2237aee6)).2 nm_Checker_isThere (g := F0 m 7 ls [.int x3, .long r3]) rfl (argsL := [.long r3, .int x3]) (rest := []) rfl rfl (by rw [hb]; exact (xb_d D_Checker_checkOffset 5 rfl))) (ok_Checker_isThere l hfl D A σ r3 x3 h2 _ hw) (hml.trans hl.1.symm) (by rw [hb]; exact (xb_d D_Checker_checkOffset 5 rfl)) (Nat.le_of_ble_eq_true rfl) (Nat.le_of_ble_eq_true rfl) (Nat.le_of_ble_eq_true rfl) (show k ≤ MC by omega) (show n ≤ MS by omega) (xt_w1 hB.1 m_2237aee6) (xt_cdOf hB.1 m_2237aee6) (hts _ m_44748ce5) hB hR hS hA (fun vv h4 H locs hq hEh4 hR hS => ?_)
  obtain ⟨r5, rfl, hw⟩ := hq
  have hw := hw hEh4
  have hE := hE.tr hEh4
  refine W.eq (g2 := F0 m 10 ls [.int r5]) rfl ?_
  refine lv_if_ne (tgt := 28) hx hb (xb_d D_Checker_checkOffset 6 rfl) rfl (fun hc6 => ?_) (fun hc6 => ?_)
  · have hw := hw.1 hc6
    exact am_Checker_checkOffset_L28 l hfl D A σ MC MS h0 Qr Qt x0 x1 x2 h4 bc bs hw p e s m args below meth c hC H locs ls k n hE (lv_sub hl [0, 1, 2] rfl) hR hS (by omega) (by omega)
  · have hw := hw.2 hc6
    refine lv_aload_n hx hb (xb_d D_Checker_checkOffset 7 rfl) rfl (lv_at hl 0 rfl) ?_
    obtain ⟨hk7, hw⟩ := hw
    refine xb_getP (C := R_Checker) (T := F_Checker) (N := 17) hx hb 4 0 hts fin_Checker hown hR hk7 (by decide) rfl (by decide) rfl (hts _ m_070795bc) (fun _ h9 => h9) (xb_d D_Checker_checkOffset 8 rfl) ?_
    obtain ⟨b8, eb8, hw⟩ := hw
    refine xb_some eb8 ?_
    refine lv_bipush (v := 20) hx hb (xb_d D_Checker_checkOffset 9 rfl) (by decide) ?_
    refine lv_aload_n hx hb (xb_d D_Checker_checkOffset 10 rfl) rfl (lv_at hl 1 rfl) ?_
    refine lv_iload_n hx hb (xb_d D_Checker_checkOffset 11 rfl) rfl (lv_at hl 2 rfl) ?_
    refine lv_iconst (v := 0) hx hb (xb_d D_Checker_checkOffset 12 rfl) (by decide) ?_
    have hk1 : xb_k h2 x1 = 2 := hEh2.k hk1
    have hk1 : xb_k h4 x1 = 2 := hEh4.k hk1
    refine xb_call0 (D := D) (A := A) (σ := σ) (h := h4) (d := 2) (maxL := 3) (rest := [.int 20, .ref b8]) (av := [.ref x1, .int x2, .int 0]) (fun T hT X => by obtain ⟨cb9, ra9, rb9, rc9⟩ := xb_recv (ci := 1) hR rfl hk1 (by decide); exact xt_invV X hx hown (hts _ m_068feb96) (hts _ m_8e233096) (hts _ m_27eed10c) (xt_sigOf (hts _ m_ff1c70ae)) nm_Row_at (by rw [hT]; exact ra9) rb9 rc9 (g := F0 m 22 ls [.int 0, .int x2, .ref x1, .int 20, .ref b8]) rfl (argsL := [.int x2, .int 0]) (rest := [.int 20, .ref b8]) rfl rfl (by rw [hb]; exact (xb_d D_Checker_checkOffset 13 rfl))) (ok_Row_at l hfl D A σ x1 x2 0 h4 _ hw) (hml.trans hl.1.symm) (by rw [hb]; exact (xb_d D_Checker_checkOffset 13 rfl)) (Nat.le_of_ble_eq_true rfl) (Nat.le_of_ble_eq_true rfl) (Nat.le_of_ble_eq_true rfl) (show k ≤ MC by omega) (show n ≤ MS by omega) (xt_w1 hB.1 m_ff1c70ae) (xt_cdOf hB.1 m_ff1c70ae) (hts _ m_c1bef504) hB hR hS hA (fun vv h9 H locs hq hEh9 hR hS => ?_)
    obtain ⟨r10, rfl, hw⟩ := hq
    have hw := hw hEh9
    have hE := hE.tr hEh9
    refine W.eq (g2 := F0 m 25 ls [.int r10, .int 20, .ref b8]) rfl ?_
    obtain ⟨hk11, hw⟩ := hw
    refine xb_call (D := D) (A := A) (σ := σ) (h := h9) (d := 2) (mc := bc) (ms := bs) (maxL := 3) (rest := []) (av := [.ref b8, .int 20, .int r10]) (fun T hT X => by obtain ⟨cb9, ra9, rb9, rc9⟩ := xb_recv (ci := 2) hR rfl hk11 (by decide); exact xt_invV X hx hown (hts _ m_1d37521a) (hts _ m_865d5b07) (hts _ m_113f8f75) (xt_sigOf (hts _ m_73e65e5f)) nm_StackModule_fail (by rw [hT]; exact ra9) rb9 rc9 (g := F0 m 25 ls [.int r10, .int 20, .ref b8]) rfl (argsL := [.int 20, .int r10]) (rest := []) rfl rfl (by rw [hb]; exact (xb_d D_Checker_checkOffset 14 rfl))) (ok_StackModule_fail l hfl D A σ b8 20 r10 h9 bc bs _ _ hw) (hml.trans hl.1.symm) (by rw [hb]; exact (xb_d D_Checker_checkOffset 14 rfl)) (Nat.le_of_ble_eq_true rfl) (Nat.le_of_ble_eq_true rfl) (Nat.le_of_ble_eq_true rfl) (show k + bc ≤ MC by omega) (show n + bs ≤ MS by omega) (xt_w1 hB.1 m_73e65e5f) (xt_cdOf hB.1 m_73e65e5f) (hts _ m_9c375545) hB hR hS hA (fun vv h12 bc13 bs13 kk13 nn13 H locs hk13 hn13 hq hEh12 hR hS => ?_) (fun XX ax h12 bc13 bs13 kk13 nn13 H locs hk13 hn13 hq hEh12 hex hR hS => ?_)
    · obtain ⟨rfl, hw⟩ := hq
      have hw := hw hEh12
      have hE := hE.tr hEh12
      refine W.eq (g2 := F0 m 28 ls []) rfl ?_
      exact am_Checker_checkOffset_L28 l hfl D A σ MC MS h0 Qr Qt x0 x1 x2 h12 bc13 bs13 hw p e s m args below meth c hC H locs ls (k + kk13) (n + nn13) hE (lv_sub hl [0, 1, 2] rfl) hR hS (by omega) (by omega)
    · exact xb_pass hlocks (fun x hx9 => by rw [htab] at hx9; first | (cases hx9; done) | (simp [tableOf] at hx9; subst hx9; decide) | (simp [tableOf] at hx9; rcases hx9 with rfl | rfl <;> decide) | (simp [tableOf] at hx9; rcases hx9 with rfl | rfl | rfl <;> decide)) (show (k + kk13) + bc13 ≤ MC by omega) (show (n + nn13) + bs13 ≤ MS by omega) (hE.tr hEh12) hR hS hex hq

set_option maxRecDepth 100000 in
def T_Checker_checkOpening : List (Nat × Instr × Nat) := [(0, .iload_n 1, 1), (1, .iconst 4, 1), (2, .if_icmp .ne 10, 3), (5, .aload_n 0, 1), (6, .bipush 127, 2), (8, .invokevirtual 251, 3), (11, .pop, 1), (12, .aload_n 0, 1), (13, .getfield 47, 3), (16, .aload_n 0, 1), (17, .getfield 196, 3), (20, .iconst 1, 1), (21, .iadd, 1), (22, .baload, 1), (23, .istore_n 2, 1), (24, .aload_n 0, 1), (25, .getfield 51, 3), (28, .aload_n 0, 1), (29, .getfield 196, 3), (32, .aload_n 0, 1), (33, .getfield 187, 3), (36, .iastore, 1), (37, .aload_n 0, 1), (38, .iload_n 1, 1), (39, .aload_n 0, 1), (40, .getfield 196, 3), (43, .iload_n 1, 1), (44, .iconst 3, 1), (45, .if_icmp .ne 8, 3), (48, .bipush 64, 2), (50, .goto 4, 3), (53, .iload_n 2, 1), (54, .iload_n 2, 1), (55, .invokevirtual 202, 3), (58, .return_, 1)]
theorem D_Checker_checkOpening : ∀ q ∈ T_Checker_checkOpening, decode b_Checker_checkOpening q.1 = .ok (q.2.1, q.2.2) := by decide +kernel

set_option maxHeartbeats 4000000 in
set_option maxRecDepth 100000 in
theorem am_Checker_checkOpening_L54 (l : Launch) (hfl : l.flags = pinnedFlags ++ [noTraceFlag]) (D : va_G) (A : Nat → Prop) (σ MC MS : Nat) (h0 : xb_H) (Qr : xb_H → Nat → Nat → Prop) (Qt : String → xb_H → Nat → Nat → Prop) (x2 : Int32) (y0 : Int32) (y1 : Int32) (y2 : Int32) (y3 : Nat) (h : xb_H) (bc : Nat) (bs : Nat) (hw : w_Checker_checkOpening_L54 Qr Qt x2 y0 y1 y2 y3 h bc bs) : xb_am l D A σ 4 MC MS h0 (fun v h bc bs => v = none ∧ Qr h bc bs) Qt y_Checker_checkOpening.cls y_Checker_checkOpening.name b_Checker_checkOpening 3 ([] : List ExceptionTableEntry) none 54 [(2, .int x2)] [.int y0, .int y1, .int y2, .ref y3] h bc bs := by
  unfold w_Checker_checkOpening_L54 at hw
  intro p e s m args below meth c hC H locs ls k n hE hl hR hS hk hn
  obtain ⟨hx, hb, hown, hlocks, htab, hml, hr, hB, hA, hnm⟩ := id hC
  have hts := hB.1.1.at args
  refine lv_iload_n hx hb (xb_d D_Checker_checkOpening 32 rfl) rfl (lv_at hl 0 rfl) ?_
  obtain ⟨hk1, hw⟩ := hw
  refine xb_call0 (D := D) (A := A) (σ := σ) (h := h) (d := 2) (maxL := 5) (rest := []) (av := [.ref y3, .int y2, .int y1, .int y0, .int x2]) (fun T hT X => by obtain ⟨cb9, ra9, rb9, rc9⟩ := xb_recv (ci := 4) hR rfl hk1 (by decide); exact xt_invV X hx hown (hts _ m_1d11d801) (hts _ m_4317fe73) (hts _ m_b4ed1ff8) (xt_sigOf (hts _ m_b39dcac6)) nm_Checker_openThing (by rw [hT]; exact ra9) rb9 rc9 (g := F0 m 55 ls [.int x2, .int y0, .int y1, .int y2, .ref y3]) rfl (argsL := [.int y2, .int y1, .int y0, .int x2]) (rest := []) rfl rfl (by rw [hb]; exact (xb_d D_Checker_checkOpening 33 rfl))) (ok_Checker_openThing l hfl D A σ y3 y2 y1 y0 x2 h _ hw) (hml.trans hl.1.symm) (by rw [hb]; exact (xb_d D_Checker_checkOpening 33 rfl)) (Nat.le_of_ble_eq_true rfl) (Nat.le_of_ble_eq_true rfl) (Nat.le_of_ble_eq_true rfl) (show k ≤ MC by omega) (show n ≤ MS by omega) (xt_w1 hB.1 m_b39dcac6) (xt_cdOf hB.1 m_b39dcac6) (hts _ m_44748ce5) hB hR hS hA (fun vv h2 H locs hq hEh2 hR hS => ?_)
  obtain ⟨rfl, hw⟩ := hq
  have hw := hw hEh2
  have hE := hE.tr hEh2
  refine W.eq (g2 := F0 m 58 ls []) rfl ?_
  exact xb_vret bc bs hx hb hr hlocks (show k + bc ≤ MC by omega) (show n + bs ≤ MS by omega) hE hR hS (xb_d D_Checker_checkOpening 34 rfl) hw

set_option maxHeartbeats 4000000 in
set_option maxRecDepth 100000 in
theorem am_Checker_checkOpening_L12 (l : Launch) (hfl : l.flags = pinnedFlags ++ [noTraceFlag]) (D : va_G) (A : Nat → Prop) (σ MC MS : Nat) (h0 : xb_H) (Qr : xb_H → Nat → Nat → Prop) (Qt : String → xb_H → Nat → Nat → Prop) (x0 : Nat) (x1 : Int32) (h : xb_H) (bc : Nat) (bs : Nat) (hw : w_Checker_checkOpening_L12 Qr Qt x0 x1 h bc bs) : xb_am l D A σ 4 MC MS h0 (fun v h bc bs => v = none ∧ Qr h bc bs) Qt y_Checker_checkOpening.cls y_Checker_checkOpening.name b_Checker_checkOpening 3 ([] : List ExceptionTableEntry) none 12 [(0, .ref x0), (1, .int x1)] [] h bc bs := by
  unfold w_Checker_checkOpening_L12 at hw
  intro p e s m args below meth c hC H locs ls k n hE hl hR hS hk hn
  obtain ⟨hx, hb, hown, hlocks, htab, hml, hr, hB, hA, hnm⟩ := id hC
  have hts := hB.1.1.at args
  refine lv_aload_n hx hb (xb_d D_Checker_checkOpening 7 rfl) rfl (lv_at hl 0 rfl) ?_
  obtain ⟨hk1, hw⟩ := hw
  refine xb_getP (C := R_Checker) (T := F_Checker) (N := 17) hx hb 4 1 hts fin_Checker hown hR hk1 (by decide) rfl (by decide) rfl (hts _ m_8db7c2eb) (fun _ h9 => h9) (xb_d D_Checker_checkOpening 8 rfl) ?_
  obtain ⟨b2, eb2, hw⟩ := hw
  refine xb_some eb2 ?_
  refine lv_aload_n hx hb (xb_d D_Checker_checkOpening 9 rfl) rfl (lv_at hl 0 rfl) ?_
  refine xb_getI (C := R_Checker) (T := F_Checker) (N := 17) hx hb 4 9 hts fin_Checker hown hR hk1 (by decide) rfl (by decide) rfl (hts _ m_28193d38) (fun _ h9 => h9) (xb_d D_Checker_checkOpening 10 rfl) ?_
  refine lv_iconst (v := 1) hx hb (xb_d D_Checker_checkOpening 11 rfl) (by decide) ?_
  refine lv_iadd hx hb (xb_d D_Checker_checkOpening 12 rfl) ?_
  obtain ⟨hk4, hw⟩ := hw
  obtain ⟨hi3, hw⟩ := hw
  refine xb_bald hx hb hR hk4 hi3 (xb_d D_Checker_checkOpening 13 rfl) ?_
  obtain ⟨v5, ev5⟩ : ∃ x : Int32, x = (xb_i h b2 (Int32.toNatClampNeg ((xb_i h x0 9) + 1))) := ⟨_, rfl⟩
  have hw := hw v5 ev5
  refine xt_numi (y := v5) ev5.symm ?_
  refine lv_istore_n hx hb (xb_d D_Checker_checkOpening 14 rfl) rfl hl (by decide) rfl (fun ls hl => ?_)
  have hl : lv_has ls 3 [(2, .int v5), (0, .ref x0), (1, .int x1)] := hl
  refine lv_aload_n hx hb (xb_d D_Checker_checkOpening 15 rfl) rfl (lv_at hl 1 rfl) ?_
  refine xb_getP (C := R_Checker) (T := F_Checker) (N := 17) hx hb 4 2 hts fin_Checker hown hR hk1 (by decide) rfl (by decide) rfl (hts _ m_b5ef1148) (fun _ h9 => h9) (xb_d D_Checker_checkOpening 16 rfl) ?_
  obtain ⟨b6, eb6, hw⟩ := hw
  refine xb_some eb6 ?_
  refine lv_aload_n hx hb (xb_d D_Checker_checkOpening 17 rfl) rfl (lv_at hl 1 rfl) ?_
  refine xb_getI (C := R_Checker) (T := F_Checker) (N := 17) hx hb 4 9 hts fin_Checker hown hR hk1 (by decide) rfl (by decide) rfl (hts _ m_28193d38) (fun _ h9 => h9) (xb_d D_Checker_checkOpening 18 rfl) ?_
  refine lv_aload_n hx hb (xb_d D_Checker_checkOpening 19 rfl) rfl (lv_at hl 1 rfl) ?_
  refine xb_getI (C := R_Checker) (T := F_Checker) (N := 17) hx hb 4 4 hts fin_Checker hown hR hk1 (by decide) rfl (by decide) rfl (hts _ m_b89190d5) (fun _ h9 => h9) (xb_d D_Checker_checkOpening 20 rfl) ?_
  obtain ⟨hk7, hw⟩ := hw
  obtain ⟨hi8, hw⟩ := hw
  refine xb_iast hx hb hR hS hk7 hi8 (xb_d D_Checker_checkOpening 21 rfl) (fun H locs hR hS => ?_)
  obtain ⟨h9, eh9⟩ : ∃ x : xb_H, x = xb_I h b6 (Int32.toNatClampNeg (xb_i h x0 9)) (xb_i h x0 4) := ⟨_, rfl⟩
  rw [← eh9] at hR
  have hw := hw h9 eh9
  have hE : xb_ext h0 h9 := by rw [eh9]; exact hE
  refine lv_aload_n hx hb (xb_d D_Checker_checkOpening 22 rfl) rfl (lv_at hl 1 rfl) ?_
  refine lv_iload_n hx hb (xb_d D_Checker_checkOpening 23 rfl) rfl (lv_at hl 2 rfl) ?_
  refine lv_aload_n hx hb (xb_d D_Checker_checkOpening 24 rfl) rfl (lv_at hl 1 rfl) ?_
  have hk1 : xb_k h9 x0 = 5 := by rw [eh9]; exact hk1
  refine xb_getI (C := R_Checker) (T := F_Checker) (N := 17) hx hb 4 9 hts fin_Checker hown hR hk1 (by decide) rfl (by decide) rfl (hts _ m_28193d38) (fun _ h9 => h9) (xb_d D_Checker_checkOpening 25 rfl) ?_
  refine lv_iload_n hx hb (xb_d D_Checker_checkOpening 26 rfl) rfl (lv_at hl 2 rfl) ?_
  refine lv_iconst (v := 3) hx hb (xb_d D_Checker_checkOpening 27 rfl) (by decide) ?_
  refine lv_icmp_ne (tgt := 53) hx hb (xb_d D_Checker_checkOpening 28 rfl) rfl (fun hc10 => ?_) (fun hc10 => ?_)
  · have hw := hw.1 hc10
    refine lv_iload_n hx hb (xb_d D_Checker_checkOpening 31 rfl) rfl (lv_at hl 0 rfl) ?_
    exact am_Checker_checkOpening_L54 l hfl D A σ MC MS h0 Qr Qt v5 v5 (xb_i h9 x0 9) x1 x0 h9 bc bs hw p e s m args below meth c hC H locs ls k n hE (lv_sub hl [0] rfl) hR hS (by omega) (by omega)
  · have hw := hw.2 hc10
    refine lv_bipush (v := 64) hx hb (xb_d D_Checker_checkOpening 29 rfl) (by decide) ?_
    refine lv_goto (tgt := 54) hx hb (xb_d D_Checker_checkOpening 30 rfl) rfl ?_
    exact am_Checker_checkOpening_L54 l hfl D A σ MC MS h0 Qr Qt v5 64 (xb_i h9 x0 9) x1 x0 h9 bc bs hw p e s m args below meth c hC H locs ls k n hE (lv_sub hl [0] rfl) hR hS (by omega) (by omega)

set_option maxHeartbeats 4000000 in
set_option maxRecDepth 100000 in
theorem ok_Checker_checkOpening (l : Launch) (hfl : l.flags = pinnedFlags ++ [noTraceFlag]) (D : va_G) (A : Nat → Prop) (σ : Nat) (x0 : Nat) (x1 : Int32) (h : xb_H) (bc : Nat) (bs : Nat) (Qr : xb_H → Nat → Nat → Prop) (Qt : String → xb_H → Nat → Nat → Prop) (hw : w_Checker_checkOpening x0 x1 h bc bs Qr Qt) : xb_Met l y_Checker_checkOpening [.code y_Checker_checkOpening b_Checker_checkOpening 3 none] (xb_rm 4 bc bs) (xb_Pc D A σ h [.ref x0, .int x1]) (xb_Qc D A h bc bs (fun v h bc bs => v = none ∧ Qr h bc bs) Qt) A := by
  refine xb_ofAm (cc := b_Checker_checkOpening) (by decide) (Nat.le_of_ble_eq_true rfl) ?_
  unfold w_Checker_checkOpening at hw
  show xb_am l D A σ 4 bc bs h (fun v h bc bs => v = none ∧ Qr h bc bs) Qt y_Checker_checkOpening.cls y_Checker_checkOpening.name b_Checker_checkOpening 3 ([] : List ExceptionTableEntry) none 0 [(0, .ref x0), (1, .int x1)] [] h bc bs
  obtain ⟨MC, hMC⟩ : ∃ x, x = bc := ⟨_, rfl⟩
  obtain ⟨MS, hMS⟩ : ∃ x, x = bs := ⟨_, rfl⟩
  rw [show xb_am l D A σ 4 bc bs = xb_am l D A σ 4 MC MS by rw [hMC, hMS]]
  obtain ⟨h0, hh0⟩ : ∃ x, x = h := ⟨_, rfl⟩
  rw [show xb_am l D A σ 4 MC MS h = xb_am l D A σ 4 MC MS h0 by rw [hh0]]
  intro p e s m args below meth c hC H locs ls k n hE hl hR hS hk hn
  obtain ⟨hx, hb, hown, hlocks, htab, hml, hr, hB, hA, hnm⟩ := id hC
  have hts := hB.1.1.at args
  refine lv_iload_n hx hb (xb_d D_Checker_checkOpening 0 rfl) rfl (lv_at hl 1 rfl) ?_
  refine lv_iconst (v := 4) hx hb (xb_d D_Checker_checkOpening 1 rfl) (by decide) ?_
  refine lv_icmp_ne (tgt := 12) hx hb (xb_d D_Checker_checkOpening 2 rfl) rfl (fun hc1 => ?_) (fun hc1 => ?_)
  · have hw := hw.1 hc1
    exact am_Checker_checkOpening_L12 l hfl D A σ MC MS h0 Qr Qt x0 x1 h bc bs hw p e s m args below meth c hC H locs ls k n hE (lv_sub hl [0, 1] rfl) hR hS (by omega) (by omega)
  · have hw := hw.2 hc1
    refine lv_aload_n hx hb (xb_d D_Checker_checkOpening 3 rfl) rfl (lv_at hl 0 rfl) ?_
    refine lv_bipush (v := 127) hx hb (xb_d D_Checker_checkOpening 4 rfl) (by decide) ?_
    obtain ⟨hk2, hw⟩ := hw
    refine xb_call (D := D) (A := A) (σ := σ) (h := h) (d := 3) (mc := bc) (ms := bs) (maxL := 3) (rest := []) (av := [.ref x0, .int 127]) (fun T hT X => by obtain ⟨cb9, ra9, rb9, rc9⟩ := xb_recv (ci := 4) hR rfl hk2 (by decide); exact xt_invV X hx hown (hts _ m_0b33e20f) (hts _ m_338dda25) (hts _ m_d7dc08f9) (xt_sigOf (hts _ m_b71cce2b)) nm_Checker_take (by rw [hT]; exact ra9) rb9 rc9 (g := F0 m 8 ls [.int 127, .ref x0]) rfl (argsL := [.int 127]) (rest := []) rfl rfl (by rw [hb]; exact (xb_d D_Checker_checkOpening 5 rfl))) (ok_Checker_take l hfl D A σ x0 127 h bc bs _ _ hw) (hml.trans hl.1.symm) (by rw [hb]; exact (xb_d D_Checker_checkOpening 5 rfl)) (Nat.le_of_ble_eq_true rfl) (Nat.le_of_ble_eq_true rfl) (Nat.le_of_ble_eq_true rfl) (show k + bc ≤ MC by omega) (show n + bs ≤ MS by omega) (xt_w1 hB.1 m_b71cce2b) (xt_cdOf hB.1 m_b71cce2b) (hts _ m_44748ce5) hB hR hS hA (fun vv h3 bc4 bs4 kk4 nn4 H locs hk4 hn4 hq hEh3 hR hS => ?_) (fun XX ax h3 bc4 bs4 kk4 nn4 H locs hk4 hn4 hq hEh3 hex hR hS => ?_)
    · obtain ⟨r4, rfl, hw⟩ := hq
      have hw := hw hEh3
      have hE := hE.tr hEh3
      refine W.eq (g2 := F0 m 11 ls [.int r4]) rfl ?_
      refine lv_pop hx hb (xb_d D_Checker_checkOpening 6 rfl) rfl ?_
      exact am_Checker_checkOpening_L12 l hfl D A σ MC MS h0 Qr Qt x0 x1 h3 bc4 bs4 hw p e s m args below meth c hC H locs ls (k + kk4) (n + nn4) hE (lv_sub hl [0, 1] rfl) hR hS (by omega) (by omega)
    · exact xb_pass hlocks (fun x hx9 => by rw [htab] at hx9; first | (cases hx9; done) | (simp [tableOf] at hx9; subst hx9; decide) | (simp [tableOf] at hx9; rcases hx9 with rfl | rfl <;> decide) | (simp [tableOf] at hx9; rcases hx9 with rfl | rfl | rfl <;> decide)) (show (k + kk4) + bc4 ≤ MC by omega) (show (n + nn4) + bs4 ≤ MS by omega) (hE.tr hEh3) hR hS hex hq

set_option maxRecDepth 100000 in
def T_Checker_checkOwn : List (Nat × Instr × Nat) := [(0, .aload_n 0, 1), (1, .getfield 38, 3), (4, .getfield 131, 3), (7, .iconst 0, 1), (8, .iaload, 1), (9, .istore_n 1, 1), (10, .iload_n 1, 1), (11, .aload_n 0, 1), (12, .getfield 38, 3), (15, .getfield 118, 3), (18, .invokevirtual 77, 3), (21, .if_icmp .ge 14, 3), (24, .aload_n 0, 1), (25, .iload_n 1, 1), (26, .invokevirtual 101, 3), (29, .iinc 1 1, 3), (32, .goto (-22), 3), (35, .aload_n 0, 1), (36, .getfield 38, 3), (39, .getfield 131, 3), (42, .iconst 1, 1), (43, .iaload, 1), (44, .istore_n 1, 1), (45, .iload_n 1, 1), (46, .aload_n 0, 1), (47, .getfield 38, 3), (50, .getfield 104, 3), (53, .invokevirtual 77, 3), (56, .if_icmp .ge 24, 3), (59, .aload_n 0, 1), (60, .aload_n 0, 1), (61, .getfield 38, 3), (64, .getfield 104, 3), (67, .iload_n 1, 1), (68, .ldc2_w 107, 3), (71, .invokevirtual 109, 3), (74, .iinc 1 1, 3), (77, .goto (-32), 3), (80, .aload_n 0, 1), (81, .getfield 38, 3), (84, .getfield 131, 3), (87, .iconst 2, 1), (88, .iaload, 1), (89, .istore_n 1, 1), (90, .iload_n 1, 1), (91, .aload_n 0, 1), (92, .getfield 38, 3), (95, .getfield 113, 3), (98, .invokevirtual 77, 3), (101, .if_icmp .ge 24, 3), (104, .aload_n 0, 1), (105, .aload_n 0, 1), (106, .getfield 38, 3), (109, .getfield 113, 3), (112, .iload_n 1, 1), (113, .ldc2_w 116, 3), (116, .invokevirtual 109, 3), (119, .iinc 1 1, 3), (122, .goto (-32), 3), (125, .aload_n 0, 1), (126, .getfield 38, 3), (129, .getfield 131, 3), (132, .iconst 3, 1), (133, .iaload, 1), (134, .istore_n 1, 1), (135, .iload_n 1, 1), (136, .aload_n 0, 1), (137, .getfield 38, 3), (140, .getfield 134, 3), (143, .invokevirtual 77, 3), (146, .if_icmp .ge 39, 3), (149, .aload_n 0, 1), (150, .getfield 38, 3), (153, .getfield 134, 3), (156, .iload_n 1, 1), (157, .iconst 1, 1), (158, .invokevirtual 90, 3), (161, .istore_n 2, 1), (162, .aload_n 0, 1), (163, .aload_n 0, 1), (164, .getfield 38, 3), (167, .getfield 134, 3), (170, .iload_n 1, 1), (171, .iconst 3, 1), (172, .invokevirtual 90, 3), (175, .iload_n 2, 1), (176, .invokevirtual 137, 3), (179, .iinc 1 1, 3), (182, .goto (-47), 3), (185, .return_, 1)]
theorem D_Checker_checkOwn : ∀ q ∈ T_Checker_checkOwn, decode b_Checker_checkOwn q.1 = .ok (q.2.1, q.2.2) := by decide +kernel

set_option maxHeartbeats 4000000 in
set_option maxRecDepth 100000 in
theorem am_Checker_checkOwn_L135 (l : Launch) (hfl : l.flags = pinnedFlags ++ [noTraceFlag]) (D : va_G) (A : Nat → Prop) (σ MC MS : Nat) (h0 : xb_H) (Qr : xb_H → Nat → Nat → Prop) (Qt : String → xb_H → Nat → Nat → Prop) (n9 : Nat) : ∀ (x0 : Nat) (x1 : Int32) (h : xb_H) (bc : Nat) (bs : Nat), w_Checker_checkOwn_L135 Qr Qt n9 x0 x1 h bc bs → xb_am l D A σ 4 MC MS h0 (fun v h bc bs => v = none ∧ Qr h bc bs) Qt y_Checker_checkOwn.cls y_Checker_checkOwn.name b_Checker_checkOwn 3 ([] : List ExceptionTableEntry) none 135 [(0, .ref x0), (1, .int x1)] [] h bc bs := by
  induction n9 with
  | zero => intro x0 x1 h bc bs hw; exact False.elim hw
  | succ n9 ih =>
    intro x0 x1 h bc bs hw
    unfold w_Checker_checkOwn_L135 at hw
    intro p e s m args below meth c hC H locs ls k n hE hl hR hS hk hn
    obtain ⟨hx, hb, hown, hlocks, htab, hml, hr, hB, hA, hnm⟩ := id hC
    have hts := hB.1.1.at args
    refine lv_iload_n hx hb (xb_d D_Checker_checkOwn 65 rfl) rfl (lv_at hl 1 rfl) ?_
    refine lv_aload_n hx hb (xb_d D_Checker_checkOwn 66 rfl) rfl (lv_at hl 0 rfl) ?_
    obtain ⟨hk1, hw⟩ := hw
    refine xb_getP (C := R_Checker) (T := F_Checker) (N := 17) hx hb 4 0 hts fin_Checker hown hR hk1 (by decide) rfl (by decide) rfl (hts _ m_070795bc) (fun _ h9 => h9) (xb_d D_Checker_checkOwn 67 rfl) ?_
    obtain ⟨b2, eb2, hw⟩ := hw
    refine xb_some eb2 ?_
    obtain ⟨hk3, hw⟩ := hw
    refine xb_getP (C := R_StackModule) (T := F_StackModule) (N := 19) hx hb 2 7 hts fin_StackModule hown hR hk3 (by decide) rfl (by decide) rfl (hts _ m_d3e8f814) (fun _ h9 => h9) (xb_d D_Checker_checkOwn 68 rfl) ?_
    obtain ⟨b4, eb4, hw⟩ := hw
    refine xb_some eb4 ?_
    obtain ⟨hk5, hw⟩ := hw
    refine xb_call0 (D := D) (A := A) (σ := σ) (h := h) (d := 2) (maxL := 1) (rest := [.int x1]) (av := [.ref b4]) (fun T hT X => by obtain ⟨cb9, ra9, rb9, rc9⟩ := xb_recv (ci := 1) hR rfl hk5 (by decide); exact xt_invV X hx hown (hts _ m_c8b950b4) (hts _ m_ded65609) (hts _ m_a4161156) (xt_sigOf (hts _ m_83ba3721)) nm_Row_lines (by rw [hT]; exact ra9) rb9 rc9 (g := F0 m 143 ls [.ref b4, .int x1]) rfl (argsL := []) (rest := [.int x1]) rfl rfl (by rw [hb]; exact (xb_d D_Checker_checkOwn 69 rfl))) (ok_Row_lines l hfl D A σ b4 h _ hw) (hml.trans hl.1.symm) (by rw [hb]; exact (xb_d D_Checker_checkOwn 69 rfl)) (Nat.le_of_ble_eq_true rfl) (Nat.le_of_ble_eq_true rfl) (Nat.le_of_ble_eq_true rfl) (show k ≤ MC by omega) (show n ≤ MS by omega) (xt_w1 hB.1 m_83ba3721) (xt_cdOf hB.1 m_83ba3721) (hts _ m_c1bef504) hB hR hS hA (fun vv h6 H locs hq hEh6 hR hS => ?_)
    obtain ⟨r7, rfl, hw⟩ := hq
    have hw := hw hEh6
    have hE := hE.tr hEh6
    refine W.eq (g2 := F0 m 146 ls [.int r7, .int x1]) rfl ?_
    refine lv_icmp_ge (tgt := 185) hx hb (xb_d D_Checker_checkOwn 70 rfl) rfl (fun hc8 => ?_) (fun hc8 => ?_)
    · have hw := hw.1 hc8
      exact xb_vret bc bs hx hb hr hlocks (show k + bc ≤ MC by omega) (show n + bs ≤ MS by omega) hE hR hS (xb_d D_Checker_checkOwn 89 rfl) hw
    · have hw := hw.2 hc8
      refine lv_aload_n hx hb (xb_d D_Checker_checkOwn 71 rfl) rfl (lv_at hl 0 rfl) ?_
      have hk1 : xb_k h6 x0 = 5 := hEh6.k hk1
      refine xb_getP (C := R_Checker) (T := F_Checker) (N := 17) hx hb 4 0 hts fin_Checker hown hR hk1 (by decide) rfl (by decide) rfl (hts _ m_070795bc) (fun _ h9 => h9) (xb_d D_Checker_checkOwn 72 rfl) ?_
      obtain ⟨b9, eb9, hw⟩ := hw
      refine xb_some eb9 ?_
      obtain ⟨hk10, hw⟩ := hw
      refine xb_getP (C := R_StackModule) (T := F_StackModule) (N := 19) hx hb 2 7 hts fin_StackModule hown hR hk10 (by decide) rfl (by decide) rfl (hts _ m_d3e8f814) (fun _ h9 => h9) (xb_d D_Checker_checkOwn 73 rfl) ?_
      obtain ⟨b11, eb11, hw⟩ := hw
      refine xb_some eb11 ?_
      refine lv_iload_n hx hb (xb_d D_Checker_checkOwn 74 rfl) rfl (lv_at hl 1 rfl) ?_
      refine lv_iconst (v := 1) hx hb (xb_d D_Checker_checkOwn 75 rfl) (by decide) ?_
      obtain ⟨hk12, hw⟩ := hw
      refine xb_call0 (D := D) (A := A) (σ := σ) (h := h6) (d := 2) (maxL := 3) (rest := []) (av := [.ref b11, .int x1, .int 1]) (fun T hT X => by obtain ⟨cb9, ra9, rb9, rc9⟩ := xb_recv (ci := 1) hR rfl hk12 (by decide); exact xt_invV X hx hown (hts _ m_068feb96) (hts _ m_8e233096) (hts _ m_27eed10c) (xt_sigOf (hts _ m_ff1c70ae)) nm_Row_at (by rw [hT]; exact ra9) rb9 rc9 (g := F0 m 158 ls [.int 1, .int x1, .ref b11]) rfl (argsL := [.int x1, .int 1]) (rest := []) rfl rfl (by rw [hb]; exact (xb_d D_Checker_checkOwn 76 rfl))) (ok_Row_at l hfl D A σ b11 x1 1 h6 _ hw) (hml.trans hl.1.symm) (by rw [hb]; exact (xb_d D_Checker_checkOwn 76 rfl)) (Nat.le_of_ble_eq_true rfl) (Nat.le_of_ble_eq_true rfl) (Nat.le_of_ble_eq_true rfl) (show k ≤ MC by omega) (show n ≤ MS by omega) (xt_w1 hB.1 m_ff1c70ae) (xt_cdOf hB.1 m_ff1c70ae) (hts _ m_c1bef504) hB hR hS hA (fun vv h13 H locs hq hEh13 hR hS => ?_)
      obtain ⟨r14, rfl, hw⟩ := hq
      have hw := hw hEh13
      have hE := hE.tr hEh13
      refine W.eq (g2 := F0 m 161 ls [.int r14]) rfl ?_
      refine lv_istore_n hx hb (xb_d D_Checker_checkOwn 77 rfl) rfl hl (by decide) rfl (fun ls hl => ?_)
      have hl : lv_has ls 3 [(2, .int r14), (0, .ref x0), (1, .int x1)] := hl
      refine lv_aload_n hx hb (xb_d D_Checker_checkOwn 78 rfl) rfl (lv_at hl 1 rfl) ?_
      refine lv_aload_n hx hb (xb_d D_Checker_checkOwn 79 rfl) rfl (lv_at hl 1 rfl) ?_
      have hk1 : xb_k h13 x0 = 5 := hEh13.k hk1
      refine xb_getP (C := R_Checker) (T := F_Checker) (N := 17) hx hb 4 0 hts fin_Checker hown hR hk1 (by decide) rfl (by decide) rfl (hts _ m_070795bc) (fun _ h9 => h9) (xb_d D_Checker_checkOwn 80 rfl) ?_
      obtain ⟨b15, eb15, hw⟩ := hw
      refine xb_some eb15 ?_
      obtain ⟨hk16, hw⟩ := hw
      refine xb_getP (C := R_StackModule) (T := F_StackModule) (N := 19) hx hb 2 7 hts fin_StackModule hown hR hk16 (by decide) rfl (by decide) rfl (hts _ m_d3e8f814) (fun _ h9 => h9) (xb_d D_Checker_checkOwn 81 rfl) ?_
      obtain ⟨b17, eb17, hw⟩ := hw
      refine xb_some eb17 ?_
      refine lv_iload_n hx hb (xb_d D_Checker_checkOwn 82 rfl) rfl (lv_at hl 2 rfl) ?_
      refine lv_iconst (v := 3) hx hb (xb_d D_Checker_checkOwn 83 rfl) (by decide) ?_
      obtain ⟨hk18, hw⟩ := hw
      refine xb_call0 (D := D) (A := A) (σ := σ) (h := h13) (d := 2) (maxL := 3) (rest := [.ref x0]) (av := [.ref b17, .int x1, .int 3]) (fun T hT X => by obtain ⟨cb9, ra9, rb9, rc9⟩ := xb_recv (ci := 1) hR rfl hk18 (by decide); exact xt_invV X hx hown (hts _ m_068feb96) (hts _ m_8e233096) (hts _ m_27eed10c) (xt_sigOf (hts _ m_ff1c70ae)) nm_Row_at (by rw [hT]; exact ra9) rb9 rc9 (g := F0 m 172 ls [.int 3, .int x1, .ref b17, .ref x0]) rfl (argsL := [.int x1, .int 3]) (rest := [.ref x0]) rfl rfl (by rw [hb]; exact (xb_d D_Checker_checkOwn 84 rfl))) (ok_Row_at l hfl D A σ b17 x1 3 h13 _ hw) (hml.trans hl.1.symm) (by rw [hb]; exact (xb_d D_Checker_checkOwn 84 rfl)) (Nat.le_of_ble_eq_true rfl) (Nat.le_of_ble_eq_true rfl) (Nat.le_of_ble_eq_true rfl) (show k ≤ MC by omega) (show n ≤ MS by omega) (xt_w1 hB.1 m_ff1c70ae) (xt_cdOf hB.1 m_ff1c70ae) (hts _ m_c1bef504) hB hR hS hA (fun vv h19 H locs hq hEh19 hR hS => ?_)
      obtain ⟨r20, rfl, hw⟩ := hq
      have hw := hw hEh19
      have hE := hE.tr hEh19
      refine W.eq (g2 := F0 m 175 ls [.int r20, .ref x0]) rfl ?_
      refine lv_iload_n hx hb (xb_d D_Checker_checkOwn 85 rfl) rfl (lv_at hl 0 rfl) ?_
      have hk1 : xb_k h19 x0 = 5 := hEh19.k hk1
      refine xb_call (D := D) (A := A) (σ := σ) (h := h19) (d := 3) (mc := bc) (ms := bs) (maxL := 5) (rest := []) (av := [.ref x0, .int r20, .int r14]) (fun T hT X => by obtain ⟨cb9, ra9, rb9, rc9⟩ := xb_recv (ci := 4) hR rfl hk1 (by decide); exact xt_invV X hx hown (hts _ m_8c087939) (hts _ m_6cd68843) (hts _ m_835be859) (xt_sigOf (hts _ m_8e908334)) nm_Checker_checkExpression (by rw [hT]; exact ra9) rb9 rc9 (g := F0 m 176 ls [.int r14, .int r20, .ref x0]) rfl (argsL := [.int r20, .int r14]) (rest := []) rfl rfl (by rw [hb]; exact (xb_d D_Checker_checkOwn 86 rfl))) (ok_Checker_checkExpression l hfl D A σ x0 r20 r14 h19 bc bs _ _ hw) (hml.trans hl.1.symm) (by rw [hb]; exact (xb_d D_Checker_checkOwn 86 rfl)) (Nat.le_of_ble_eq_true rfl) (Nat.le_of_ble_eq_true rfl) (Nat.le_of_ble_eq_true rfl) (show k + bc ≤ MC by omega) (show n + bs ≤ MS by omega) (xt_w1 hB.1 m_8e908334) (xt_cdOf hB.1 m_8e908334) (hts _ m_44748ce5) hB hR hS hA (fun vv h21 bc22 bs22 kk22 nn22 H locs hk22 hn22 hq hEh21 hR hS => ?_) (fun XX ax h21 bc22 bs22 kk22 nn22 H locs hk22 hn22 hq hEh21 hex hR hS => ?_)
      · obtain ⟨rfl, hw⟩ := hq
        have hw := hw hEh21
        have hE := hE.tr hEh21
        refine W.eq (g2 := F0 m 179 ls []) rfl ?_
        refine lv_iinc (v := (x1 + 1)) (k := 2) hx hb (xb_d D_Checker_checkOwn 87 rfl) hl rfl (by first | rfl | decide) (by decide) rfl (fun ls hl => ?_)
        have hl : lv_has ls 3 [(1, .int (x1 + 1)), (2, .int r14), (0, .ref x0)] := hl
        refine lv_goto (tgt := 135) hx hb (xb_d D_Checker_checkOwn 88 rfl) rfl ?_
        exact ih x0 (x1 + 1) h21 bc22 bs22 hw p e s m args below meth c hC H locs ls (k + kk22) (n + nn22) hE (lv_sub hl [2, 0] rfl) hR hS (by omega) (by omega)
      · exact xb_pass hlocks (fun x hx9 => by rw [htab] at hx9; first | (cases hx9; done) | (simp [tableOf] at hx9; subst hx9; decide) | (simp [tableOf] at hx9; rcases hx9 with rfl | rfl <;> decide) | (simp [tableOf] at hx9; rcases hx9 with rfl | rfl | rfl <;> decide)) (show (k + kk22) + bc22 ≤ MC by omega) (show (n + nn22) + bs22 ≤ MS by omega) (hE.tr hEh21) hR hS hex hq

set_option maxHeartbeats 4000000 in
set_option maxRecDepth 100000 in
theorem am_Checker_checkOwn_L90 (l : Launch) (hfl : l.flags = pinnedFlags ++ [noTraceFlag]) (D : va_G) (A : Nat → Prop) (σ MC MS : Nat) (h0 : xb_H) (Qr : xb_H → Nat → Nat → Prop) (Qt : String → xb_H → Nat → Nat → Prop) (n9 : Nat) : ∀ (x0 : Nat) (x1 : Int32) (h : xb_H) (bc : Nat) (bs : Nat), w_Checker_checkOwn_L90 Qr Qt n9 x0 x1 h bc bs → xb_am l D A σ 4 MC MS h0 (fun v h bc bs => v = none ∧ Qr h bc bs) Qt y_Checker_checkOwn.cls y_Checker_checkOwn.name b_Checker_checkOwn 3 ([] : List ExceptionTableEntry) none 90 [(0, .ref x0), (1, .int x1)] [] h bc bs := by
  induction n9 with
  | zero => intro x0 x1 h bc bs hw; exact False.elim hw
  | succ n9 ih =>
    intro x0 x1 h bc bs hw
    unfold w_Checker_checkOwn_L90 at hw
    intro p e s m args below meth c hC H locs ls k n hE hl hR hS hk hn
    obtain ⟨hx, hb, hown, hlocks, htab, hml, hr, hB, hA, hnm⟩ := id hC
    have hts := hB.1.1.at args
    refine lv_iload_n hx hb (xb_d D_Checker_checkOwn 44 rfl) rfl (lv_at hl 1 rfl) ?_
    refine lv_aload_n hx hb (xb_d D_Checker_checkOwn 45 rfl) rfl (lv_at hl 0 rfl) ?_
    obtain ⟨hk1, hw⟩ := hw
    refine xb_getP (C := R_Checker) (T := F_Checker) (N := 17) hx hb 4 0 hts fin_Checker hown hR hk1 (by decide) rfl (by decide) rfl (hts _ m_070795bc) (fun _ h9 => h9) (xb_d D_Checker_checkOwn 46 rfl) ?_
    obtain ⟨b2, eb2, hw⟩ := hw
    refine xb_some eb2 ?_
    obtain ⟨hk3, hw⟩ := hw
    refine xb_getP (C := R_StackModule) (T := F_StackModule) (N := 19) hx hb 2 6 hts fin_StackModule hown hR hk3 (by decide) rfl (by decide) rfl (hts _ m_f104cb1a) (fun _ h9 => h9) (xb_d D_Checker_checkOwn 47 rfl) ?_
    obtain ⟨b4, eb4, hw⟩ := hw
    refine xb_some eb4 ?_
    obtain ⟨hk5, hw⟩ := hw
    refine xb_call0 (D := D) (A := A) (σ := σ) (h := h) (d := 2) (maxL := 1) (rest := [.int x1]) (av := [.ref b4]) (fun T hT X => by obtain ⟨cb9, ra9, rb9, rc9⟩ := xb_recv (ci := 1) hR rfl hk5 (by decide); exact xt_invV X hx hown (hts _ m_c8b950b4) (hts _ m_ded65609) (hts _ m_a4161156) (xt_sigOf (hts _ m_83ba3721)) nm_Row_lines (by rw [hT]; exact ra9) rb9 rc9 (g := F0 m 98 ls [.ref b4, .int x1]) rfl (argsL := []) (rest := [.int x1]) rfl rfl (by rw [hb]; exact (xb_d D_Checker_checkOwn 48 rfl))) (ok_Row_lines l hfl D A σ b4 h _ hw) (hml.trans hl.1.symm) (by rw [hb]; exact (xb_d D_Checker_checkOwn 48 rfl)) (Nat.le_of_ble_eq_true rfl) (Nat.le_of_ble_eq_true rfl) (Nat.le_of_ble_eq_true rfl) (show k ≤ MC by omega) (show n ≤ MS by omega) (xt_w1 hB.1 m_83ba3721) (xt_cdOf hB.1 m_83ba3721) (hts _ m_c1bef504) hB hR hS hA (fun vv h6 H locs hq hEh6 hR hS => ?_)
    obtain ⟨r7, rfl, hw⟩ := hq
    have hw := hw hEh6
    have hE := hE.tr hEh6
    refine W.eq (g2 := F0 m 101 ls [.int r7, .int x1]) rfl ?_
    refine lv_icmp_ge (tgt := 125) hx hb (xb_d D_Checker_checkOwn 49 rfl) rfl (fun hc8 => ?_) (fun hc8 => ?_)
    · have hw := hw.1 hc8
      refine lv_aload_n hx hb (xb_d D_Checker_checkOwn 59 rfl) rfl (lv_at hl 0 rfl) ?_
      have hk1 : xb_k h6 x0 = 5 := hEh6.k hk1
      refine xb_getP (C := R_Checker) (T := F_Checker) (N := 17) hx hb 4 0 hts fin_Checker hown hR hk1 (by decide) rfl (by decide) rfl (hts _ m_070795bc) (fun _ h9 => h9) (xb_d D_Checker_checkOwn 60 rfl) ?_
      obtain ⟨b9, eb9, hw⟩ := hw
      refine xb_some eb9 ?_
      obtain ⟨hk10, hw⟩ := hw
      refine xb_getP (C := R_StackModule) (T := F_StackModule) (N := 19) hx hb 2 14 hts fin_StackModule hown hR hk10 (by decide) rfl (by decide) rfl (hts _ m_c2d0ffa0) (fun _ h9 => h9) (xb_d D_Checker_checkOwn 61 rfl) ?_
      obtain ⟨b11, eb11, hw⟩ := hw
      refine xb_some eb11 ?_
      refine lv_iconst (v := 3) hx hb (xb_d D_Checker_checkOwn 62 rfl) (by decide) ?_
      obtain ⟨hk13, hw⟩ := hw
      obtain ⟨hi12, hw⟩ := hw
      refine xb_iald hx hb hR hk13 hi12 (xb_d D_Checker_checkOwn 63 rfl) ?_
      refine xt_numi (y := (xb_i h6 b11 3)) (congrArg (xb_i h6 b11) (by decide : (3 : Int32).toNatClampNeg = 3)) ?_
      obtain ⟨v14, ev14⟩ : ∃ x : Int32, x = (xb_i h6 b11 3) := ⟨_, rfl⟩
      have hw := hw v14 ev14
      refine xt_numi (y := v14) ev14.symm ?_
      refine lv_istore_n hx hb (xb_d D_Checker_checkOwn 64 rfl) rfl hl (by decide) rfl (fun ls hl => ?_)
      have hl : lv_has ls 3 [(1, .int v14), (0, .ref x0)] := hl
      obtain ⟨n8, hw⟩ := hw
      exact am_Checker_checkOwn_L135 l hfl D A σ MC MS h0 Qr Qt n8 x0 v14 h6 bc bs hw p e s m args below meth c hC H locs ls k n hE (lv_sub hl [1, 0] rfl) hR hS (by omega) (by omega)
    · have hw := hw.2 hc8
      refine lv_aload_n hx hb (xb_d D_Checker_checkOwn 50 rfl) rfl (lv_at hl 0 rfl) ?_
      refine lv_aload_n hx hb (xb_d D_Checker_checkOwn 51 rfl) rfl (lv_at hl 0 rfl) ?_
      have hk1 : xb_k h6 x0 = 5 := hEh6.k hk1
      refine xb_getP (C := R_Checker) (T := F_Checker) (N := 17) hx hb 4 0 hts fin_Checker hown hR hk1 (by decide) rfl (by decide) rfl (hts _ m_070795bc) (fun _ h9 => h9) (xb_d D_Checker_checkOwn 52 rfl) ?_
      obtain ⟨b15, eb15, hw⟩ := hw
      refine xb_some eb15 ?_
      obtain ⟨hk16, hw⟩ := hw
      refine xb_getP (C := R_StackModule) (T := F_StackModule) (N := 19) hx hb 2 6 hts fin_StackModule hown hR hk16 (by decide) rfl (by decide) rfl (hts _ m_f104cb1a) (fun _ h9 => h9) (xb_d D_Checker_checkOwn 53 rfl) ?_
      obtain ⟨b17, eb17, hw⟩ := hw
      refine xb_some eb17 ?_
      refine lv_iload_n hx hb (xb_d D_Checker_checkOwn 54 rfl) rfl (lv_at hl 1 rfl) ?_
      refine lv_ldc2 (v := 65536) hx hb hown (hts _ m_6ee0f551) (xb_d D_Checker_checkOwn 55 rfl) ?_
      refine xb_call (D := D) (A := A) (σ := σ) (h := h6) (d := 3) (mc := bc) (ms := bs) (maxL := 10) (rest := []) (av := [.ref x0, .ref b17, .int x1, .long 65536]) (fun T hT X => by obtain ⟨cb9, ra9, rb9, rc9⟩ := xb_recv (ci := 4) hR rfl hk1 (by decide); exact xt_invV X hx hown (hts _ m_160564f4) (hts _ m_e4938329) (hts _ m_811dfb37) (xt_sigOf (hts _ m_9c84dd5e)) nm_Checker_checkLimits (by rw [hT]; exact ra9) rb9 rc9 (g := F0 m 116 ls [.long 65536, .int x1, .ref b17, .ref x0]) rfl (argsL := [.ref b17, .int x1, .long 65536]) (rest := []) rfl rfl (by rw [hb]; exact (xb_d D_Checker_checkOwn 56 rfl))) (ok_Checker_checkLimits l hfl D A σ x0 b17 x1 65536 h6 bc bs _ _ hw) (hml.trans hl.1.symm) (by rw [hb]; exact (xb_d D_Checker_checkOwn 56 rfl)) (Nat.le_of_ble_eq_true rfl) (Nat.le_of_ble_eq_true rfl) (Nat.le_of_ble_eq_true rfl) (show k + bc ≤ MC by omega) (show n + bs ≤ MS by omega) (xt_w1 hB.1 m_9c84dd5e) (xt_cdOf hB.1 m_9c84dd5e) (hts _ m_44748ce5) hB hR hS hA (fun vv h18 bc19 bs19 kk19 nn19 H locs hk19 hn19 hq hEh18 hR hS => ?_) (fun XX ax h18 bc19 bs19 kk19 nn19 H locs hk19 hn19 hq hEh18 hex hR hS => ?_)
      · obtain ⟨rfl, hw⟩ := hq
        have hw := hw hEh18
        have hE := hE.tr hEh18
        refine W.eq (g2 := F0 m 119 ls []) rfl ?_
        refine lv_iinc (v := (x1 + 1)) (k := 1) hx hb (xb_d D_Checker_checkOwn 57 rfl) hl rfl (by first | rfl | decide) (by decide) rfl (fun ls hl => ?_)
        have hl : lv_has ls 3 [(1, .int (x1 + 1)), (0, .ref x0)] := hl
        refine lv_goto (tgt := 90) hx hb (xb_d D_Checker_checkOwn 58 rfl) rfl ?_
        exact ih x0 (x1 + 1) h18 bc19 bs19 hw p e s m args below meth c hC H locs ls (k + kk19) (n + nn19) hE (lv_sub hl [1, 0] rfl) hR hS (by omega) (by omega)
      · exact xb_pass hlocks (fun x hx9 => by rw [htab] at hx9; first | (cases hx9; done) | (simp [tableOf] at hx9; subst hx9; decide) | (simp [tableOf] at hx9; rcases hx9 with rfl | rfl <;> decide) | (simp [tableOf] at hx9; rcases hx9 with rfl | rfl | rfl <;> decide)) (show (k + kk19) + bc19 ≤ MC by omega) (show (n + nn19) + bs19 ≤ MS by omega) (hE.tr hEh18) hR hS hex hq

set_option maxHeartbeats 4000000 in
set_option maxRecDepth 100000 in
theorem am_Checker_checkOwn_L45 (l : Launch) (hfl : l.flags = pinnedFlags ++ [noTraceFlag]) (D : va_G) (A : Nat → Prop) (σ MC MS : Nat) (h0 : xb_H) (Qr : xb_H → Nat → Nat → Prop) (Qt : String → xb_H → Nat → Nat → Prop) (n9 : Nat) : ∀ (x0 : Nat) (x1 : Int32) (h : xb_H) (bc : Nat) (bs : Nat), w_Checker_checkOwn_L45 Qr Qt n9 x0 x1 h bc bs → xb_am l D A σ 4 MC MS h0 (fun v h bc bs => v = none ∧ Qr h bc bs) Qt y_Checker_checkOwn.cls y_Checker_checkOwn.name b_Checker_checkOwn 3 ([] : List ExceptionTableEntry) none 45 [(0, .ref x0), (1, .int x1)] [] h bc bs := by
  induction n9 with
  | zero => intro x0 x1 h bc bs hw; exact False.elim hw
  | succ n9 ih =>
    intro x0 x1 h bc bs hw
    unfold w_Checker_checkOwn_L45 at hw
    intro p e s m args below meth c hC H locs ls k n hE hl hR hS hk hn
    obtain ⟨hx, hb, hown, hlocks, htab, hml, hr, hB, hA, hnm⟩ := id hC
    have hts := hB.1.1.at args
    refine lv_iload_n hx hb (xb_d D_Checker_checkOwn 23 rfl) rfl (lv_at hl 1 rfl) ?_
    refine lv_aload_n hx hb (xb_d D_Checker_checkOwn 24 rfl) rfl (lv_at hl 0 rfl) ?_
    obtain ⟨hk1, hw⟩ := hw
    refine xb_getP (C := R_Checker) (T := F_Checker) (N := 17) hx hb 4 0 hts fin_Checker hown hR hk1 (by decide) rfl (by decide) rfl (hts _ m_070795bc) (fun _ h9 => h9) (xb_d D_Checker_checkOwn 25 rfl) ?_
    obtain ⟨b2, eb2, hw⟩ := hw
    refine xb_some eb2 ?_
    obtain ⟨hk3, hw⟩ := hw
    refine xb_getP (C := R_StackModule) (T := F_StackModule) (N := 19) hx hb 2 5 hts fin_StackModule hown hR hk3 (by decide) rfl (by decide) rfl (hts _ m_81589b2f) (fun _ h9 => h9) (xb_d D_Checker_checkOwn 26 rfl) ?_
    obtain ⟨b4, eb4, hw⟩ := hw
    refine xb_some eb4 ?_
    obtain ⟨hk5, hw⟩ := hw
    refine xb_call0 (D := D) (A := A) (σ := σ) (h := h) (d := 2) (maxL := 1) (rest := [.int x1]) (av := [.ref b4]) (fun T hT X => by obtain ⟨cb9, ra9, rb9, rc9⟩ := xb_recv (ci := 1) hR rfl hk5 (by decide); exact xt_invV X hx hown (hts _ m_c8b950b4) (hts _ m_ded65609) (hts _ m_a4161156) (xt_sigOf (hts _ m_83ba3721)) nm_Row_lines (by rw [hT]; exact ra9) rb9 rc9 (g := F0 m 53 ls [.ref b4, .int x1]) rfl (argsL := []) (rest := [.int x1]) rfl rfl (by rw [hb]; exact (xb_d D_Checker_checkOwn 27 rfl))) (ok_Row_lines l hfl D A σ b4 h _ hw) (hml.trans hl.1.symm) (by rw [hb]; exact (xb_d D_Checker_checkOwn 27 rfl)) (Nat.le_of_ble_eq_true rfl) (Nat.le_of_ble_eq_true rfl) (Nat.le_of_ble_eq_true rfl) (show k ≤ MC by omega) (show n ≤ MS by omega) (xt_w1 hB.1 m_83ba3721) (xt_cdOf hB.1 m_83ba3721) (hts _ m_c1bef504) hB hR hS hA (fun vv h6 H locs hq hEh6 hR hS => ?_)
    obtain ⟨r7, rfl, hw⟩ := hq
    have hw := hw hEh6
    have hE := hE.tr hEh6
    refine W.eq (g2 := F0 m 56 ls [.int r7, .int x1]) rfl ?_
    refine lv_icmp_ge (tgt := 80) hx hb (xb_d D_Checker_checkOwn 28 rfl) rfl (fun hc8 => ?_) (fun hc8 => ?_)
    · have hw := hw.1 hc8
      refine lv_aload_n hx hb (xb_d D_Checker_checkOwn 38 rfl) rfl (lv_at hl 0 rfl) ?_
      have hk1 : xb_k h6 x0 = 5 := hEh6.k hk1
      refine xb_getP (C := R_Checker) (T := F_Checker) (N := 17) hx hb 4 0 hts fin_Checker hown hR hk1 (by decide) rfl (by decide) rfl (hts _ m_070795bc) (fun _ h9 => h9) (xb_d D_Checker_checkOwn 39 rfl) ?_
      obtain ⟨b9, eb9, hw⟩ := hw
      refine xb_some eb9 ?_
      obtain ⟨hk10, hw⟩ := hw
      refine xb_getP (C := R_StackModule) (T := F_StackModule) (N := 19) hx hb 2 14 hts fin_StackModule hown hR hk10 (by decide) rfl (by decide) rfl (hts _ m_c2d0ffa0) (fun _ h9 => h9) (xb_d D_Checker_checkOwn 40 rfl) ?_
      obtain ⟨b11, eb11, hw⟩ := hw
      refine xb_some eb11 ?_
      refine lv_iconst (v := 2) hx hb (xb_d D_Checker_checkOwn 41 rfl) (by decide) ?_
      obtain ⟨hk13, hw⟩ := hw
      obtain ⟨hi12, hw⟩ := hw
      refine xb_iald hx hb hR hk13 hi12 (xb_d D_Checker_checkOwn 42 rfl) ?_
      refine xt_numi (y := (xb_i h6 b11 2)) (congrArg (xb_i h6 b11) (by decide : (2 : Int32).toNatClampNeg = 2)) ?_
      obtain ⟨v14, ev14⟩ : ∃ x : Int32, x = (xb_i h6 b11 2) := ⟨_, rfl⟩
      have hw := hw v14 ev14
      refine xt_numi (y := v14) ev14.symm ?_
      refine lv_istore_n hx hb (xb_d D_Checker_checkOwn 43 rfl) rfl hl (by decide) rfl (fun ls hl => ?_)
      have hl : lv_has ls 3 [(1, .int v14), (0, .ref x0)] := hl
      obtain ⟨n8, hw⟩ := hw
      exact am_Checker_checkOwn_L90 l hfl D A σ MC MS h0 Qr Qt n8 x0 v14 h6 bc bs hw p e s m args below meth c hC H locs ls k n hE (lv_sub hl [1, 0] rfl) hR hS (by omega) (by omega)
    · have hw := hw.2 hc8
      refine lv_aload_n hx hb (xb_d D_Checker_checkOwn 29 rfl) rfl (lv_at hl 0 rfl) ?_
      refine lv_aload_n hx hb (xb_d D_Checker_checkOwn 30 rfl) rfl (lv_at hl 0 rfl) ?_
      have hk1 : xb_k h6 x0 = 5 := hEh6.k hk1
      refine xb_getP (C := R_Checker) (T := F_Checker) (N := 17) hx hb 4 0 hts fin_Checker hown hR hk1 (by decide) rfl (by decide) rfl (hts _ m_070795bc) (fun _ h9 => h9) (xb_d D_Checker_checkOwn 31 rfl) ?_
      obtain ⟨b15, eb15, hw⟩ := hw
      refine xb_some eb15 ?_
      obtain ⟨hk16, hw⟩ := hw
      refine xb_getP (C := R_StackModule) (T := F_StackModule) (N := 19) hx hb 2 5 hts fin_StackModule hown hR hk16 (by decide) rfl (by decide) rfl (hts _ m_81589b2f) (fun _ h9 => h9) (xb_d D_Checker_checkOwn 32 rfl) ?_
      obtain ⟨b17, eb17, hw⟩ := hw
      refine xb_some eb17 ?_
      refine lv_iload_n hx hb (xb_d D_Checker_checkOwn 33 rfl) rfl (lv_at hl 1 rfl) ?_
      refine lv_ldc2 (v := 4294967295) hx hb hown (hts _ m_8009c90c) (xb_d D_Checker_checkOwn 34 rfl) ?_
      refine xb_call (D := D) (A := A) (σ := σ) (h := h6) (d := 3) (mc := bc) (ms := bs) (maxL := 10) (rest := []) (av := [.ref x0, .ref b17, .int x1, .long 4294967295]) (fun T hT X => by obtain ⟨cb9, ra9, rb9, rc9⟩ := xb_recv (ci := 4) hR rfl hk1 (by decide); exact xt_invV X hx hown (hts _ m_160564f4) (hts _ m_e4938329) (hts _ m_811dfb37) (xt_sigOf (hts _ m_9c84dd5e)) nm_Checker_checkLimits (by rw [hT]; exact ra9) rb9 rc9 (g := F0 m 71 ls [.long 4294967295, .int x1, .ref b17, .ref x0]) rfl (argsL := [.ref b17, .int x1, .long 4294967295]) (rest := []) rfl rfl (by rw [hb]; exact (xb_d D_Checker_checkOwn 35 rfl))) (ok_Checker_checkLimits l hfl D A σ x0 b17 x1 4294967295 h6 bc bs _ _ hw) (hml.trans hl.1.symm) (by rw [hb]; exact (xb_d D_Checker_checkOwn 35 rfl)) (Nat.le_of_ble_eq_true rfl) (Nat.le_of_ble_eq_true rfl) (Nat.le_of_ble_eq_true rfl) (show k + bc ≤ MC by omega) (show n + bs ≤ MS by omega) (xt_w1 hB.1 m_9c84dd5e) (xt_cdOf hB.1 m_9c84dd5e) (hts _ m_44748ce5) hB hR hS hA (fun vv h18 bc19 bs19 kk19 nn19 H locs hk19 hn19 hq hEh18 hR hS => ?_) (fun XX ax h18 bc19 bs19 kk19 nn19 H locs hk19 hn19 hq hEh18 hex hR hS => ?_)
      · obtain ⟨rfl, hw⟩ := hq
        have hw := hw hEh18
        have hE := hE.tr hEh18
        refine W.eq (g2 := F0 m 74 ls []) rfl ?_
        refine lv_iinc (v := (x1 + 1)) (k := 1) hx hb (xb_d D_Checker_checkOwn 36 rfl) hl rfl (by first | rfl | decide) (by decide) rfl (fun ls hl => ?_)
        have hl : lv_has ls 3 [(1, .int (x1 + 1)), (0, .ref x0)] := hl
        refine lv_goto (tgt := 45) hx hb (xb_d D_Checker_checkOwn 37 rfl) rfl ?_
        exact ih x0 (x1 + 1) h18 bc19 bs19 hw p e s m args below meth c hC H locs ls (k + kk19) (n + nn19) hE (lv_sub hl [1, 0] rfl) hR hS (by omega) (by omega)
      · exact xb_pass hlocks (fun x hx9 => by rw [htab] at hx9; first | (cases hx9; done) | (simp [tableOf] at hx9; subst hx9; decide) | (simp [tableOf] at hx9; rcases hx9 with rfl | rfl <;> decide) | (simp [tableOf] at hx9; rcases hx9 with rfl | rfl | rfl <;> decide)) (show (k + kk19) + bc19 ≤ MC by omega) (show (n + nn19) + bs19 ≤ MS by omega) (hE.tr hEh18) hR hS hex hq

set_option maxHeartbeats 4000000 in
set_option maxRecDepth 100000 in
theorem am_Checker_checkOwn_L10 (l : Launch) (hfl : l.flags = pinnedFlags ++ [noTraceFlag]) (D : va_G) (A : Nat → Prop) (σ MC MS : Nat) (h0 : xb_H) (Qr : xb_H → Nat → Nat → Prop) (Qt : String → xb_H → Nat → Nat → Prop) (n9 : Nat) : ∀ (x0 : Nat) (x1 : Int32) (h : xb_H) (bc : Nat) (bs : Nat), w_Checker_checkOwn_L10 Qr Qt n9 x0 x1 h bc bs → xb_am l D A σ 4 MC MS h0 (fun v h bc bs => v = none ∧ Qr h bc bs) Qt y_Checker_checkOwn.cls y_Checker_checkOwn.name b_Checker_checkOwn 3 ([] : List ExceptionTableEntry) none 10 [(0, .ref x0), (1, .int x1)] [] h bc bs := by
  induction n9 with
  | zero => intro x0 x1 h bc bs hw; exact False.elim hw
  | succ n9 ih =>
    intro x0 x1 h bc bs hw
    unfold w_Checker_checkOwn_L10 at hw
    intro p e s m args below meth c hC H locs ls k n hE hl hR hS hk hn
    obtain ⟨hx, hb, hown, hlocks, htab, hml, hr, hB, hA, hnm⟩ := id hC
    have hts := hB.1.1.at args
    refine lv_iload_n hx hb (xb_d D_Checker_checkOwn 6 rfl) rfl (lv_at hl 1 rfl) ?_
    refine lv_aload_n hx hb (xb_d D_Checker_checkOwn 7 rfl) rfl (lv_at hl 0 rfl) ?_
    obtain ⟨hk1, hw⟩ := hw
    refine xb_getP (C := R_Checker) (T := F_Checker) (N := 17) hx hb 4 0 hts fin_Checker hown hR hk1 (by decide) rfl (by decide) rfl (hts _ m_070795bc) (fun _ h9 => h9) (xb_d D_Checker_checkOwn 8 rfl) ?_
    obtain ⟨b2, eb2, hw⟩ := hw
    refine xb_some eb2 ?_
    obtain ⟨hk3, hw⟩ := hw
    refine xb_getP (C := R_StackModule) (T := F_StackModule) (N := 19) hx hb 2 4 hts fin_StackModule hown hR hk3 (by decide) rfl (by decide) rfl (hts _ m_74009c24) (fun _ h9 => h9) (xb_d D_Checker_checkOwn 9 rfl) ?_
    obtain ⟨b4, eb4, hw⟩ := hw
    refine xb_some eb4 ?_
    obtain ⟨hk5, hw⟩ := hw
    refine xb_call0 (D := D) (A := A) (σ := σ) (h := h) (d := 2) (maxL := 1) (rest := [.int x1]) (av := [.ref b4]) (fun T hT X => by obtain ⟨cb9, ra9, rb9, rc9⟩ := xb_recv (ci := 1) hR rfl hk5 (by decide); exact xt_invV X hx hown (hts _ m_c8b950b4) (hts _ m_ded65609) (hts _ m_a4161156) (xt_sigOf (hts _ m_83ba3721)) nm_Row_lines (by rw [hT]; exact ra9) rb9 rc9 (g := F0 m 18 ls [.ref b4, .int x1]) rfl (argsL := []) (rest := [.int x1]) rfl rfl (by rw [hb]; exact (xb_d D_Checker_checkOwn 10 rfl))) (ok_Row_lines l hfl D A σ b4 h _ hw) (hml.trans hl.1.symm) (by rw [hb]; exact (xb_d D_Checker_checkOwn 10 rfl)) (Nat.le_of_ble_eq_true rfl) (Nat.le_of_ble_eq_true rfl) (Nat.le_of_ble_eq_true rfl) (show k ≤ MC by omega) (show n ≤ MS by omega) (xt_w1 hB.1 m_83ba3721) (xt_cdOf hB.1 m_83ba3721) (hts _ m_c1bef504) hB hR hS hA (fun vv h6 H locs hq hEh6 hR hS => ?_)
    obtain ⟨r7, rfl, hw⟩ := hq
    have hw := hw hEh6
    have hE := hE.tr hEh6
    refine W.eq (g2 := F0 m 21 ls [.int r7, .int x1]) rfl ?_
    refine lv_icmp_ge (tgt := 35) hx hb (xb_d D_Checker_checkOwn 11 rfl) rfl (fun hc8 => ?_) (fun hc8 => ?_)
    · have hw := hw.1 hc8
      refine lv_aload_n hx hb (xb_d D_Checker_checkOwn 17 rfl) rfl (lv_at hl 0 rfl) ?_
      have hk1 : xb_k h6 x0 = 5 := hEh6.k hk1
      refine xb_getP (C := R_Checker) (T := F_Checker) (N := 17) hx hb 4 0 hts fin_Checker hown hR hk1 (by decide) rfl (by decide) rfl (hts _ m_070795bc) (fun _ h9 => h9) (xb_d D_Checker_checkOwn 18 rfl) ?_
      obtain ⟨b9, eb9, hw⟩ := hw
      refine xb_some eb9 ?_
      obtain ⟨hk10, hw⟩ := hw
      refine xb_getP (C := R_StackModule) (T := F_StackModule) (N := 19) hx hb 2 14 hts fin_StackModule hown hR hk10 (by decide) rfl (by decide) rfl (hts _ m_c2d0ffa0) (fun _ h9 => h9) (xb_d D_Checker_checkOwn 19 rfl) ?_
      obtain ⟨b11, eb11, hw⟩ := hw
      refine xb_some eb11 ?_
      refine lv_iconst (v := 1) hx hb (xb_d D_Checker_checkOwn 20 rfl) (by decide) ?_
      obtain ⟨hk13, hw⟩ := hw
      obtain ⟨hi12, hw⟩ := hw
      refine xb_iald hx hb hR hk13 hi12 (xb_d D_Checker_checkOwn 21 rfl) ?_
      refine xt_numi (y := (xb_i h6 b11 1)) (congrArg (xb_i h6 b11) (by decide : (1 : Int32).toNatClampNeg = 1)) ?_
      obtain ⟨v14, ev14⟩ : ∃ x : Int32, x = (xb_i h6 b11 1) := ⟨_, rfl⟩
      have hw := hw v14 ev14
      refine xt_numi (y := v14) ev14.symm ?_
      refine lv_istore_n hx hb (xb_d D_Checker_checkOwn 22 rfl) rfl hl (by decide) rfl (fun ls hl => ?_)
      have hl : lv_has ls 3 [(1, .int v14), (0, .ref x0)] := hl
      obtain ⟨n8, hw⟩ := hw
      exact am_Checker_checkOwn_L45 l hfl D A σ MC MS h0 Qr Qt n8 x0 v14 h6 bc bs hw p e s m args below meth c hC H locs ls k n hE (lv_sub hl [1, 0] rfl) hR hS (by omega) (by omega)
    · have hw := hw.2 hc8
      refine lv_aload_n hx hb (xb_d D_Checker_checkOwn 12 rfl) rfl (lv_at hl 0 rfl) ?_
      refine lv_iload_n hx hb (xb_d D_Checker_checkOwn 13 rfl) rfl (lv_at hl 1 rfl) ?_
      have hk1 : xb_k h6 x0 = 5 := hEh6.k hk1
      refine xb_call (D := D) (A := A) (σ := σ) (h := h6) (d := 3) (mc := bc) (ms := bs) (maxL := 2) (rest := []) (av := [.ref x0, .int x1]) (fun T hT X => by obtain ⟨cb9, ra9, rb9, rc9⟩ := xb_recv (ci := 4) hR rfl hk1 (by decide); exact xt_invV X hx hown (hts _ m_635e771e) (hts _ m_b0a695c0) (hts _ m_1190460b) (xt_sigOf (hts _ m_dd5eb9b4)) nm_Checker_checkFunction (by rw [hT]; exact ra9) rb9 rc9 (g := F0 m 26 ls [.int x1, .ref x0]) rfl (argsL := [.int x1]) (rest := []) rfl rfl (by rw [hb]; exact (xb_d D_Checker_checkOwn 14 rfl))) (ok_Checker_checkFunction l hfl D A σ x0 x1 h6 bc bs _ _ hw) (hml.trans hl.1.symm) (by rw [hb]; exact (xb_d D_Checker_checkOwn 14 rfl)) (Nat.le_of_ble_eq_true rfl) (Nat.le_of_ble_eq_true rfl) (Nat.le_of_ble_eq_true rfl) (show k + bc ≤ MC by omega) (show n + bs ≤ MS by omega) (xt_w1 hB.1 m_dd5eb9b4) (xt_cdOf hB.1 m_dd5eb9b4) (hts _ m_44748ce5) hB hR hS hA (fun vv h15 bc16 bs16 kk16 nn16 H locs hk16 hn16 hq hEh15 hR hS => ?_) (fun XX ax h15 bc16 bs16 kk16 nn16 H locs hk16 hn16 hq hEh15 hex hR hS => ?_)
      · obtain ⟨rfl, hw⟩ := hq
        have hw := hw hEh15
        have hE := hE.tr hEh15
        refine W.eq (g2 := F0 m 29 ls []) rfl ?_
        refine lv_iinc (v := (x1 + 1)) (k := 1) hx hb (xb_d D_Checker_checkOwn 15 rfl) hl rfl (by first | rfl | decide) (by decide) rfl (fun ls hl => ?_)
        have hl : lv_has ls 3 [(1, .int (x1 + 1)), (0, .ref x0)] := hl
        refine lv_goto (tgt := 10) hx hb (xb_d D_Checker_checkOwn 16 rfl) rfl ?_
        exact ih x0 (x1 + 1) h15 bc16 bs16 hw p e s m args below meth c hC H locs ls (k + kk16) (n + nn16) hE (lv_sub hl [1, 0] rfl) hR hS (by omega) (by omega)
      · exact xb_pass hlocks (fun x hx9 => by rw [htab] at hx9; first | (cases hx9; done) | (simp [tableOf] at hx9; subst hx9; decide) | (simp [tableOf] at hx9; rcases hx9 with rfl | rfl <;> decide) | (simp [tableOf] at hx9; rcases hx9 with rfl | rfl | rfl <;> decide)) (show (k + kk16) + bc16 ≤ MC by omega) (show (n + nn16) + bs16 ≤ MS by omega) (hE.tr hEh15) hR hS hex hq

set_option maxHeartbeats 4000000 in
set_option maxRecDepth 100000 in
theorem ok_Checker_checkOwn (l : Launch) (hfl : l.flags = pinnedFlags ++ [noTraceFlag]) (D : va_G) (A : Nat → Prop) (σ : Nat) (x0 : Nat) (h : xb_H) (bc : Nat) (bs : Nat) (Qr : xb_H → Nat → Nat → Prop) (Qt : String → xb_H → Nat → Nat → Prop) (hw : w_Checker_checkOwn x0 h bc bs Qr Qt) : xb_Met l y_Checker_checkOwn [.code y_Checker_checkOwn b_Checker_checkOwn 3 none] (xb_rm 4 bc bs) (xb_Pc D A σ h [.ref x0]) (xb_Qc D A h bc bs (fun v h bc bs => v = none ∧ Qr h bc bs) Qt) A := by
  refine xb_ofAm (cc := b_Checker_checkOwn) (by decide) (Nat.le_of_ble_eq_true rfl) ?_
  unfold w_Checker_checkOwn at hw
  show xb_am l D A σ 4 bc bs h (fun v h bc bs => v = none ∧ Qr h bc bs) Qt y_Checker_checkOwn.cls y_Checker_checkOwn.name b_Checker_checkOwn 3 ([] : List ExceptionTableEntry) none 0 [(0, .ref x0)] [] h bc bs
  obtain ⟨MC, hMC⟩ : ∃ x, x = bc := ⟨_, rfl⟩
  obtain ⟨MS, hMS⟩ : ∃ x, x = bs := ⟨_, rfl⟩
  rw [show xb_am l D A σ 4 bc bs = xb_am l D A σ 4 MC MS by rw [hMC, hMS]]
  obtain ⟨h0, hh0⟩ : ∃ x, x = h := ⟨_, rfl⟩
  rw [show xb_am l D A σ 4 MC MS h = xb_am l D A σ 4 MC MS h0 by rw [hh0]]
  intro p e s m args below meth c hC H locs ls k n hE hl hR hS hk hn
  obtain ⟨hx, hb, hown, hlocks, htab, hml, hr, hB, hA, hnm⟩ := id hC
  have hts := hB.1.1.at args
  refine lv_aload_n hx hb (xb_d D_Checker_checkOwn 0 rfl) rfl (lv_at hl 0 rfl) ?_
  obtain ⟨hk1, hw⟩ := hw
  refine xb_getP (C := R_Checker) (T := F_Checker) (N := 17) hx hb 4 0 hts fin_Checker hown hR hk1 (by decide) rfl (by decide) rfl (hts _ m_070795bc) (fun _ h9 => h9) (xb_d D_Checker_checkOwn 1 rfl) ?_
  obtain ⟨b2, eb2, hw⟩ := hw
  refine xb_some eb2 ?_
  obtain ⟨hk3, hw⟩ := hw
  refine xb_getP (C := R_StackModule) (T := F_StackModule) (N := 19) hx hb 2 14 hts fin_StackModule hown hR hk3 (by decide) rfl (by decide) rfl (hts _ m_c2d0ffa0) (fun _ h9 => h9) (xb_d D_Checker_checkOwn 2 rfl) ?_
  obtain ⟨b4, eb4, hw⟩ := hw
  refine xb_some eb4 ?_
  refine lv_iconst (v := 0) hx hb (xb_d D_Checker_checkOwn 3 rfl) (by decide) ?_
  obtain ⟨hk6, hw⟩ := hw
  obtain ⟨hi5, hw⟩ := hw
  refine xb_iald hx hb hR hk6 hi5 (xb_d D_Checker_checkOwn 4 rfl) ?_
  refine xt_numi (y := (xb_i h b4 0)) (congrArg (xb_i h b4) (by decide : (0 : Int32).toNatClampNeg = 0)) ?_
  obtain ⟨v7, ev7⟩ : ∃ x : Int32, x = (xb_i h b4 0) := ⟨_, rfl⟩
  have hw := hw v7 ev7
  refine xt_numi (y := v7) ev7.symm ?_
  refine lv_istore_n hx hb (xb_d D_Checker_checkOwn 5 rfl) rfl hl (by decide) rfl (fun ls hl => ?_)
  have hl : lv_has ls 3 [(1, .int v7), (0, .ref x0)] := hl
  obtain ⟨n8, hw⟩ := hw
  exact am_Checker_checkOwn_L10 l hfl D A σ MC MS h0 Qr Qt n8 x0 v7 h bc bs hw p e s m args below meth c hC H locs ls k n hE (lv_sub hl [1, 0] rfl) hR hS (by omega) (by omega)

set_option maxRecDepth 100000 in
def T_Checker_checkSelect : List (Nat × Instr × Nat) := [(0, .aload_n 0, 1), (1, .bipush 127, 2), (3, .invokevirtual 251, 3), (6, .pop, 1), (7, .aload_n 0, 1), (8, .iconst 0, 1), (9, .invokevirtual 251, 3), (12, .istore_n 1, 1), (13, .aload_n 0, 1), (14, .iload_n 1, 1), (15, .invokevirtual 251, 3), (18, .istore_n 2, 1), (19, .aload_n 0, 1), (20, .iload_n 1, 1), (21, .ifCond .ne 7, 3), (24, .iload_n 2, 1), (25, .goto 4, 3), (28, .iload_n 1, 1), (29, .invokevirtual 236, 3), (32, .return_, 1)]
theorem D_Checker_checkSelect : ∀ q ∈ T_Checker_checkSelect, decode b_Checker_checkSelect q.1 = .ok (q.2.1, q.2.2) := by decide +kernel

set_option maxHeartbeats 4000000 in
set_option maxRecDepth 100000 in
theorem am_Checker_checkSelect_L29 (l : Launch) (hfl : l.flags = pinnedFlags ++ [noTraceFlag]) (D : va_G) (A : Nat → Prop) (σ MC MS : Nat) (h0 : xb_H) (Qr : xb_H → Nat → Nat → Prop) (Qt : String → xb_H → Nat → Nat → Prop) (y0 : Int32) (y1 : Nat) (h : xb_H) (bc : Nat) (bs : Nat) (hw : w_Checker_checkSelect_L29 Qr Qt y0 y1 h bc bs) : xb_am l D A σ 4 MC MS h0 (fun v h bc bs => v = none ∧ Qr h bc bs) Qt y_Checker_checkSelect.cls y_Checker_checkSelect.name b_Checker_checkSelect 3 ([] : List ExceptionTableEntry) none 29 [] [.int y0, .ref y1] h bc bs := by
  unfold w_Checker_checkSelect_L29 at hw
  intro p e s m args below meth c hC H locs ls k n hE hl hR hS hk hn
  obtain ⟨hx, hb, hown, hlocks, htab, hml, hr, hB, hA, hnm⟩ := id hC
  have hts := hB.1.1.at args
  obtain ⟨hk1, hw⟩ := hw
  refine xb_call0 (D := D) (A := A) (σ := σ) (h := h) (d := 2) (maxL := 2) (rest := []) (av := [.ref y1, .int y0]) (fun T hT X => by obtain ⟨cb9, ra9, rb9, rc9⟩ := xb_recv (ci := 4) hR rfl hk1 (by decide); exact xt_invV X hx hown (hts _ m_761ff7fc) (hts _ m_e867be1e) (hts _ m_098fc344) (xt_sigOf (hts _ m_43ff17c7)) nm_Checker_put (by rw [hT]; exact ra9) rb9 rc9 (g := F0 m 29 ls [.int y0, .ref y1]) rfl (argsL := [.int y0]) (rest := []) rfl rfl (by rw [hb]; exact (xb_d D_Checker_checkSelect 18 rfl))) (ok_Checker_put l hfl D A σ y1 y0 h _ hw) (hml.trans hl.1.symm) (by rw [hb]; exact (xb_d D_Checker_checkSelect 18 rfl)) (Nat.le_of_ble_eq_true rfl) (Nat.le_of_ble_eq_true rfl) (Nat.le_of_ble_eq_true rfl) (show k ≤ MC by omega) (show n ≤ MS by omega) (xt_w1 hB.1 m_43ff17c7) (xt_cdOf hB.1 m_43ff17c7) (hts _ m_44748ce5) hB hR hS hA (fun vv h2 H locs hq hEh2 hR hS => ?_)
  obtain ⟨rfl, hw⟩ := hq
  have hw := hw hEh2
  have hE := hE.tr hEh2
  refine W.eq (g2 := F0 m 32 ls []) rfl ?_
  exact xb_vret bc bs hx hb hr hlocks (show k + bc ≤ MC by omega) (show n + bs ≤ MS by omega) hE hR hS (xb_d D_Checker_checkSelect 19 rfl) hw

set_option maxHeartbeats 4000000 in
set_option maxRecDepth 100000 in
theorem ok_Checker_checkSelect (l : Launch) (hfl : l.flags = pinnedFlags ++ [noTraceFlag]) (D : va_G) (A : Nat → Prop) (σ : Nat) (x0 : Nat) (h : xb_H) (bc : Nat) (bs : Nat) (Qr : xb_H → Nat → Nat → Prop) (Qt : String → xb_H → Nat → Nat → Prop) (hw : w_Checker_checkSelect x0 h bc bs Qr Qt) : xb_Met l y_Checker_checkSelect [.code y_Checker_checkSelect b_Checker_checkSelect 3 none] (xb_rm 4 bc bs) (xb_Pc D A σ h [.ref x0]) (xb_Qc D A h bc bs (fun v h bc bs => v = none ∧ Qr h bc bs) Qt) A := by
  refine xb_ofAm (cc := b_Checker_checkSelect) (by decide) (Nat.le_of_ble_eq_true rfl) ?_
  unfold w_Checker_checkSelect at hw
  show xb_am l D A σ 4 bc bs h (fun v h bc bs => v = none ∧ Qr h bc bs) Qt y_Checker_checkSelect.cls y_Checker_checkSelect.name b_Checker_checkSelect 3 ([] : List ExceptionTableEntry) none 0 [(0, .ref x0)] [] h bc bs
  obtain ⟨MC, hMC⟩ : ∃ x, x = bc := ⟨_, rfl⟩
  obtain ⟨MS, hMS⟩ : ∃ x, x = bs := ⟨_, rfl⟩
  rw [show xb_am l D A σ 4 bc bs = xb_am l D A σ 4 MC MS by rw [hMC, hMS]]
  obtain ⟨h0, hh0⟩ : ∃ x, x = h := ⟨_, rfl⟩
  rw [show xb_am l D A σ 4 MC MS h = xb_am l D A σ 4 MC MS h0 by rw [hh0]]
  intro p e s m args below meth c hC H locs ls k n hE hl hR hS hk hn
  obtain ⟨hx, hb, hown, hlocks, htab, hml, hr, hB, hA, hnm⟩ := id hC
  have hts := hB.1.1.at args
  refine lv_aload_n hx hb (xb_d D_Checker_checkSelect 0 rfl) rfl (lv_at hl 0 rfl) ?_
  refine lv_bipush (v := 127) hx hb (xb_d D_Checker_checkSelect 1 rfl) (by decide) ?_
  obtain ⟨hk1, hw⟩ := hw
  refine xb_call (D := D) (A := A) (σ := σ) (h := h) (d := 3) (mc := bc) (ms := bs) (maxL := 3) (rest := []) (av := [.ref x0, .int 127]) (fun T hT X => by obtain ⟨cb9, ra9, rb9, rc9⟩ := xb_recv (ci := 4) hR rfl hk1 (by decide); exact xt_invV X hx hown (hts _ m_0b33e20f) (hts _ m_338dda25) (hts _ m_d7dc08f9) (xt_sigOf (hts _ m_b71cce2b)) nm_Checker_take (by rw [hT]; exact ra9) rb9 rc9 (g := F0 m 3 ls [.int 127, .ref x0]) rfl (argsL := [.int 127]) (rest := []) rfl rfl (by rw [hb]; exact (xb_d D_Checker_checkSelect 2 rfl))) (ok_Checker_take l hfl D A σ x0 127 h bc bs _ _ hw) (hml.trans hl.1.symm) (by rw [hb]; exact (xb_d D_Checker_checkSelect 2 rfl)) (Nat.le_of_ble_eq_true rfl) (Nat.le_of_ble_eq_true rfl) (Nat.le_of_ble_eq_true rfl) (show k + bc ≤ MC by omega) (show n + bs ≤ MS by omega) (xt_w1 hB.1 m_b71cce2b) (xt_cdOf hB.1 m_b71cce2b) (hts _ m_44748ce5) hB hR hS hA (fun vv h2 bc3 bs3 kk3 nn3 H locs hk3 hn3 hq hEh2 hR hS => ?_) (fun XX ax h2 bc3 bs3 kk3 nn3 H locs hk3 hn3 hq hEh2 hex hR hS => ?_)
  · obtain ⟨r3, rfl, hw⟩ := hq
    have hw := hw hEh2
    have hE := hE.tr hEh2
    refine W.eq (g2 := F0 m 6 ls [.int r3]) rfl ?_
    refine lv_pop hx hb (xb_d D_Checker_checkSelect 3 rfl) rfl ?_
    refine lv_aload_n hx hb (xb_d D_Checker_checkSelect 4 rfl) rfl (lv_at hl 0 rfl) ?_
    refine lv_iconst (v := 0) hx hb (xb_d D_Checker_checkSelect 5 rfl) (by decide) ?_
    have hk1 : xb_k h2 x0 = 5 := hEh2.k hk1
    refine xb_call (D := D) (A := A) (σ := σ) (h := h2) (d := 3) (mc := bc3) (ms := bs3) (maxL := 3) (rest := []) (av := [.ref x0, .int 0]) (fun T hT X => by obtain ⟨cb9, ra9, rb9, rc9⟩ := xb_recv (ci := 4) hR rfl hk1 (by decide); exact xt_invV X hx hown (hts _ m_0b33e20f) (hts _ m_338dda25) (hts _ m_d7dc08f9) (xt_sigOf (hts _ m_b71cce2b)) nm_Checker_take (by rw [hT]; exact ra9) rb9 rc9 (g := F0 m 9 ls [.int 0, .ref x0]) rfl (argsL := [.int 0]) (rest := []) rfl rfl (by rw [hb]; exact (xb_d D_Checker_checkSelect 6 rfl))) (ok_Checker_take l hfl D A σ x0 0 h2 bc3 bs3 _ _ hw) (hml.trans hl.1.symm) (by rw [hb]; exact (xb_d D_Checker_checkSelect 6 rfl)) (Nat.le_of_ble_eq_true rfl) (Nat.le_of_ble_eq_true rfl) (Nat.le_of_ble_eq_true rfl) (show (k + kk3) + bc3 ≤ MC by omega) (show (n + nn3) + bs3 ≤ MS by omega) (xt_w1 hB.1 m_b71cce2b) (xt_cdOf hB.1 m_b71cce2b) (hts _ m_44748ce5) hB hR hS hA (fun vv h4 bc5 bs5 kk5 nn5 H locs hk5 hn5 hq hEh4 hR hS => ?_) (fun XX ax h4 bc5 bs5 kk5 nn5 H locs hk5 hn5 hq hEh4 hex hR hS => ?_)
    · obtain ⟨r5, rfl, hw⟩ := hq
      have hw := hw hEh4
      have hE := hE.tr hEh4
      refine W.eq (g2 := F0 m 12 ls [.int r5]) rfl ?_
      refine lv_istore_n hx hb (xb_d D_Checker_checkSelect 7 rfl) rfl hl (by decide) rfl (fun ls hl => ?_)
      have hl : lv_has ls 3 [(1, .int r5), (0, .ref x0)] := hl
      refine lv_aload_n hx hb (xb_d D_Checker_checkSelect 8 rfl) rfl (lv_at hl 1 rfl) ?_
      refine lv_iload_n hx hb (xb_d D_Checker_checkSelect 9 rfl) rfl (lv_at hl 0 rfl) ?_
      have hk1 : xb_k h4 x0 = 5 := hEh4.k hk1
      refine xb_call (D := D) (A := A) (σ := σ) (h := h4) (d := 3) (mc := bc5) (ms := bs5) (maxL := 3) (rest := []) (av := [.ref x0, .int r5]) (fun T hT X => by obtain ⟨cb9, ra9, rb9, rc9⟩ := xb_recv (ci := 4) hR rfl hk1 (by decide); exact xt_invV X hx hown (hts _ m_0b33e20f) (hts _ m_338dda25) (hts _ m_d7dc08f9) (xt_sigOf (hts _ m_b71cce2b)) nm_Checker_take (by rw [hT]; exact ra9) rb9 rc9 (g := F0 m 15 ls [.int r5, .ref x0]) rfl (argsL := [.int r5]) (rest := []) rfl rfl (by rw [hb]; exact (xb_d D_Checker_checkSelect 10 rfl))) (ok_Checker_take l hfl D A σ x0 r5 h4 bc5 bs5 _ _ hw) (hml.trans hl.1.symm) (by rw [hb]; exact (xb_d D_Checker_checkSelect 10 rfl)) (Nat.le_of_ble_eq_true rfl) (Nat.le_of_ble_eq_true rfl) (Nat.le_of_ble_eq_true rfl) (show ((k + kk3) + kk5) + bc5 ≤ MC by omega) (show ((n + nn3) + nn5) + bs5 ≤ MS by omega) (xt_w1 hB.1 m_b71cce2b) (xt_cdOf hB.1 m_b71cce2b) (hts _ m_44748ce5) hB hR hS hA (fun vv h6 bc7 bs7 kk7 nn7 H locs hk7 hn7 hq hEh6 hR hS => ?_) (fun XX ax h6 bc7 bs7 kk7 nn7 H locs hk7 hn7 hq hEh6 hex hR hS => ?_)
      · obtain ⟨r7, rfl, hw⟩ := hq
        have hw := hw hEh6
        have hE := hE.tr hEh6
        refine W.eq (g2 := F0 m 18 ls [.int r7]) rfl ?_
        refine lv_istore_n hx hb (xb_d D_Checker_checkSelect 11 rfl) rfl hl (by decide) rfl (fun ls hl => ?_)
        have hl : lv_has ls 3 [(2, .int r7), (1, .int r5), (0, .ref x0)] := hl
        refine lv_aload_n hx hb (xb_d D_Checker_checkSelect 12 rfl) rfl (lv_at hl 2 rfl) ?_
        refine lv_iload_n hx hb (xb_d D_Checker_checkSelect 13 rfl) rfl (lv_at hl 1 rfl) ?_
        refine lv_if_ne (tgt := 28) hx hb (xb_d D_Checker_checkSelect 14 rfl) rfl (fun hc8 => ?_) (fun hc8 => ?_)
        · have hw := hw.1 hc8
          refine lv_iload_n hx hb (xb_d D_Checker_checkSelect 17 rfl) rfl (lv_at hl 1 rfl) ?_
          exact am_Checker_checkSelect_L29 l hfl D A σ MC MS h0 Qr Qt r5 x0 h6 bc7 bs7 hw p e s m args below meth c hC H locs ls (((k + kk3) + kk5) + kk7) (((n + nn3) + nn5) + nn7) hE (lv_sub hl [] rfl) hR hS (by omega) (by omega)
        · have hw := hw.2 hc8
          refine lv_iload_n hx hb (xb_d D_Checker_checkSelect 15 rfl) rfl (lv_at hl 0 rfl) ?_
          refine lv_goto (tgt := 29) hx hb (xb_d D_Checker_checkSelect 16 rfl) rfl ?_
          exact am_Checker_checkSelect_L29 l hfl D A σ MC MS h0 Qr Qt r7 x0 h6 bc7 bs7 hw p e s m args below meth c hC H locs ls (((k + kk3) + kk5) + kk7) (((n + nn3) + nn5) + nn7) hE (lv_sub hl [] rfl) hR hS (by omega) (by omega)
      · exact xb_pass hlocks (fun x hx9 => by rw [htab] at hx9; first | (cases hx9; done) | (simp [tableOf] at hx9; subst hx9; decide) | (simp [tableOf] at hx9; rcases hx9 with rfl | rfl <;> decide) | (simp [tableOf] at hx9; rcases hx9 with rfl | rfl | rfl <;> decide)) (show (((k + kk3) + kk5) + kk7) + bc7 ≤ MC by omega) (show (((n + nn3) + nn5) + nn7) + bs7 ≤ MS by omega) (hE.tr hEh6) hR hS hex hq
    · exact xb_pass hlocks (fun x hx9 => by rw [htab] at hx9; first | (cases hx9; done) | (simp [tableOf] at hx9; subst hx9; decide) | (simp [tableOf] at hx9; rcases hx9 with rfl | rfl <;> decide) | (simp [tableOf] at hx9; rcases hx9 with rfl | rfl | rfl <;> decide)) (show ((k + kk3) + kk5) + bc5 ≤ MC by omega) (show ((n + nn3) + nn5) + bs5 ≤ MS by omega) (hE.tr hEh4) hR hS hex hq
  · exact xb_pass hlocks (fun x hx9 => by rw [htab] at hx9; first | (cases hx9; done) | (simp [tableOf] at hx9; subst hx9; decide) | (simp [tableOf] at hx9; rcases hx9 with rfl | rfl <;> decide) | (simp [tableOf] at hx9; rcases hx9 with rfl | rfl | rfl <;> decide)) (show (k + kk3) + bc3 ≤ MC by omega) (show (n + nn3) + bs3 ≤ MS by omega) (hE.tr hEh2) hR hS hex hq

theorem m_9ef1af18 : (.fieldLink "StackHost$Checker" 151 "StackHost$StackModule" "startAt" "I" : Cond) ∈ xt_tbl := xt_in (xt_t3 (List.mem_of_getElem? (i := 123) (by decide +kernel))) (by decide +kernel)
theorem m_2687ad12 : (.fieldLink "StackHost$Checker" 155 "StackHost$StackModule" "start" "I" : Cond) ∈ xt_tbl := xt_in (xt_t3 (List.mem_of_getElem? (i := 120) (by decide +kernel))) (by decide +kernel)
theorem m_ad67eca9 : (.methodLink "StackHost$Checker" 158 y_StackModule_typeOf : Cond) ∈ xt_tbl := xt_in (xt_t4 (List.mem_of_getElem? (i := 155) (by decide +kernel))) (by decide +kernel)
theorem m_2e09e00d : (.methodLink "StackHost$Checker" 164 y_StackModule_hasResult : Cond) ∈ xt_tbl := xt_in (xt_t4 (List.mem_of_getElem? (i := 163) (by decide +kernel))) (by decide +kernel)
set_option maxRecDepth 100000 in
def T_Checker_checkStart : List (Nat × Instr × Nat) := [(0, .aload_n 0, 1), (1, .getfield 38, 3), (4, .getfield 151, 3), (7, .iconst (-1), 1), (8, .if_icmp .ne 4, 3), (11, .return_, 1), (12, .aload_n 0, 1), (13, .getfield 38, 3), (16, .getfield 155, 3), (19, .i2l, 1), (20, .aload_n 0, 1), (21, .getfield 38, 3), (24, .getfield 118, 3), (27, .invokevirtual 77, 3), (30, .invokestatic 125, 3), (33, .ifCond .ne 19, 3), (36, .aload_n 0, 1), (37, .getfield 38, 3), (40, .bipush 20, 2), (42, .aload_n 0, 1), (43, .getfield 38, 3), (46, .getfield 151, 3), (49, .invokevirtual 94, 3), (52, .aload_n 0, 1), (53, .getfield 38, 3), (56, .aload_n 0, 1), (57, .getfield 38, 3), (60, .getfield 155, 3), (63, .invokevirtual 158, 3), (66, .istore_n 1, 1), (67, .aload_n 0, 1), (68, .getfield 38, 3), (71, .iload_n 1, 1), (72, .invokevirtual 161, 3), (75, .ifCond .gt 14, 3), (78, .aload_n 0, 1), (79, .getfield 38, 3), (82, .iload_n 1, 1), (83, .invokevirtual 164, 3), (86, .ifCond .eq 19, 3), (89, .aload_n 0, 1), (90, .getfield 38, 3), (93, .bipush 21, 2), (95, .aload_n 0, 1), (96, .getfield 38, 3), (99, .getfield 151, 3), (102, .invokevirtual 94, 3), (105, .return_, 1)]
theorem D_Checker_checkStart : ∀ q ∈ T_Checker_checkStart, decode b_Checker_checkStart q.1 = .ok (q.2.1, q.2.2) := by decide +kernel

set_option maxHeartbeats 4000000 in
set_option maxRecDepth 100000 in
theorem am_Checker_checkStart_L105 (l : Launch) (hfl : l.flags = pinnedFlags ++ [noTraceFlag]) (D : va_G) (A : Nat → Prop) (σ MC MS : Nat) (h0 : xb_H) (Qr : xb_H → Nat → Nat → Prop) (Qt : String → xb_H → Nat → Nat → Prop) (h : xb_H) (bc : Nat) (bs : Nat) (hw : w_Checker_checkStart_L105 Qr Qt h bc bs) : xb_am l D A σ 4 MC MS h0 (fun v h bc bs => v = none ∧ Qr h bc bs) Qt y_Checker_checkStart.cls y_Checker_checkStart.name b_Checker_checkStart 2 ([] : List ExceptionTableEntry) none 105 [] [] h bc bs := by
  unfold w_Checker_checkStart_L105 at hw
  intro p e s m args below meth c hC H locs ls k n hE hl hR hS hk hn
  obtain ⟨hx, hb, hown, hlocks, htab, hml, hr, hB, hA, hnm⟩ := id hC
  have hts := hB.1.1.at args
  exact xb_vret bc bs hx hb hr hlocks (show k + bc ≤ MC by omega) (show n + bs ≤ MS by omega) hE hR hS (xb_d D_Checker_checkStart 47 rfl) hw

set_option maxHeartbeats 4000000 in
set_option maxRecDepth 100000 in
theorem am_Checker_checkStart_L89 (l : Launch) (hfl : l.flags = pinnedFlags ++ [noTraceFlag]) (D : va_G) (A : Nat → Prop) (σ MC MS : Nat) (h0 : xb_H) (Qr : xb_H → Nat → Nat → Prop) (Qt : String → xb_H → Nat → Nat → Prop) (x0 : Nat) (h : xb_H) (bc : Nat) (bs : Nat) (hw : w_Checker_checkStart_L89 Qr Qt x0 h bc bs) : xb_am l D A σ 4 MC MS h0 (fun v h bc bs => v = none ∧ Qr h bc bs) Qt y_Checker_checkStart.cls y_Checker_checkStart.name b_Checker_checkStart 2 ([] : List ExceptionTableEntry) none 89 [(0, .ref x0)] [] h bc bs := by
  unfold w_Checker_checkStart_L89 at hw
  intro p e s m args below meth c hC H locs ls k n hE hl hR hS hk hn
  obtain ⟨hx, hb, hown, hlocks, htab, hml, hr, hB, hA, hnm⟩ := id hC
  have hts := hB.1.1.at args
  refine lv_aload_n hx hb (xb_d D_Checker_checkStart 40 rfl) rfl (lv_at hl 0 rfl) ?_
  obtain ⟨hk1, hw⟩ := hw
  refine xb_getP (C := R_Checker) (T := F_Checker) (N := 17) hx hb 4 0 hts fin_Checker hown hR hk1 (by decide) rfl (by decide) rfl (hts _ m_070795bc) (fun _ h9 => h9) (xb_d D_Checker_checkStart 41 rfl) ?_
  obtain ⟨b2, eb2, hw⟩ := hw
  refine xb_some eb2 ?_
  refine lv_bipush (v := 21) hx hb (xb_d D_Checker_checkStart 42 rfl) (by decide) ?_
  refine lv_aload_n hx hb (xb_d D_Checker_checkStart 43 rfl) rfl (lv_at hl 0 rfl) ?_
  refine xb_getP (C := R_Checker) (T := F_Checker) (N := 17) hx hb 4 0 hts fin_Checker hown hR hk1 (by decide) rfl (by decide) rfl (hts _ m_070795bc) (fun _ h9 => h9) (xb_d D_Checker_checkStart 44 rfl) ?_
  obtain ⟨b3, eb3, hw⟩ := hw
  refine xb_some eb3 ?_
  obtain ⟨hk4, hw⟩ := hw
  refine xb_getI (C := R_StackModule) (T := F_StackModule) (N := 19) hx hb 2 16 hts fin_StackModule hown hR hk4 (by decide) rfl (by decide) rfl (hts _ m_9ef1af18) (fun _ h9 => h9) (xb_d D_Checker_checkStart 45 rfl) ?_
  obtain ⟨hk5, hw⟩ := hw
  refine xb_call (D := D) (A := A) (σ := σ) (h := h) (d := 2) (mc := bc) (ms := bs) (maxL := 3) (rest := []) (av := [.ref b2, .int 21, .int (xb_i h b3 16)]) (fun T hT X => by obtain ⟨cb9, ra9, rb9, rc9⟩ := xb_recv (ci := 2) hR rfl hk5 (by decide); exact xt_invV X hx hown (hts _ m_1d37521a) (hts _ m_865d5b07) (hts _ m_113f8f75) (xt_sigOf (hts _ m_73e65e5f)) nm_StackModule_fail (by rw [hT]; exact ra9) rb9 rc9 (g := F0 m 102 ls [.int (xb_i h b3 16), .int 21, .ref b2]) rfl (argsL := [.int 21, .int (xb_i h b3 16)]) (rest := []) rfl rfl (by rw [hb]; exact (xb_d D_Checker_checkStart 46 rfl))) (ok_StackModule_fail l hfl D A σ b2 21 (xb_i h b3 16) h bc bs _ _ hw) (hml.trans hl.1.symm) (by rw [hb]; exact (xb_d D_Checker_checkStart 46 rfl)) (Nat.le_of_ble_eq_true rfl) (Nat.le_of_ble_eq_true rfl) (Nat.le_of_ble_eq_true rfl) (show k + bc ≤ MC by omega) (show n + bs ≤ MS by omega) (xt_w1 hB.1 m_73e65e5f) (xt_cdOf hB.1 m_73e65e5f) (hts _ m_9c375545) hB hR hS hA (fun vv h6 bc7 bs7 kk7 nn7 H locs hk7 hn7 hq hEh6 hR hS => ?_) (fun XX ax h6 bc7 bs7 kk7 nn7 H locs hk7 hn7 hq hEh6 hex hR hS => ?_)
  · obtain ⟨rfl, hw⟩ := hq
    have hw := hw hEh6
    have hE := hE.tr hEh6
    refine W.eq (g2 := F0 m 105 ls []) rfl ?_
    exact am_Checker_checkStart_L105 l hfl D A σ MC MS h0 Qr Qt h6 bc7 bs7 hw p e s m args below meth c hC H locs ls (k + kk7) (n + nn7) hE (lv_sub hl [] rfl) hR hS (by omega) (by omega)
  · exact xb_pass hlocks (fun x hx9 => by rw [htab] at hx9; first | (cases hx9; done) | (simp [tableOf] at hx9; subst hx9; decide) | (simp [tableOf] at hx9; rcases hx9 with rfl | rfl <;> decide) | (simp [tableOf] at hx9; rcases hx9 with rfl | rfl | rfl <;> decide)) (show (k + kk7) + bc7 ≤ MC by omega) (show (n + nn7) + bs7 ≤ MS by omega) (hE.tr hEh6) hR hS hex hq

set_option maxHeartbeats 4000000 in
set_option maxRecDepth 100000 in
theorem am_Checker_checkStart_L52 (l : Launch) (hfl : l.flags = pinnedFlags ++ [noTraceFlag]) (D : va_G) (A : Nat → Prop) (σ MC MS : Nat) (h0 : xb_H) (Qr : xb_H → Nat → Nat → Prop) (Qt : String → xb_H → Nat → Nat → Prop) (x0 : Nat) (h : xb_H) (bc : Nat) (bs : Nat) (hw : w_Checker_checkStart_L52 Qr Qt x0 h bc bs) : xb_am l D A σ 4 MC MS h0 (fun v h bc bs => v = none ∧ Qr h bc bs) Qt y_Checker_checkStart.cls y_Checker_checkStart.name b_Checker_checkStart 2 ([] : List ExceptionTableEntry) none 52 [(0, .ref x0)] [] h bc bs := by
  unfold w_Checker_checkStart_L52 at hw
  intro p e s m args below meth c hC H locs ls k n hE hl hR hS hk hn
  obtain ⟨hx, hb, hown, hlocks, htab, hml, hr, hB, hA, hnm⟩ := id hC
  have hts := hB.1.1.at args
  refine lv_aload_n hx hb (xb_d D_Checker_checkStart 23 rfl) rfl (lv_at hl 0 rfl) ?_
  obtain ⟨hk1, hw⟩ := hw
  refine xb_getP (C := R_Checker) (T := F_Checker) (N := 17) hx hb 4 0 hts fin_Checker hown hR hk1 (by decide) rfl (by decide) rfl (hts _ m_070795bc) (fun _ h9 => h9) (xb_d D_Checker_checkStart 24 rfl) ?_
  obtain ⟨b2, eb2, hw⟩ := hw
  refine xb_some eb2 ?_
  refine lv_aload_n hx hb (xb_d D_Checker_checkStart 25 rfl) rfl (lv_at hl 0 rfl) ?_
  refine xb_getP (C := R_Checker) (T := F_Checker) (N := 17) hx hb 4 0 hts fin_Checker hown hR hk1 (by decide) rfl (by decide) rfl (hts _ m_070795bc) (fun _ h9 => h9) (xb_d D_Checker_checkStart 26 rfl) ?_
  obtain ⟨b3, eb3, hw⟩ := hw
  refine xb_some eb3 ?_
  obtain ⟨hk4, hw⟩ := hw
  refine xb_getI (C := R_StackModule) (T := F_StackModule) (N := 19) hx hb 2 15 hts fin_StackModule hown hR hk4 (by decide) rfl (by decide) rfl (hts _ m_2687ad12) (fun _ h9 => h9) (xb_d D_Checker_checkStart 27 rfl) ?_
  obtain ⟨hk5, hw⟩ := hw
  refine xb_call0 (D := D) (A := A) (σ := σ) (h := h) (d := 3) (maxL := 2) (rest := []) (av := [.ref b2, .int (xb_i h b3 15)]) (fun T hT X => by obtain ⟨cb9, ra9, rb9, rc9⟩ := xb_recv (ci := 2) hR rfl hk5 (by decide); exact xt_invV X hx hown (hts _ m_ad67eca9) (hts _ m_eb5729e5) (hts _ m_9cf0d8be) (xt_sigOf (hts _ m_42e2443a)) nm_StackModule_typeOf (by rw [hT]; exact ra9) rb9 rc9 (g := F0 m 63 ls [.int (xb_i h b3 15), .ref b2]) rfl (argsL := [.int (xb_i h b3 15)]) (rest := []) rfl rfl (by rw [hb]; exact (xb_d D_Checker_checkStart 28 rfl))) (ok_StackModule_typeOf l hfl D A σ b2 (xb_i h b3 15) h _ hw) (hml.trans hl.1.symm) (by rw [hb]; exact (xb_d D_Checker_checkStart 28 rfl)) (Nat.le_of_ble_eq_true rfl) (Nat.le_of_ble_eq_true rfl) (Nat.le_of_ble_eq_true rfl) (show k ≤ MC by omega) (show n ≤ MS by omega) (xt_w1 hB.1 m_42e2443a) (xt_cdOf hB.1 m_42e2443a) (hts _ m_9c375545) hB hR hS hA (fun vv h6 H locs hq hEh6 hR hS => ?_)
  obtain ⟨r7, rfl, hw⟩ := hq
  have hw := hw hEh6
  have hE := hE.tr hEh6
  refine W.eq (g2 := F0 m 66 ls [.int r7]) rfl ?_
  refine lv_istore_n hx hb (xb_d D_Checker_checkStart 29 rfl) rfl hl (by decide) rfl (fun ls hl => ?_)
  have hl : lv_has ls 2 [(1, .int r7), (0, .ref x0)] := hl
  refine lv_aload_n hx hb (xb_d D_Checker_checkStart 30 rfl) rfl (lv_at hl 1 rfl) ?_
  have hk1 : xb_k h6 x0 = 5 := hEh6.k hk1
  refine xb_getP (C := R_Checker) (T := F_Checker) (N := 17) hx hb 4 0 hts fin_Checker hown hR hk1 (by decide) rfl (by decide) rfl (hts _ m_070795bc) (fun _ h9 => h9) (xb_d D_Checker_checkStart 31 rfl) ?_
  obtain ⟨b8, eb8, hw⟩ := hw
  refine xb_some eb8 ?_
  refine lv_iload_n hx hb (xb_d D_Checker_checkStart 32 rfl) rfl (lv_at hl 0 rfl) ?_
  obtain ⟨hk9, hw⟩ := hw
  refine xb_call0 (D := D) (A := A) (σ := σ) (h := h6) (d := 3) (maxL := 2) (rest := []) (av := [.ref b8, .int r7]) (fun T hT X => by obtain ⟨cb9, ra9, rb9, rc9⟩ := xb_recv (ci := 2) hR rfl hk9 (by decide); exact xt_invV X hx hown (hts _ m_fc980843) (hts _ m_aa97372f) (hts _ m_8160d9b3) (xt_sigOf (hts _ m_8621e59b)) nm_StackModule_parameters (by rw [hT]; exact ra9) rb9 rc9 (g := F0 m 72 ls [.int r7, .ref b8]) rfl (argsL := [.int r7]) (rest := []) rfl rfl (by rw [hb]; exact (xb_d D_Checker_checkStart 33 rfl))) (ok_StackModule_parameters l hfl D A σ b8 r7 h6 _ hw) (hml.trans hl.1.symm) (by rw [hb]; exact (xb_d D_Checker_checkStart 33 rfl)) (Nat.le_of_ble_eq_true rfl) (Nat.le_of_ble_eq_true rfl) (Nat.le_of_ble_eq_true rfl) (show k ≤ MC by omega) (show n ≤ MS by omega) (xt_w1 hB.1 m_8621e59b) (xt_cdOf hB.1 m_8621e59b) (hts _ m_9c375545) hB hR hS hA (fun vv h10 H locs hq hEh10 hR hS => ?_)
  obtain ⟨r11, rfl, hw⟩ := hq
  have hw := hw hEh10
  have hE := hE.tr hEh10
  refine W.eq (g2 := F0 m 75 ls [.int r11]) rfl ?_
  refine lv_if_gt (tgt := 89) hx hb (xb_d D_Checker_checkStart 34 rfl) rfl (fun hc12 => ?_) (fun hc12 => ?_)
  · have hw := hw.1 hc12
    exact am_Checker_checkStart_L89 l hfl D A σ MC MS h0 Qr Qt x0 h10 bc bs hw p e s m args below meth c hC H locs ls k n hE (lv_sub hl [1] rfl) hR hS (by omega) (by omega)
  · have hw := hw.2 hc12
    refine lv_aload_n hx hb (xb_d D_Checker_checkStart 35 rfl) rfl (lv_at hl 1 rfl) ?_
    have hk1 : xb_k h10 x0 = 5 := hEh10.k hk1
    refine xb_getP (C := R_Checker) (T := F_Checker) (N := 17) hx hb 4 0 hts fin_Checker hown hR hk1 (by decide) rfl (by decide) rfl (hts _ m_070795bc) (fun _ h9 => h9) (xb_d D_Checker_checkStart 36 rfl) ?_
    obtain ⟨b13, eb13, hw⟩ := hw
    refine xb_some eb13 ?_
    refine lv_iload_n hx hb (xb_d D_Checker_checkStart 37 rfl) rfl (lv_at hl 0 rfl) ?_
    obtain ⟨hk14, hw⟩ := hw
    refine xb_call0 (D := D) (A := A) (σ := σ) (h := h10) (d := 3) (maxL := 2) (rest := []) (av := [.ref b13, .int r7]) (fun T hT X => by obtain ⟨cb9, ra9, rb9, rc9⟩ := xb_recv (ci := 2) hR rfl hk14 (by decide); exact xt_invV X hx hown (hts _ m_2e09e00d) (hts _ m_00587e6f) (hts _ m_d605b1a5) (xt_sigOf (hts _ m_ac93cd0b)) nm_StackModule_hasResult (by rw [hT]; exact ra9) rb9 rc9 (g := F0 m 83 ls [.int r7, .ref b13]) rfl (argsL := [.int r7]) (rest := []) rfl rfl (by rw [hb]; exact (xb_d D_Checker_checkStart 38 rfl))) (ok_StackModule_hasResult l hfl D A σ b13 r7 h10 _ hw) (hml.trans hl.1.symm) (by rw [hb]; exact (xb_d D_Checker_checkStart 38 rfl)) (Nat.le_of_ble_eq_true rfl) (Nat.le_of_ble_eq_true rfl) (Nat.le_of_ble_eq_true rfl) (show k ≤ MC by omega) (show n ≤ MS by omega) (xt_w1 hB.1 m_ac93cd0b) (xt_cdOf hB.1 m_ac93cd0b) (hts _ m_9c375545) hB hR hS hA (fun vv h15 H locs hq hEh15 hR hS => ?_)
    obtain ⟨r16, rfl, hw⟩ := hq
    have hw := hw hEh15
    have hE := hE.tr hEh15
    refine W.eq (g2 := F0 m 86 ls [.int r16]) rfl ?_
    refine lv_if_eq (tgt := 105) hx hb (xb_d D_Checker_checkStart 39 rfl) rfl (fun hc17 => ?_) (fun hc17 => ?_)
    · have hw := hw.1 hc17
      exact am_Checker_checkStart_L105 l hfl D A σ MC MS h0 Qr Qt h15 bc bs hw p e s m args below meth c hC H locs ls k n hE (lv_sub hl [] rfl) hR hS (by omega) (by omega)
    · have hw := hw.2 hc17
      exact am_Checker_checkStart_L89 l hfl D A σ MC MS h0 Qr Qt x0 h15 bc bs hw p e s m args below meth c hC H locs ls k n hE (lv_sub hl [1] rfl) hR hS (by omega) (by omega)

set_option maxHeartbeats 4000000 in
set_option maxRecDepth 100000 in
theorem ok_Checker_checkStart (l : Launch) (hfl : l.flags = pinnedFlags ++ [noTraceFlag]) (D : va_G) (A : Nat → Prop) (σ : Nat) (x0 : Nat) (h : xb_H) (bc : Nat) (bs : Nat) (Qr : xb_H → Nat → Nat → Prop) (Qt : String → xb_H → Nat → Nat → Prop) (hw : w_Checker_checkStart x0 h bc bs Qr Qt) : xb_Met l y_Checker_checkStart [.code y_Checker_checkStart b_Checker_checkStart 2 none] (xb_rm 4 bc bs) (xb_Pc D A σ h [.ref x0]) (xb_Qc D A h bc bs (fun v h bc bs => v = none ∧ Qr h bc bs) Qt) A := by
  refine xb_ofAm (cc := b_Checker_checkStart) (by decide) (Nat.le_of_ble_eq_true rfl) ?_
  unfold w_Checker_checkStart at hw
  show xb_am l D A σ 4 bc bs h (fun v h bc bs => v = none ∧ Qr h bc bs) Qt y_Checker_checkStart.cls y_Checker_checkStart.name b_Checker_checkStart 2 ([] : List ExceptionTableEntry) none 0 [(0, .ref x0)] [] h bc bs
  obtain ⟨MC, hMC⟩ : ∃ x, x = bc := ⟨_, rfl⟩
  obtain ⟨MS, hMS⟩ : ∃ x, x = bs := ⟨_, rfl⟩
  rw [show xb_am l D A σ 4 bc bs = xb_am l D A σ 4 MC MS by rw [hMC, hMS]]
  obtain ⟨h0, hh0⟩ : ∃ x, x = h := ⟨_, rfl⟩
  rw [show xb_am l D A σ 4 MC MS h = xb_am l D A σ 4 MC MS h0 by rw [hh0]]
  intro p e s m args below meth c hC H locs ls k n hE hl hR hS hk hn
  obtain ⟨hx, hb, hown, hlocks, htab, hml, hr, hB, hA, hnm⟩ := id hC
  have hts := hB.1.1.at args
  refine lv_aload_n hx hb (xb_d D_Checker_checkStart 0 rfl) rfl (lv_at hl 0 rfl) ?_
  obtain ⟨hk1, hw⟩ := hw
  refine xb_getP (C := R_Checker) (T := F_Checker) (N := 17) hx hb 4 0 hts fin_Checker hown hR hk1 (by decide) rfl (by decide) rfl (hts _ m_070795bc) (fun _ h9 => h9) (xb_d D_Checker_checkStart 1 rfl) ?_
  obtain ⟨b2, eb2, hw⟩ := hw
  refine xb_some eb2 ?_
  obtain ⟨hk3, hw⟩ := hw
  refine xb_getI (C := R_StackModule) (T := F_StackModule) (N := 19) hx hb 2 16 hts fin_StackModule hown hR hk3 (by decide) rfl (by decide) rfl (hts _ m_9ef1af18) (fun _ h9 => h9) (xb_d D_Checker_checkStart 2 rfl) ?_
  refine lv_iconst (v := (-1)) hx hb (xb_d D_Checker_checkStart 3 rfl) (by decide) ?_
  refine lv_icmp_ne (tgt := 12) hx hb (xb_d D_Checker_checkStart 4 rfl) rfl (fun hc4 => ?_) (fun hc4 => ?_)
  · have hw := hw.1 hc4
    refine lv_aload_n hx hb (xb_d D_Checker_checkStart 6 rfl) rfl (lv_at hl 0 rfl) ?_
    refine xb_getP (C := R_Checker) (T := F_Checker) (N := 17) hx hb 4 0 hts fin_Checker hown hR hk1 (by decide) rfl (by decide) rfl (hts _ m_070795bc) (fun _ h9 => h9) (xb_d D_Checker_checkStart 7 rfl) ?_
    obtain ⟨b5, eb5, hw⟩ := hw
    refine xb_some eb5 ?_
    obtain ⟨hk6, hw⟩ := hw
    refine xb_getI (C := R_StackModule) (T := F_StackModule) (N := 19) hx hb 2 15 hts fin_StackModule hown hR hk6 (by decide) rfl (by decide) rfl (hts _ m_2687ad12) (fun _ h9 => h9) (xb_d D_Checker_checkStart 8 rfl) ?_
    refine lv_i2l hx hb (xb_d D_Checker_checkStart 9 rfl) rfl ?_
    refine lv_aload_n hx hb (xb_d D_Checker_checkStart 10 rfl) rfl (lv_at hl 0 rfl) ?_
    refine xb_getP (C := R_Checker) (T := F_Checker) (N := 17) hx hb 4 0 hts fin_Checker hown hR hk1 (by decide) rfl (by decide) rfl (hts _ m_070795bc) (fun _ h9 => h9) (xb_d D_Checker_checkStart 11 rfl) ?_
    obtain ⟨b7, eb7, hw⟩ := hw
    refine xb_some eb7 ?_
    obtain ⟨hk8, hw⟩ := hw
    refine xb_getP (C := R_StackModule) (T := F_StackModule) (N := 19) hx hb 2 4 hts fin_StackModule hown hR hk8 (by decide) rfl (by decide) rfl (hts _ m_74009c24) (fun _ h9 => h9) (xb_d D_Checker_checkStart 12 rfl) ?_
    obtain ⟨b9, eb9, hw⟩ := hw
    refine xb_some eb9 ?_
    obtain ⟨hk10, hw⟩ := hw
    refine xb_call0 (D := D) (A := A) (σ := σ) (h := h) (d := 2) (maxL := 1) (rest := [.long (Int32.toInt64 (xb_i h b5 15))]) (av := [.ref b9]) (fun T hT X => by obtain ⟨cb9, ra9, rb9, rc9⟩ := xb_recv (ci := 1) hR rfl hk10 (by decide); exact xt_invV X hx hown (hts _ m_c8b950b4) (hts _ m_ded65609) (hts _ m_a4161156) (xt_sigOf (hts _ m_83ba3721)) nm_Row_lines (by rw [hT]; exact ra9) rb9 rc9 (g := F0 m 27 ls [.ref b9, .long (Int32.toInt64 (xb_i h b5 15))]) rfl (argsL := []) (rest := [.long (Int32.toInt64 (xb_i h b5 15))]) rfl rfl (by rw [hb]; exact (xb_d D_Checker_checkStart 13 rfl))) (ok_Row_lines l hfl D A σ b9 h _ hw) (hml.trans hl.1.symm) (by rw [hb]; exact (xb_d D_Checker_checkStart 13 rfl)) (Nat.le_of_ble_eq_true rfl) (Nat.le_of_ble_eq_true rfl) (Nat.le_of_ble_eq_true rfl) (show k ≤ MC by omega) (show n ≤ MS by omega) (xt_w1 hB.1 m_83ba3721) (xt_cdOf hB.1 m_83ba3721) (hts _ m_c1bef504) hB hR hS hA (fun vv h11 H locs hq hEh11 hR hS => ?_)
    obtain ⟨r12, rfl, hw⟩ := hq
    have hw := hw hEh11
    have hE := hE.tr hEh11
    refine W.eq (g2 := F0 m 30 ls [.int r12, .long (Int32.toInt64 (xb_i h b5 15))]) rfl ?_
    refine xb_call0 (D := D) (A := A) (σ := σ) (h := h11) (d := 2) (maxL := 3) (rest := []) (av := [.long (Int32.toInt64 (xb_i h b5 15)), .int r12]) (fun T hT X => xt_invS X hx hown (hts _ m_fe08b245) (hts _ m_9ad1e0af) (hts _ m_44748ce5) (xt_sgS (hts _ m_2237aee6)).1 (xt_sgS (hts _ m_2237aee6)).2 nm_Checker_isThere (g := F0 m 30 ls [.int r12, .long (Int32.toInt64 (xb_i h b5 15))]) rfl (argsL := [.long (Int32.toInt64 (xb_i h b5 15)), .int r12]) (rest := []) rfl rfl (by rw [hb]; exact (xb_d D_Checker_checkStart 14 rfl))) (ok_Checker_isThere l hfl D A σ (Int32.toInt64 (xb_i h b5 15)) r12 h11 _ hw) (hml.trans hl.1.symm) (by rw [hb]; exact (xb_d D_Checker_checkStart 14 rfl)) (Nat.le_of_ble_eq_true rfl) (Nat.le_of_ble_eq_true rfl) (Nat.le_of_ble_eq_true rfl) (show k ≤ MC by omega) (show n ≤ MS by omega) (xt_w1 hB.1 m_2237aee6) (xt_cdOf hB.1 m_2237aee6) (hts _ m_44748ce5) hB hR hS hA (fun vv h13 H locs hq hEh13 hR hS => ?_)
    obtain ⟨r14, rfl, hw⟩ := hq
    have hw := hw hEh13
    have hE := hE.tr hEh13
    refine W.eq (g2 := F0 m 33 ls [.int r14]) rfl ?_
    refine lv_if_ne (tgt := 52) hx hb (xb_d D_Checker_checkStart 15 rfl) rfl (fun hc15 => ?_) (fun hc15 => ?_)
    · have hw := hw.1 hc15
      exact am_Checker_checkStart_L52 l hfl D A σ MC MS h0 Qr Qt x0 h13 bc bs hw p e s m args below meth c hC H locs ls k n hE (lv_sub hl [0] rfl) hR hS (by omega) (by omega)
    · have hw := hw.2 hc15
      refine lv_aload_n hx hb (xb_d D_Checker_checkStart 16 rfl) rfl (lv_at hl 0 rfl) ?_
      have hk1 : xb_k h11 x0 = 5 := hEh11.k hk1
      have hk1 : xb_k h13 x0 = 5 := hEh13.k hk1
      refine xb_getP (C := R_Checker) (T := F_Checker) (N := 17) hx hb 4 0 hts fin_Checker hown hR hk1 (by decide) rfl (by decide) rfl (hts _ m_070795bc) (fun _ h9 => h9) (xb_d D_Checker_checkStart 17 rfl) ?_
      obtain ⟨b16, eb16, hw⟩ := hw
      refine xb_some eb16 ?_
      refine lv_bipush (v := 20) hx hb (xb_d D_Checker_checkStart 18 rfl) (by decide) ?_
      refine lv_aload_n hx hb (xb_d D_Checker_checkStart 19 rfl) rfl (lv_at hl 0 rfl) ?_
      refine xb_getP (C := R_Checker) (T := F_Checker) (N := 17) hx hb 4 0 hts fin_Checker hown hR hk1 (by decide) rfl (by decide) rfl (hts _ m_070795bc) (fun _ h9 => h9) (xb_d D_Checker_checkStart 20 rfl) ?_
      obtain ⟨b17, eb17, hw⟩ := hw
      refine xb_some eb17 ?_
      obtain ⟨hk18, hw⟩ := hw
      refine xb_getI (C := R_StackModule) (T := F_StackModule) (N := 19) hx hb 2 16 hts fin_StackModule hown hR hk18 (by decide) rfl (by decide) rfl (hts _ m_9ef1af18) (fun _ h9 => h9) (xb_d D_Checker_checkStart 21 rfl) ?_
      obtain ⟨hk19, hw⟩ := hw
      refine xb_call (D := D) (A := A) (σ := σ) (h := h13) (d := 2) (mc := bc) (ms := bs) (maxL := 3) (rest := []) (av := [.ref b16, .int 20, .int (xb_i h13 b17 16)]) (fun T hT X => by obtain ⟨cb9, ra9, rb9, rc9⟩ := xb_recv (ci := 2) hR rfl hk19 (by decide); exact xt_invV X hx hown (hts _ m_1d37521a) (hts _ m_865d5b07) (hts _ m_113f8f75) (xt_sigOf (hts _ m_73e65e5f)) nm_StackModule_fail (by rw [hT]; exact ra9) rb9 rc9 (g := F0 m 49 ls [.int (xb_i h13 b17 16), .int 20, .ref b16]) rfl (argsL := [.int 20, .int (xb_i h13 b17 16)]) (rest := []) rfl rfl (by rw [hb]; exact (xb_d D_Checker_checkStart 22 rfl))) (ok_StackModule_fail l hfl D A σ b16 20 (xb_i h13 b17 16) h13 bc bs _ _ hw) (hml.trans hl.1.symm) (by rw [hb]; exact (xb_d D_Checker_checkStart 22 rfl)) (Nat.le_of_ble_eq_true rfl) (Nat.le_of_ble_eq_true rfl) (Nat.le_of_ble_eq_true rfl) (show k + bc ≤ MC by omega) (show n + bs ≤ MS by omega) (xt_w1 hB.1 m_73e65e5f) (xt_cdOf hB.1 m_73e65e5f) (hts _ m_9c375545) hB hR hS hA (fun vv h20 bc21 bs21 kk21 nn21 H locs hk21 hn21 hq hEh20 hR hS => ?_) (fun XX ax h20 bc21 bs21 kk21 nn21 H locs hk21 hn21 hq hEh20 hex hR hS => ?_)
      · obtain ⟨rfl, hw⟩ := hq
        have hw := hw hEh20
        have hE := hE.tr hEh20
        refine W.eq (g2 := F0 m 52 ls []) rfl ?_
        exact am_Checker_checkStart_L52 l hfl D A σ MC MS h0 Qr Qt x0 h20 bc21 bs21 hw p e s m args below meth c hC H locs ls (k + kk21) (n + nn21) hE (lv_sub hl [0] rfl) hR hS (by omega) (by omega)
      · exact xb_pass hlocks (fun x hx9 => by rw [htab] at hx9; first | (cases hx9; done) | (simp [tableOf] at hx9; subst hx9; decide) | (simp [tableOf] at hx9; rcases hx9 with rfl | rfl <;> decide) | (simp [tableOf] at hx9; rcases hx9 with rfl | rfl | rfl <;> decide)) (show (k + kk21) + bc21 ≤ MC by omega) (show (n + nn21) + bs21 ≤ MS by omega) (hE.tr hEh20) hR hS hex hq
  · have hw := hw.2 hc4
    exact xb_vret bc bs hx hb hr hlocks (show k + bc ≤ MC by omega) (show n + bs ≤ MS by omega) hE hR hS (xb_d D_Checker_checkStart 5 rfl) hw

theorem m_5c3b2b0d : (.fieldLink "StackHost$Checker" 73 "StackHost$StackModule" "bodies" "LStackHost$Row;" : Cond) ∈ xt_tbl := xt_in (xt_t3 (List.mem_of_getElem? (i := 100) (by decide +kernel))) (by decide +kernel)
theorem m_6fd30476 : (.fieldLink "StackHost$Checker" 219 "StackHost$StackModule" "groups" "LStackHost$Row;" : Cond) ∈ xt_tbl := xt_in (xt_t3 (List.mem_of_getElem? (i := 105) (by decide +kernel))) (by decide +kernel)
theorem m_d762f6df : (.methodLink "StackHost$Checker" 222 y_Arrays_fill0 : Cond) ∈ xt_tbl := xt_in (xt_t4 (List.mem_of_getElem? (i := 187) (by decide +kernel))) (by decide +kernel)
theorem m_ae8a69e4 : (.static y_Arrays_fill0 : Cond) ∈ xt_tbl := xt_in (xt_t4 (List.mem_of_getElem? (i := 188) (by decide +kernel))) (by decide +kernel)
theorem m_10c24e3c : (.code y_Arrays_fill0 b_Arrays_fill0 5 none : Cond) ∈ xt_tbl := xt_in (xt_t4 (List.mem_of_getElem? (i := 189) (by decide +kernel))) (by decide +kernel)
theorem nm_Arrays_fill0 : xt_nm y_Arrays_fill0 4 := ⟨by decide +kernel, by decide +kernel⟩
set_option maxRecDepth 100000 in
def T_Checker_spreadLocals : List (Nat × Instr × Nat) := [(0, .aload_n 0, 1), (1, .iconst 0, 1), (2, .putfield 216, 3), (5, .aload_n 0, 1), (6, .getfield 38, 3), (9, .getfield 73, 3), (12, .iload_n 1, 1), (13, .iconst 2, 1), (14, .invokevirtual 90, 3), (17, .istore_n 2, 1), (18, .iconst 0, 1), (19, .istore_n 3, 1), (20, .iload_n 3, 1), (21, .aload_n 0, 1), (22, .getfield 38, 3), (25, .getfield 73, 3), (28, .iload_n 1, 1), (29, .iconst 3, 1), (30, .invokevirtual 90, 3), (33, .if_icmp .ge 69, 3), (36, .aload_n 0, 1), (37, .getfield 38, 3), (40, .getfield 219, 3), (43, .iload_n 2, 1), (44, .iload_n 3, 1), (45, .iadd, 1), (46, .iconst 0, 1), (47, .invokevirtual 90, 3), (50, .istore 4, 2), (52, .aload_n 0, 1), (53, .getfield 15, 3), (56, .aload_n 0, 1), (57, .getfield 216, 3), (60, .aload_n 0, 1), (61, .getfield 216, 3), (64, .iload 4, 2), (66, .iadd, 1), (67, .aload_n 0, 1), (68, .getfield 38, 3), (71, .getfield 219, 3), (74, .iload_n 2, 1), (75, .iload_n 3, 1), (76, .iadd, 1), (77, .iconst 1, 1), (78, .invokevirtual 90, 3), (81, .i2b, 1), (82, .invokestatic 222, 3), (85, .aload_n 0, 1), (86, .dup, 1), (87, .getfield 216, 3), (90, .iload 4, 2), (92, .iadd, 1), (93, .putfield 216, 3), (96, .iinc 3 1, 3), (99, .goto (-79), 3), (102, .return_, 1)]
theorem D_Checker_spreadLocals : ∀ q ∈ T_Checker_spreadLocals, decode b_Checker_spreadLocals q.1 = .ok (q.2.1, q.2.2) := by decide +kernel

set_option maxHeartbeats 4000000 in
set_option maxRecDepth 100000 in
theorem am_Checker_spreadLocals_L20 (l : Launch) (hfl : l.flags = pinnedFlags ++ [noTraceFlag]) (D : va_G) (A : Nat → Prop) (σ MC MS : Nat) (h0 : xb_H) (Qr : xb_H → Prop) (n9 : Nat) : ∀ (x0 : Nat) (x1 : Int32) (x2 : Int32) (x3 : Int32) (h : xb_H), w_Checker_spreadLocals_L20 Qr n9 x0 x1 x2 x3 h → xb_am l D A σ 4 MC MS h0 (fun v h _ _ => v = none ∧ Qr h) (fun _ _ _ _ => False) y_Checker_spreadLocals.cls y_Checker_spreadLocals.name b_Checker_spreadLocals 5 ([] : List ExceptionTableEntry) none 20 [(0, .ref x0), (1, .int x1), (2, .int x2), (3, .int x3)] [] h 0 0 := by
  induction n9 with
  | zero => intro x0 x1 x2 x3 h hw; exact False.elim hw
  | succ n9 ih =>
    intro x0 x1 x2 x3 h hw
    unfold w_Checker_spreadLocals_L20 at hw
    intro p e s m args below meth c hC H locs ls k n hE hl hR hS hk hn
    obtain ⟨hx, hb, hown, hlocks, htab, hml, hr, hB, hA, hnm⟩ := id hC
    have hts := hB.1.1.at args
    refine lv_iload_n hx hb (xb_d D_Checker_spreadLocals 12 rfl) rfl (lv_at hl 3 rfl) ?_
    refine lv_aload_n hx hb (xb_d D_Checker_spreadLocals 13 rfl) rfl (lv_at hl 0 rfl) ?_
    obtain ⟨hk1, hw⟩ := hw
    refine xb_getP (C := R_Checker) (T := F_Checker) (N := 17) hx hb 4 0 hts fin_Checker hown hR hk1 (by decide) rfl (by decide) rfl (hts _ m_070795bc) (fun _ h9 => h9) (xb_d D_Checker_spreadLocals 14 rfl) ?_
    obtain ⟨b2, eb2, hw⟩ := hw
    refine xb_some eb2 ?_
    obtain ⟨hk3, hw⟩ := hw
    refine xb_getP (C := R_StackModule) (T := F_StackModule) (N := 19) hx hb 2 11 hts fin_StackModule hown hR hk3 (by decide) rfl (by decide) rfl (hts _ m_5c3b2b0d) (fun _ h9 => h9) (xb_d D_Checker_spreadLocals 15 rfl) ?_
    obtain ⟨b4, eb4, hw⟩ := hw
    refine xb_some eb4 ?_
    refine lv_iload_n hx hb (xb_d D_Checker_spreadLocals 16 rfl) rfl (lv_at hl 1 rfl) ?_
    refine lv_iconst (v := 3) hx hb (xb_d D_Checker_spreadLocals 17 rfl) (by decide) ?_
    obtain ⟨hk5, hw⟩ := hw
    refine xb_call0 (D := D) (A := A) (σ := σ) (h := h) (d := 2) (maxL := 3) (rest := [.int x3]) (av := [.ref b4, .int x1, .int 3]) (fun T hT X => by obtain ⟨cb9, ra9, rb9, rc9⟩ := xb_recv (ci := 1) hR rfl hk5 (by decide); exact xt_invV X hx hown (hts _ m_068feb96) (hts _ m_8e233096) (hts _ m_27eed10c) (xt_sigOf (hts _ m_ff1c70ae)) nm_Row_at (by rw [hT]; exact ra9) rb9 rc9 (g := F0 m 30 ls [.int 3, .int x1, .ref b4, .int x3]) rfl (argsL := [.int x1, .int 3]) (rest := [.int x3]) rfl rfl (by rw [hb]; exact (xb_d D_Checker_spreadLocals 18 rfl))) (ok_Row_at l hfl D A σ b4 x1 3 h _ hw) (hml.trans hl.1.symm) (by rw [hb]; exact (xb_d D_Checker_spreadLocals 18 rfl)) (Nat.le_of_ble_eq_true rfl) (Nat.le_of_ble_eq_true rfl) (Nat.le_of_ble_eq_true rfl) (show k ≤ MC by omega) (show n ≤ MS by omega) (xt_w1 hB.1 m_ff1c70ae) (xt_cdOf hB.1 m_ff1c70ae) (hts _ m_c1bef504) hB hR hS hA (fun vv h6 H locs hq hEh6 hR hS => ?_)
    obtain ⟨r7, rfl, hw⟩ := hq
    have hw := hw hEh6
    have hE := hE.tr hEh6
    refine W.eq (g2 := F0 m 33 ls [.int r7, .int x3]) rfl ?_
    refine lv_icmp_ge (tgt := 102) hx hb (xb_d D_Checker_spreadLocals 19 rfl) rfl (fun hc8 => ?_) (fun hc8 => ?_)
    · have hw := hw.1 hc8
      exact xb_vret 0 0 hx hb hr hlocks (show k + 0 ≤ MC by omega) (show n + 0 ≤ MS by omega) hE hR hS (xb_d D_Checker_spreadLocals 55 rfl) hw
    · have hw := hw.2 hc8
      refine lv_aload_n hx hb (xb_d D_Checker_spreadLocals 20 rfl) rfl (lv_at hl 0 rfl) ?_
      have hk1 : xb_k h6 x0 = 5 := hEh6.k hk1
      refine xb_getP (C := R_Checker) (T := F_Checker) (N := 17) hx hb 4 0 hts fin_Checker hown hR hk1 (by decide) rfl (by decide) rfl (hts _ m_070795bc) (fun _ h9 => h9) (xb_d D_Checker_spreadLocals 21 rfl) ?_
      obtain ⟨b9, eb9, hw⟩ := hw
      refine xb_some eb9 ?_
      obtain ⟨hk10, hw⟩ := hw
      refine xb_getP (C := R_StackModule) (T := F_StackModule) (N := 19) hx hb 2 12 hts fin_StackModule hown hR hk10 (by decide) rfl (by decide) rfl (hts _ m_6fd30476) (fun _ h9 => h9) (xb_d D_Checker_spreadLocals 22 rfl) ?_
      obtain ⟨b11, eb11, hw⟩ := hw
      refine xb_some eb11 ?_
      refine lv_iload_n hx hb (xb_d D_Checker_spreadLocals 23 rfl) rfl (lv_at hl 2 rfl) ?_
      refine lv_iload_n hx hb (xb_d D_Checker_spreadLocals 24 rfl) rfl (lv_at hl 3 rfl) ?_
      refine lv_iadd hx hb (xb_d D_Checker_spreadLocals 25 rfl) ?_
      refine lv_iconst (v := 0) hx hb (xb_d D_Checker_spreadLocals 26 rfl) (by decide) ?_
      obtain ⟨hk12, hw⟩ := hw
      refine xb_call0 (D := D) (A := A) (σ := σ) (h := h6) (d := 2) (maxL := 3) (rest := []) (av := [.ref b11, .int (x2 + x3), .int 0]) (fun T hT X => by obtain ⟨cb9, ra9, rb9, rc9⟩ := xb_recv (ci := 1) hR rfl hk12 (by decide); exact xt_invV X hx hown (hts _ m_068feb96) (hts _ m_8e233096) (hts _ m_27eed10c) (xt_sigOf (hts _ m_ff1c70ae)) nm_Row_at (by rw [hT]; exact ra9) rb9 rc9 (g := F0 m 47 ls [.int 0, .int (x2 + x3), .ref b11]) rfl (argsL := [.int (x2 + x3), .int 0]) (rest := []) rfl rfl (by rw [hb]; exact (xb_d D_Checker_spreadLocals 27 rfl))) (ok_Row_at l hfl D A σ b11 (x2 + x3) 0 h6 _ hw) (hml.trans hl.1.symm) (by rw [hb]; exact (xb_d D_Checker_spreadLocals 27 rfl)) (Nat.le_of_ble_eq_true rfl) (Nat.le_of_ble_eq_true rfl) (Nat.le_of_ble_eq_true rfl) (show k ≤ MC by omega) (show n ≤ MS by omega) (xt_w1 hB.1 m_ff1c70ae) (xt_cdOf hB.1 m_ff1c70ae) (hts _ m_c1bef504) hB hR hS hA (fun vv h13 H locs hq hEh13 hR hS => ?_)
      obtain ⟨r14, rfl, hw⟩ := hq
      have hw := hw hEh13
      have hE := hE.tr hEh13
      refine W.eq (g2 := F0 m 50 ls [.int r14]) rfl ?_
      refine lv_istore hx hb (xb_d D_Checker_spreadLocals 28 rfl) hl (by decide) rfl (fun ls hl => ?_)
      have hl : lv_has ls 5 [(4, .int r14), (0, .ref x0), (1, .int x1), (2, .int x2), (3, .int x3)] := hl
      refine lv_aload_n hx hb (xb_d D_Checker_spreadLocals 29 rfl) rfl (lv_at hl 1 rfl) ?_
      have hk1 : xb_k h13 x0 = 5 := hEh13.k hk1
      refine xb_getP (C := R_Checker) (T := F_Checker) (N := 17) hx hb 4 6 hts fin_Checker hown hR hk1 (by decide) rfl (by decide) rfl (hts _ m_c12a5435) (fun _ h9 => h9) (xb_d D_Checker_spreadLocals 30 rfl) ?_
      obtain ⟨b15, eb15, hw⟩ := hw
      refine xb_some eb15 ?_
      refine lv_aload_n hx hb (xb_d D_Checker_spreadLocals 31 rfl) rfl (lv_at hl 1 rfl) ?_
      refine xb_getI (C := R_Checker) (T := F_Checker) (N := 17) hx hb 4 7 hts fin_Checker hown hR hk1 (by decide) rfl (by decide) rfl (hts _ m_708ae6ef) (fun _ h9 => h9) (xb_d D_Checker_spreadLocals 32 rfl) ?_
      refine lv_aload_n hx hb (xb_d D_Checker_spreadLocals 33 rfl) rfl (lv_at hl 1 rfl) ?_
      refine xb_getI (C := R_Checker) (T := F_Checker) (N := 17) hx hb 4 7 hts fin_Checker hown hR hk1 (by decide) rfl (by decide) rfl (hts _ m_708ae6ef) (fun _ h9 => h9) (xb_d D_Checker_spreadLocals 34 rfl) ?_
      refine lv_iload hx hb (xb_d D_Checker_spreadLocals 35 rfl) (lv_at hl 0 rfl) ?_
      refine lv_iadd hx hb (xb_d D_Checker_spreadLocals 36 rfl) ?_
      refine lv_aload_n hx hb (xb_d D_Checker_spreadLocals 37 rfl) rfl (lv_at hl 1 rfl) ?_
      refine xb_getP (C := R_Checker) (T := F_Checker) (N := 17) hx hb 4 0 hts fin_Checker hown hR hk1 (by decide) rfl (by decide) rfl (hts _ m_070795bc) (fun _ h9 => h9) (xb_d D_Checker_spreadLocals 38 rfl) ?_
      obtain ⟨b16, eb16, hw⟩ := hw
      refine xb_some eb16 ?_
      obtain ⟨hk17, hw⟩ := hw
      refine xb_getP (C := R_StackModule) (T := F_StackModule) (N := 19) hx hb 2 12 hts fin_StackModule hown hR hk17 (by decide) rfl (by decide) rfl (hts _ m_6fd30476) (fun _ h9 => h9) (xb_d D_Checker_spreadLocals 39 rfl) ?_
      obtain ⟨b18, eb18, hw⟩ := hw
      refine xb_some eb18 ?_
      refine lv_iload_n hx hb (xb_d D_Checker_spreadLocals 40 rfl) rfl (lv_at hl 3 rfl) ?_
      refine lv_iload_n hx hb (xb_d D_Checker_spreadLocals 41 rfl) rfl (lv_at hl 4 rfl) ?_
      refine lv_iadd hx hb (xb_d D_Checker_spreadLocals 42 rfl) ?_
      refine lv_iconst (v := 1) hx hb (xb_d D_Checker_spreadLocals 43 rfl) (by decide) ?_
      obtain ⟨hk19, hw⟩ := hw
      refine xb_call0 (D := D) (A := A) (σ := σ) (h := h13) (d := 2) (maxL := 3) (rest := [.int ((xb_i h13 x0 7) + r14), .int (xb_i h13 x0 7), .ref b15]) (av := [.ref b18, .int (x2 + x3), .int 1]) (fun T hT X => by obtain ⟨cb9, ra9, rb9, rc9⟩ := xb_recv (ci := 1) hR rfl hk19 (by decide); exact xt_invV X hx hown (hts _ m_068feb96) (hts _ m_8e233096) (hts _ m_27eed10c) (xt_sigOf (hts _ m_ff1c70ae)) nm_Row_at (by rw [hT]; exact ra9) rb9 rc9 (g := F0 m 78 ls [.int 1, .int (x2 + x3), .ref b18, .int ((xb_i h13 x0 7) + r14), .int (xb_i h13 x0 7), .ref b15]) rfl (argsL := [.int (x2 + x3), .int 1]) (rest := [.int ((xb_i h13 x0 7) + r14), .int (xb_i h13 x0 7), .ref b15]) rfl rfl (by rw [hb]; exact (xb_d D_Checker_spreadLocals 44 rfl))) (ok_Row_at l hfl D A σ b18 (x2 + x3) 1 h13 _ hw) (hml.trans hl.1.symm) (by rw [hb]; exact (xb_d D_Checker_spreadLocals 44 rfl)) (Nat.le_of_ble_eq_true rfl) (Nat.le_of_ble_eq_true rfl) (Nat.le_of_ble_eq_true rfl) (show k ≤ MC by omega) (show n ≤ MS by omega) (xt_w1 hB.1 m_ff1c70ae) (xt_cdOf hB.1 m_ff1c70ae) (hts _ m_c1bef504) hB hR hS hA (fun vv h20 H locs hq hEh20 hR hS => ?_)
      obtain ⟨r21, rfl, hw⟩ := hq
      have hw := hw hEh20
      have hE := hE.tr hEh20
      refine W.eq (g2 := F0 m 81 ls [.int r21, .int ((xb_i h13 x0 7) + r14), .int (xb_i h13 x0 7), .ref b15]) rfl ?_
      refine lv_i2b hx hb (xb_d D_Checker_spreadLocals 45 rfl) rfl ?_
      refine xb_call0 (D := D) (A := A) (σ := σ) (h := h20) (d := 3) (maxL := 5) (rest := []) (av := [.ref b15, .int (xb_i h13 x0 7), .int ((xb_i h13 x0 7) + r14), .int ((Int32.toInt8 r21).toInt32)]) (fun T hT X => xt_invS X hx hown (hts _ m_d762f6df) (hts _ m_ae8a69e4) (hts _ m_b999e92a) (xt_sgS (hts _ m_10c24e3c)).1 (xt_sgS (hts _ m_10c24e3c)).2 nm_Arrays_fill0 (g := F0 m 82 ls [.int ((Int32.toInt8 r21).toInt32), .int ((xb_i h13 x0 7) + r14), .int (xb_i h13 x0 7), .ref b15]) rfl (argsL := [.ref b15, .int (xb_i h13 x0 7), .int ((xb_i h13 x0 7) + r14), .int ((Int32.toInt8 r21).toInt32)]) (rest := []) rfl rfl (by rw [hb]; exact (xb_d D_Checker_spreadLocals 46 rfl))) (ok_Arrays_fill0 l hfl D A σ b15 (xb_i h13 x0 7) ((xb_i h13 x0 7) + r14) ((Int32.toInt8 r21).toInt32) h20 _ hw) (hml.trans hl.1.symm) (by rw [hb]; exact (xb_d D_Checker_spreadLocals 46 rfl)) (Nat.le_of_ble_eq_true rfl) (Nat.le_of_ble_eq_true rfl) (Nat.le_of_ble_eq_true rfl) (show k ≤ MC by omega) (show n ≤ MS by omega) (xt_w1 hB.1 m_10c24e3c) (xt_cdOf hB.1 m_10c24e3c) (hts _ m_b999e92a) hB hR hS hA (fun vv h22 H locs hq hEh22 hR hS => ?_)
      obtain ⟨rfl, hw⟩ := hq
      have hw := hw hEh22
      have hE := hE.tr hEh22
      refine W.eq (g2 := F0 m 85 ls []) rfl ?_
      refine lv_aload_n hx hb (xb_d D_Checker_spreadLocals 47 rfl) rfl (lv_at hl 1 rfl) ?_
      refine lv_dup hx hb (xb_d D_Checker_spreadLocals 48 rfl) rfl ?_
      have hk1 : xb_k h20 x0 = 5 := hEh20.k hk1
      have hk1 : xb_k h22 x0 = 5 := hEh22.k hk1
      refine xb_getI (C := R_Checker) (T := F_Checker) (N := 17) hx hb 4 7 hts fin_Checker hown hR hk1 (by decide) rfl (by decide) rfl (hts _ m_708ae6ef) (fun _ h9 => h9) (xb_d D_Checker_spreadLocals 49 rfl) ?_
      refine lv_iload hx hb (xb_d D_Checker_spreadLocals 50 rfl) (lv_at hl 0 rfl) ?_
      refine lv_iadd hx hb (xb_d D_Checker_spreadLocals 51 rfl) ?_
      refine xb_putI (C := R_Checker) (T := F_Checker) (N := 17) (ty := .int) (x := ((xb_i h22 x0 7) + r14)) hx hb 4 7 hts fin_Checker t_Checker t_Checker_ok n_Checker hown hR hS hk1 (by decide) rfl (by decide) rfl (hts _ m_708ae6ef) (fun _ h9 => h9) rfl (by decide +kernel) rfl rfl (xb_d D_Checker_spreadLocals 52 rfl) (fun H locs hR hS => ?_)
      obtain ⟨h24, eh24⟩ : ∃ x : xb_H, x = xb_I h22 x0 7 ((xb_i h22 x0 7) + r14) := ⟨_, rfl⟩
      rw [← eh24] at hR
      have hw := hw h24 eh24
      have hE : xb_ext h0 h24 := by rw [eh24]; exact hE
      refine lv_iinc (v := (x3 + 1)) (k := 4) hx hb (xb_d D_Checker_spreadLocals 53 rfl) hl rfl (by first | rfl | decide) (by decide) rfl (fun ls hl => ?_)
      have hl : lv_has ls 5 [(3, .int (x3 + 1)), (4, .int r14), (0, .ref x0), (1, .int x1), (2, .int x2)] := hl
      refine lv_goto (tgt := 20) hx hb (xb_d D_Checker_spreadLocals 54 rfl) rfl ?_
      exact ih x0 x1 x2 (x3 + 1) h24 hw p e s m args below meth c hC H locs ls k n hE (lv_sub hl [2, 3, 4, 0] rfl) hR hS (by omega) (by omega)

set_option maxHeartbeats 4000000 in
set_option maxRecDepth 100000 in
theorem ok_Checker_spreadLocals (l : Launch) (hfl : l.flags = pinnedFlags ++ [noTraceFlag]) (D : va_G) (A : Nat → Prop) (σ : Nat) (x0 : Nat) (x1 : Int32) (h : xb_H) (Qr : xb_H → Prop) (hw : w_Checker_spreadLocals x0 x1 h Qr) : xb_Met l y_Checker_spreadLocals [.code y_Checker_spreadLocals b_Checker_spreadLocals 5 none] (xb_rm 4 0 0) (xb_Pc D A σ h [.ref x0, .int x1]) (xb_Qc D A h 0 0 (fun v h _ _ => v = none ∧ Qr h) (fun _ _ _ _ => False)) A := by
  refine xb_ofAm (cc := b_Checker_spreadLocals) (by decide) (Nat.le_of_ble_eq_true rfl) ?_
  unfold w_Checker_spreadLocals at hw
  show xb_am l D A σ 4 0 0 h (fun v h _ _ => v = none ∧ Qr h) (fun _ _ _ _ => False) y_Checker_spreadLocals.cls y_Checker_spreadLocals.name b_Checker_spreadLocals 5 ([] : List ExceptionTableEntry) none 0 [(0, .ref x0), (1, .int x1)] [] h 0 0
  obtain ⟨MC, hMC⟩ : ∃ x, x = 0 := ⟨_, rfl⟩
  obtain ⟨MS, hMS⟩ : ∃ x, x = 0 := ⟨_, rfl⟩
  rw [show xb_am l D A σ 4 0 0 = xb_am l D A σ 4 MC MS by rw [hMC, hMS]]
  obtain ⟨h0, hh0⟩ : ∃ x, x = h := ⟨_, rfl⟩
  rw [show xb_am l D A σ 4 MC MS h = xb_am l D A σ 4 MC MS h0 by rw [hh0]]
  intro p e s m args below meth c hC H locs ls k n hE hl hR hS hk hn
  obtain ⟨hx, hb, hown, hlocks, htab, hml, hr, hB, hA, hnm⟩ := id hC
  have hts := hB.1.1.at args
  refine lv_aload_n hx hb (xb_d D_Checker_spreadLocals 0 rfl) rfl (lv_at hl 0 rfl) ?_
  refine lv_iconst (v := 0) hx hb (xb_d D_Checker_spreadLocals 1 rfl) (by decide) ?_
  obtain ⟨hk1, hw⟩ := hw
  refine xb_putI (C := R_Checker) (T := F_Checker) (N := 17) (ty := .int) (x := 0) hx hb 4 7 hts fin_Checker t_Checker t_Checker_ok n_Checker hown hR hS hk1 (by decide) rfl (by decide) rfl (hts _ m_708ae6ef) (fun _ h9 => h9) rfl (by decide +kernel) rfl rfl (xb_d D_Checker_spreadLocals 2 rfl) (fun H locs hR hS => ?_)
  obtain ⟨h2, eh2⟩ : ∃ x : xb_H, x = xb_I h x0 7 0 := ⟨_, rfl⟩
  rw [← eh2] at hR
  have hw := hw h2 eh2
  have hE : xb_ext h0 h2 := by rw [eh2]; exact hE
  refine lv_aload_n hx hb (xb_d D_Checker_spreadLocals 3 rfl) rfl (lv_at hl 0 rfl) ?_
  have hk1 : xb_k h2 x0 = 5 := by rw [eh2]; exact hk1
  refine xb_getP (C := R_Checker) (T := F_Checker) (N := 17) hx hb 4 0 hts fin_Checker hown hR hk1 (by decide) rfl (by decide) rfl (hts _ m_070795bc) (fun _ h9 => h9) (xb_d D_Checker_spreadLocals 4 rfl) ?_
  obtain ⟨b3, eb3, hw⟩ := hw
  refine xb_some eb3 ?_
  obtain ⟨hk4, hw⟩ := hw
  refine xb_getP (C := R_StackModule) (T := F_StackModule) (N := 19) hx hb 2 11 hts fin_StackModule hown hR hk4 (by decide) rfl (by decide) rfl (hts _ m_5c3b2b0d) (fun _ h9 => h9) (xb_d D_Checker_spreadLocals 5 rfl) ?_
  obtain ⟨b5, eb5, hw⟩ := hw
  refine xb_some eb5 ?_
  refine lv_iload_n hx hb (xb_d D_Checker_spreadLocals 6 rfl) rfl (lv_at hl 1 rfl) ?_
  refine lv_iconst (v := 2) hx hb (xb_d D_Checker_spreadLocals 7 rfl) (by decide) ?_
  obtain ⟨hk6, hw⟩ := hw
  refine xb_call0 (D := D) (A := A) (σ := σ) (h := h2) (d := 2) (maxL := 3) (rest := []) (av := [.ref b5, .int x1, .int 2]) (fun T hT X => by obtain ⟨cb9, ra9, rb9, rc9⟩ := xb_recv (ci := 1) hR rfl hk6 (by decide); exact xt_invV X hx hown (hts _ m_068feb96) (hts _ m_8e233096) (hts _ m_27eed10c) (xt_sigOf (hts _ m_ff1c70ae)) nm_Row_at (by rw [hT]; exact ra9) rb9 rc9 (g := F0 m 14 ls [.int 2, .int x1, .ref b5]) rfl (argsL := [.int x1, .int 2]) (rest := []) rfl rfl (by rw [hb]; exact (xb_d D_Checker_spreadLocals 8 rfl))) (ok_Row_at l hfl D A σ b5 x1 2 h2 _ hw) (hml.trans hl.1.symm) (by rw [hb]; exact (xb_d D_Checker_spreadLocals 8 rfl)) (Nat.le_of_ble_eq_true rfl) (Nat.le_of_ble_eq_true rfl) (Nat.le_of_ble_eq_true rfl) (show k ≤ MC by omega) (show n ≤ MS by omega) (xt_w1 hB.1 m_ff1c70ae) (xt_cdOf hB.1 m_ff1c70ae) (hts _ m_c1bef504) hB hR hS hA (fun vv h7 H locs hq hEh7 hR hS => ?_)
  obtain ⟨r8, rfl, hw⟩ := hq
  have hw := hw hEh7
  have hE := hE.tr hEh7
  refine W.eq (g2 := F0 m 17 ls [.int r8]) rfl ?_
  refine lv_istore_n hx hb (xb_d D_Checker_spreadLocals 9 rfl) rfl hl (by decide) rfl (fun ls hl => ?_)
  have hl : lv_has ls 5 [(2, .int r8), (0, .ref x0), (1, .int x1)] := hl
  refine lv_iconst (v := 0) hx hb (xb_d D_Checker_spreadLocals 10 rfl) (by decide) ?_
  refine lv_istore_n hx hb (xb_d D_Checker_spreadLocals 11 rfl) rfl hl (by decide) rfl (fun ls hl => ?_)
  have hl : lv_has ls 5 [(3, .int 0), (2, .int r8), (0, .ref x0), (1, .int x1)] := hl
  obtain ⟨n8, hw⟩ := hw
  exact am_Checker_spreadLocals_L20 l hfl D A σ MC MS h0 Qr n8 x0 x1 r8 0 h7 hw p e s m args below meth c hC H locs ls k n hE (lv_sub hl [2, 3, 1, 0] rfl) hR hS (by omega) (by omega)

theorem m_a5ad9417 : (.methodLink "StackHost$Format" 46 y_Format_ordered : Cond) ∈ xt_tbl := xt_in (xt_t8 (List.mem_of_getElem? (i := 136) (by decide +kernel))) (by decide +kernel)
theorem m_98331b4c : (.instanceMethod y_Format_ordered : Cond) ∈ xt_tbl := xt_in (xt_t8 (List.mem_of_getElem? (i := 138) (by decide +kernel))) (by decide +kernel)
theorem m_04c4d5ab : (.selects "StackHost$Format" y_Format_ordered y_Format_ordered : Cond) ∈ xt_tbl := xt_in (xt_v8 (q := (⟨"StackHost$Format", "ordered", "(J)J"⟩, 5)) (List.mem_of_getElem? (i := 2) (by decide +kernel))) (by decide +kernel)
theorem m_97b0f5b8 : (.code y_Format_ordered b_Format_ordered 3 (some .long) : Cond) ∈ xt_tbl := xt_in (xt_t8 (List.mem_of_getElem? (i := 139) (by decide +kernel))) (by decide +kernel)
theorem nm_Format_ordered : xt_nm y_Format_ordered 1 := ⟨by decide +kernel, by decide +kernel⟩
set_option maxRecDepth 100000 in
def T_Format_greater : List (Nat × Instr × Nat) := [(0, .aload_n 0, 1), (1, .lload_n 1, 1), (2, .invokevirtual 46, 3), (5, .aload_n 0, 1), (6, .lload_n 3, 1), (7, .invokevirtual 46, 3), (10, .lcmp, 1), (11, .ifCond .ne 7, 3), (14, .lload_n 1, 1), (15, .lload_n 3, 1), (16, .land, 1), (17, .lreturn, 1), (18, .aload_n 0, 1), (19, .lload_n 1, 1), (20, .invokevirtual 46, 3), (23, .aload_n 0, 1), (24, .lload_n 3, 1), (25, .invokevirtual 46, 3), (28, .lcmp, 1), (29, .ifCond .le 7, 3), (32, .lload_n 1, 1), (33, .goto 4, 3), (36, .lload_n 3, 1), (37, .lreturn, 1)]
theorem D_Format_greater : ∀ q ∈ T_Format_greater, decode b_Format_greater q.1 = .ok (q.2.1, q.2.2) := by decide +kernel

set_option maxHeartbeats 4000000 in
set_option maxRecDepth 100000 in
theorem am_Format_greater_L37 (l : Launch) (hfl : l.flags = pinnedFlags ++ [noTraceFlag]) (D : va_G) (A : Nat → Prop) (σ MC MS : Nat) (h0 : xb_H) (Qr : Int64 → xb_H → Prop) (y0 : Int64) (h : xb_H) (hw : w_Format_greater_L37 Qr y0 h) : xb_am l D A σ 4 MC MS h0 (fun v h _ _ => ∃ r, v = some (.long r) ∧ Qr r h) (fun _ _ _ _ => False) y_Format_greater.cls y_Format_greater.name b_Format_greater 5 ([] : List ExceptionTableEntry) (some .long) 37 [] [.long y0] h 0 0 := by
  unfold w_Format_greater_L37 at hw
  intro p e s m args below meth c hC H locs ls k n hE hl hR hS hk hn
  obtain ⟨hx, hb, hown, hlocks, htab, hml, hr, hB, hA, hnm⟩ := id hC
  have hts := hB.1.1.at args
  exact xb_lret 0 0 hx hb hr hlocks (show k + 0 ≤ MC by omega) (show n + 0 ≤ MS by omega) hE hR hS (xb_d D_Format_greater 23 rfl) hw

set_option maxHeartbeats 4000000 in
set_option maxRecDepth 100000 in
theorem ok_Format_greater (l : Launch) (hfl : l.flags = pinnedFlags ++ [noTraceFlag]) (D : va_G) (A : Nat → Prop) (σ : Nat) (x0 : Nat) (x1 : Int64) (x3 : Int64) (h : xb_H) (Qr : Int64 → xb_H → Prop) (hw : w_Format_greater x0 x1 x3 h Qr) : xb_Met l y_Format_greater [.code y_Format_greater b_Format_greater 5 (some .long)] (xb_rm 4 0 0) (xb_Pc D A σ h [.ref x0, .long x1, .long x3]) (xb_Qc D A h 0 0 (fun v h _ _ => ∃ r, v = some (.long r) ∧ Qr r h) (fun _ _ _ _ => False)) A := by
  refine xb_ofAm (cc := b_Format_greater) (by decide) (Nat.le_of_ble_eq_true rfl) ?_
  unfold w_Format_greater at hw
  show xb_am l D A σ 4 0 0 h (fun v h _ _ => ∃ r, v = some (.long r) ∧ Qr r h) (fun _ _ _ _ => False) y_Format_greater.cls y_Format_greater.name b_Format_greater 5 ([] : List ExceptionTableEntry) (some .long) 0 [(0, .ref x0), (1, .long x1), (3, .long x3)] [] h 0 0
  obtain ⟨MC, hMC⟩ : ∃ x, x = 0 := ⟨_, rfl⟩
  obtain ⟨MS, hMS⟩ : ∃ x, x = 0 := ⟨_, rfl⟩
  rw [show xb_am l D A σ 4 0 0 = xb_am l D A σ 4 MC MS by rw [hMC, hMS]]
  obtain ⟨h0, hh0⟩ : ∃ x, x = h := ⟨_, rfl⟩
  rw [show xb_am l D A σ 4 MC MS h = xb_am l D A σ 4 MC MS h0 by rw [hh0]]
  intro p e s m args below meth c hC H locs ls k n hE hl hR hS hk hn
  obtain ⟨hx, hb, hown, hlocks, htab, hml, hr, hB, hA, hnm⟩ := id hC
  have hts := hB.1.1.at args
  refine lv_aload_n hx hb (xb_d D_Format_greater 0 rfl) rfl (lv_at hl 0 rfl) ?_
  refine lv_lload_n hx hb (xb_d D_Format_greater 1 rfl) rfl (lv_at hl 1 rfl) ?_
  obtain ⟨hk1, hw⟩ := hw
  refine xb_call0 (D := D) (A := A) (σ := σ) (h := h) (d := 3) (maxL := 3) (rest := []) (av := [.ref x0, .long x1]) (fun T hT X => by obtain ⟨cb9, ra9, rb9, rc9⟩ := xb_recv (ci := 5) hR rfl hk1 (by decide); exact xt_invV X hx hown (hts _ m_a5ad9417) (hts _ m_98331b4c) (hts _ m_04c4d5ab) (xt_sigOf (hts _ m_97b0f5b8)) nm_Format_ordered (by rw [hT]; exact ra9) rb9 rc9 (g := F0 m 2 ls [.long x1, .ref x0]) rfl (argsL := [.long x1]) (rest := []) rfl rfl (by rw [hb]; exact (xb_d D_Format_greater 2 rfl))) (ok_Format_ordered l hfl D A σ x0 x1 h _ hw) (hml.trans hl.1.symm) (by rw [hb]; exact (xb_d D_Format_greater 2 rfl)) (Nat.le_of_ble_eq_true rfl) (Nat.le_of_ble_eq_true rfl) (Nat.le_of_ble_eq_true rfl) (show k ≤ MC by omega) (show n ≤ MS by omega) (xt_w1 hB.1 m_97b0f5b8) (xt_cdOf hB.1 m_97b0f5b8) (hts _ m_64857de5) hB hR hS hA (fun vv h2 H locs hq hEh2 hR hS => ?_)
  obtain ⟨r3, rfl, hw⟩ := hq
  have hw := hw hEh2
  have hE := hE.tr hEh2
  refine W.eq (g2 := F0 m 5 ls [.long r3]) rfl ?_
  refine lv_aload_n hx hb (xb_d D_Format_greater 3 rfl) rfl (lv_at hl 0 rfl) ?_
  refine lv_lload_n hx hb (xb_d D_Format_greater 4 rfl) rfl (lv_at hl 2 rfl) ?_
  have hk1 : xb_k h2 x0 = 6 := hEh2.k hk1
  refine xb_call0 (D := D) (A := A) (σ := σ) (h := h2) (d := 3) (maxL := 3) (rest := [.long r3]) (av := [.ref x0, .long x3]) (fun T hT X => by obtain ⟨cb9, ra9, rb9, rc9⟩ := xb_recv (ci := 5) hR rfl hk1 (by decide); exact xt_invV X hx hown (hts _ m_a5ad9417) (hts _ m_98331b4c) (hts _ m_04c4d5ab) (xt_sigOf (hts _ m_97b0f5b8)) nm_Format_ordered (by rw [hT]; exact ra9) rb9 rc9 (g := F0 m 7 ls [.long x3, .ref x0, .long r3]) rfl (argsL := [.long x3]) (rest := [.long r3]) rfl rfl (by rw [hb]; exact (xb_d D_Format_greater 5 rfl))) (ok_Format_ordered l hfl D A σ x0 x3 h2 _ hw) (hml.trans hl.1.symm) (by rw [hb]; exact (xb_d D_Format_greater 5 rfl)) (Nat.le_of_ble_eq_true rfl) (Nat.le_of_ble_eq_true rfl) (Nat.le_of_ble_eq_true rfl) (show k ≤ MC by omega) (show n ≤ MS by omega) (xt_w1 hB.1 m_97b0f5b8) (xt_cdOf hB.1 m_97b0f5b8) (hts _ m_64857de5) hB hR hS hA (fun vv h4 H locs hq hEh4 hR hS => ?_)
  obtain ⟨r5, rfl, hw⟩ := hq
  have hw := hw hEh4
  have hE := hE.tr hEh4
  refine W.eq (g2 := F0 m 10 ls [.long r5, .long r3]) rfl ?_
  refine xb_lc_ne (tgt := 18) hx hb (xb_d D_Format_greater 6 rfl) (xb_d D_Format_greater 7 rfl) rfl (fun hc6 => ?_) (fun hc6 => ?_)
  · have hw := hw.1 hc6
    refine lv_aload_n hx hb (xb_d D_Format_greater 12 rfl) rfl (lv_at hl 0 rfl) ?_
    refine lv_lload_n hx hb (xb_d D_Format_greater 13 rfl) rfl (lv_at hl 1 rfl) ?_
    have hk1 : xb_k h4 x0 = 6 := hEh4.k hk1
    refine xb_call0 (D := D) (A := A) (σ := σ) (h := h4) (d := 3) (maxL := 3) (rest := []) (av := [.ref x0, .long x1]) (fun T hT X => by obtain ⟨cb9, ra9, rb9, rc9⟩ := xb_recv (ci := 5) hR rfl hk1 (by decide); exact xt_invV X hx hown (hts _ m_a5ad9417) (hts _ m_98331b4c) (hts _ m_04c4d5ab) (xt_sigOf (hts _ m_97b0f5b8)) nm_Format_ordered (by rw [hT]; exact ra9) rb9 rc9 (g := F0 m 20 ls [.long x1, .ref x0]) rfl (argsL := [.long x1]) (rest := []) rfl rfl (by rw [hb]; exact (xb_d D_Format_greater 14 rfl))) (ok_Format_ordered l hfl D A σ x0 x1 h4 _ hw) (hml.trans hl.1.symm) (by rw [hb]; exact (xb_d D_Format_greater 14 rfl)) (Nat.le_of_ble_eq_true rfl) (Nat.le_of_ble_eq_true rfl) (Nat.le_of_ble_eq_true rfl) (show k ≤ MC by omega) (show n ≤ MS by omega) (xt_w1 hB.1 m_97b0f5b8) (xt_cdOf hB.1 m_97b0f5b8) (hts _ m_64857de5) hB hR hS hA (fun vv h7 H locs hq hEh7 hR hS => ?_)
    obtain ⟨r8, rfl, hw⟩ := hq
    have hw := hw hEh7
    have hE := hE.tr hEh7
    refine W.eq (g2 := F0 m 23 ls [.long r8]) rfl ?_
    refine lv_aload_n hx hb (xb_d D_Format_greater 15 rfl) rfl (lv_at hl 0 rfl) ?_
    refine lv_lload_n hx hb (xb_d D_Format_greater 16 rfl) rfl (lv_at hl 2 rfl) ?_
    have hk1 : xb_k h7 x0 = 6 := hEh7.k hk1
    refine xb_call0 (D := D) (A := A) (σ := σ) (h := h7) (d := 3) (maxL := 3) (rest := [.long r8]) (av := [.ref x0, .long x3]) (fun T hT X => by obtain ⟨cb9, ra9, rb9, rc9⟩ := xb_recv (ci := 5) hR rfl hk1 (by decide); exact xt_invV X hx hown (hts _ m_a5ad9417) (hts _ m_98331b4c) (hts _ m_04c4d5ab) (xt_sigOf (hts _ m_97b0f5b8)) nm_Format_ordered (by rw [hT]; exact ra9) rb9 rc9 (g := F0 m 25 ls [.long x3, .ref x0, .long r8]) rfl (argsL := [.long x3]) (rest := [.long r8]) rfl rfl (by rw [hb]; exact (xb_d D_Format_greater 17 rfl))) (ok_Format_ordered l hfl D A σ x0 x3 h7 _ hw) (hml.trans hl.1.symm) (by rw [hb]; exact (xb_d D_Format_greater 17 rfl)) (Nat.le_of_ble_eq_true rfl) (Nat.le_of_ble_eq_true rfl) (Nat.le_of_ble_eq_true rfl) (show k ≤ MC by omega) (show n ≤ MS by omega) (xt_w1 hB.1 m_97b0f5b8) (xt_cdOf hB.1 m_97b0f5b8) (hts _ m_64857de5) hB hR hS hA (fun vv h9 H locs hq hEh9 hR hS => ?_)
    obtain ⟨r10, rfl, hw⟩ := hq
    have hw := hw hEh9
    have hE := hE.tr hEh9
    refine W.eq (g2 := F0 m 28 ls [.long r10, .long r8]) rfl ?_
    refine xb_lc_le (tgt := 36) hx hb (xb_d D_Format_greater 18 rfl) (xb_d D_Format_greater 19 rfl) rfl (fun hc11 => ?_) (fun hc11 => ?_)
    · have hw := hw.1 hc11
      refine lv_lload_n hx hb (xb_d D_Format_greater 22 rfl) rfl (lv_at hl 2 rfl) ?_
      exact am_Format_greater_L37 l hfl D A σ MC MS h0 Qr x3 h9 hw p e s m args below meth c hC H locs ls k n hE (lv_sub hl [] rfl) hR hS (by omega) (by omega)
    · have hw := hw.2 hc11
      refine lv_lload_n hx hb (xb_d D_Format_greater 20 rfl) rfl (lv_at hl 1 rfl) ?_
      refine lv_goto (tgt := 37) hx hb (xb_d D_Format_greater 21 rfl) rfl ?_
      exact am_Format_greater_L37 l hfl D A σ MC MS h0 Qr x1 h9 hw p e s m args below meth c hC H locs ls k n hE (lv_sub hl [] rfl) hR hS (by omega) (by omega)
  · have hw := hw.2 hc6
    refine lv_lload_n hx hb (xb_d D_Format_greater 8 rfl) rfl (lv_at hl 1 rfl) ?_
    refine lv_lload_n hx hb (xb_d D_Format_greater 9 rfl) rfl (lv_at hl 2 rfl) ?_
    refine lv_land hx hb (xb_d D_Format_greater 10 rfl) ?_
    exact xb_lret 0 0 hx hb hr hlocks (show k + 0 ≤ MC by omega) (show n + 0 ≤ MS by omega) hE hR hS (xb_d D_Format_greater 11 rfl) hw

