theorem m_7fedb969 : (.methodLink "StackHost$Whole" 9 y_Whole_isBelow : Cond) ∈ xt_tbl := xt_in (xt_t8 (List.mem_of_getElem? (i := 155) (by decide +kernel))) (by decide +kernel)
theorem m_ed9d4f6c : (.static y_Whole_isBelow : Cond) ∈ xt_tbl := xt_in (xt_t8 (List.mem_of_getElem? (i := 156) (by decide +kernel))) (by decide +kernel)
theorem m_0b5c2741 : (.code y_Whole_isBelow b_Whole_isBelow 4 (some .boolean) : Cond) ∈ xt_tbl := xt_in (xt_t8 (List.mem_of_getElem? (i := 157) (by decide +kernel))) (by decide +kernel)
theorem nm_Whole_isBelow : xt_nm y_Whole_isBelow 2 := ⟨by decide +kernel, by decide +kernel⟩
set_option maxRecDepth 100000 in
def T_Whole_holds : List (Nat × Instr × Nat) := [(0, .iload_n 0, 1), (1, .tableswitch 149 0 8 #[51, 63, 75, 87, 93, 105, 111, 123, 137], 51), (52, .lload_n 1, 1), (53, .lload_n 3, 1), (54, .lcmp, 1), (55, .ifCond .ne 7, 3), (58, .iconst 1, 1), (59, .goto 4, 3), (62, .iconst 0, 1), (63, .ireturn, 1), (64, .lload_n 1, 1), (65, .lload_n 3, 1), (66, .lcmp, 1), (67, .ifCond .eq 7, 3), (70, .iconst 1, 1), (71, .goto 4, 3), (74, .iconst 0, 1), (75, .ireturn, 1), (76, .lload_n 1, 1), (77, .lload_n 3, 1), (78, .lcmp, 1), (79, .ifCond .ge 7, 3), (82, .iconst 1, 1), (83, .goto 4, 3), (86, .iconst 0, 1), (87, .ireturn, 1), (88, .lload_n 1, 1), (89, .lload_n 3, 1), (90, .invokestatic 9, 3), (93, .ireturn, 1), (94, .lload_n 1, 1), (95, .lload_n 3, 1), (96, .lcmp, 1), (97, .ifCond .le 7, 3), (100, .iconst 1, 1), (101, .goto 4, 3), (104, .iconst 0, 1), (105, .ireturn, 1), (106, .lload_n 3, 1), (107, .lload_n 1, 1), (108, .invokestatic 9, 3), (111, .ireturn, 1), (112, .lload_n 1, 1), (113, .lload_n 3, 1), (114, .lcmp, 1), (115, .ifCond .gt 7, 3), (118, .iconst 1, 1), (119, .goto 4, 3), (122, .iconst 0, 1), (123, .ireturn, 1), (124, .lload_n 3, 1), (125, .lload_n 1, 1), (126, .invokestatic 9, 3), (129, .ifCond .ne 7, 3), (132, .iconst 1, 1), (133, .goto 4, 3), (136, .iconst 0, 1), (137, .ireturn, 1), (138, .lload_n 1, 1), (139, .lload_n 3, 1), (140, .lcmp, 1), (141, .ifCond .lt 7, 3), (144, .iconst 1, 1), (145, .goto 4, 3), (148, .iconst 0, 1), (149, .ireturn, 1), (150, .lload_n 1, 1), (151, .lload_n 3, 1), (152, .invokestatic 9, 3), (155, .ifCond .ne 7, 3), (158, .iconst 1, 1), (159, .goto 4, 3), (162, .iconst 0, 1), (163, .ireturn, 1)]
theorem D_Whole_holds : ∀ q ∈ T_Whole_holds, decode b_Whole_holds q.1 = .ok (q.2.1, q.2.2) := by decide +kernel
def w_Whole_holds_L163 (Qr : Int32 → xb_H → Prop) (y0 : Int32) (h : xb_H) : Prop :=
    (y0 = 0 ∨ y0 = 1) ∧ Qr y0 h

def w_Whole_holds_L149 (Qr : Int32 → xb_H → Prop) (y0 : Int32) (h : xb_H) : Prop :=
    (y0 = 0 ∨ y0 = 1) ∧ Qr y0 h

def w_Whole_holds_L137 (Qr : Int32 → xb_H → Prop) (y0 : Int32) (h : xb_H) : Prop :=
    (y0 = 0 ∨ y0 = 1) ∧ Qr y0 h

def w_Whole_holds_L123 (Qr : Int32 → xb_H → Prop) (y0 : Int32) (h : xb_H) : Prop :=
    (y0 = 0 ∨ y0 = 1) ∧ Qr y0 h

def w_Whole_holds_L105 (Qr : Int32 → xb_H → Prop) (y0 : Int32) (h : xb_H) : Prop :=
    (y0 = 0 ∨ y0 = 1) ∧ Qr y0 h

def w_Whole_holds_L87 (Qr : Int32 → xb_H → Prop) (y0 : Int32) (h : xb_H) : Prop :=
    (y0 = 0 ∨ y0 = 1) ∧ Qr y0 h

def w_Whole_holds_L75 (Qr : Int32 → xb_H → Prop) (y0 : Int32) (h : xb_H) : Prop :=
    (y0 = 0 ∨ y0 = 1) ∧ Qr y0 h

def w_Whole_holds_L63 (Qr : Int32 → xb_H → Prop) (y0 : Int32) (h : xb_H) : Prop :=
    (y0 = 0 ∨ y0 = 1) ∧ Qr y0 h

def w_Whole_holds (x0 : Int32) (x1 : Int64) (x3 : Int64) (h : xb_H) (Qr : Int32 → xb_H → Prop) : Prop :=
    ((x0 = 0 → ((¬ x1 = x3 → w_Whole_holds_L63 Qr 0 h) ∧ (x1 = x3 → w_Whole_holds_L63 Qr 1 h))) ∧ (x0 = 1 → ((x1 = x3 → w_Whole_holds_L75 Qr 0 h) ∧ (¬ x1 = x3 → w_Whole_holds_L75 Qr 1 h))) ∧ (x0 = 2 → ((x3 ≤ x1 → w_Whole_holds_L87 Qr 0 h) ∧ (¬ x3 ≤ x1 → w_Whole_holds_L87 Qr 1 h))) ∧ (x0 = 3 → w_Whole_isBelow x1 x3 h (fun (r9 : Int32) (h8 : xb_H) => xb_ext h h8 → (r9 = 0 ∨ r9 = 1) ∧ Qr r9 h8)) ∧ (x0 = 4 → ((x1 ≤ x3 → w_Whole_holds_L105 Qr 0 h) ∧ (¬ x1 ≤ x3 → w_Whole_holds_L105 Qr 1 h))) ∧ (x0 = 5 → w_Whole_isBelow x3 x1 h (fun (r14 : Int32) (h13 : xb_H) => xb_ext h h13 → (r14 = 0 ∨ r14 = 1) ∧ Qr r14 h13)) ∧ (x0 = 6 → ((x3 < x1 → w_Whole_holds_L123 Qr 0 h) ∧ (¬ x3 < x1 → w_Whole_holds_L123 Qr 1 h))) ∧ (x0 = 7 → w_Whole_isBelow x3 x1 h (fun (r19 : Int32) (h18 : xb_H) => xb_ext h h18 → ((¬ r19 = (0 : Int32) → w_Whole_holds_L137 Qr 0 h18) ∧ (r19 = (0 : Int32) → w_Whole_holds_L137 Qr 1 h18)))) ∧ (x0 = 8 → ((x1 < x3 → w_Whole_holds_L149 Qr 0 h) ∧ (¬ x1 < x3 → w_Whole_holds_L149 Qr 1 h))) ∧ (¬ x0 = 0 → ¬ x0 = 1 → ¬ x0 = 2 → ¬ x0 = 3 → ¬ x0 = 4 → ¬ x0 = 5 → ¬ x0 = 6 → ¬ x0 = 7 → ¬ x0 = 8 → w_Whole_isBelow x1 x3 h (fun (r24 : Int32) (h23 : xb_H) => xb_ext h h23 → ((¬ r24 = (0 : Int32) → w_Whole_holds_L163 Qr 0 h23) ∧ (r24 = (0 : Int32) → w_Whole_holds_L163 Qr 1 h23)))))

set_option maxHeartbeats 4000000 in
set_option maxRecDepth 100000 in
theorem am_Whole_holds_L163 (l : Launch) (hfl : l.flags = pinnedFlags ++ [noTraceFlag]) (D : va_G) (A : Nat → Prop) (σ MC MS : Nat) (h0 : xb_H) (Qr : Int32 → xb_H → Prop) (y0 : Int32) (h : xb_H) (hw : w_Whole_holds_L163 Qr y0 h) : xb_am l D A σ 3 MC MS h0 (fun v h => ∃ r, v = some (.int r) ∧ Qr r h) (fun _ _ => False) y_Whole_holds.cls y_Whole_holds.name b_Whole_holds 5 ([] : List ExceptionTableEntry) (some .boolean) 163 [] [.int y0] h 0 0 := by
  unfold w_Whole_holds_L163 at hw
  intro p e s m args below meth c hC H locs ls k n hE hl hR hS hk hn
  obtain ⟨hx, hb, hown, hlocks, htab, hml, hr, hB, hA, hnm⟩ := id hC
  have hts := hB.1.1.at args
  exact xb_zret hx hb hr hlocks (show k ≤ MC by omega) (show n ≤ MS by omega) hw.1 hE hR hS (xb_d D_Whole_holds 73 rfl) hw.2

set_option maxHeartbeats 4000000 in
set_option maxRecDepth 100000 in
theorem am_Whole_holds_L149 (l : Launch) (hfl : l.flags = pinnedFlags ++ [noTraceFlag]) (D : va_G) (A : Nat → Prop) (σ MC MS : Nat) (h0 : xb_H) (Qr : Int32 → xb_H → Prop) (y0 : Int32) (h : xb_H) (hw : w_Whole_holds_L149 Qr y0 h) : xb_am l D A σ 3 MC MS h0 (fun v h => ∃ r, v = some (.int r) ∧ Qr r h) (fun _ _ => False) y_Whole_holds.cls y_Whole_holds.name b_Whole_holds 5 ([] : List ExceptionTableEntry) (some .boolean) 149 [] [.int y0] h 0 0 := by
  unfold w_Whole_holds_L149 at hw
  intro p e s m args below meth c hC H locs ls k n hE hl hR hS hk hn
  obtain ⟨hx, hb, hown, hlocks, htab, hml, hr, hB, hA, hnm⟩ := id hC
  have hts := hB.1.1.at args
  exact xb_zret hx hb hr hlocks (show k ≤ MC by omega) (show n ≤ MS by omega) hw.1 hE hR hS (xb_d D_Whole_holds 65 rfl) hw.2

set_option maxHeartbeats 4000000 in
set_option maxRecDepth 100000 in
theorem am_Whole_holds_L137 (l : Launch) (hfl : l.flags = pinnedFlags ++ [noTraceFlag]) (D : va_G) (A : Nat → Prop) (σ MC MS : Nat) (h0 : xb_H) (Qr : Int32 → xb_H → Prop) (y0 : Int32) (h : xb_H) (hw : w_Whole_holds_L137 Qr y0 h) : xb_am l D A σ 3 MC MS h0 (fun v h => ∃ r, v = some (.int r) ∧ Qr r h) (fun _ _ => False) y_Whole_holds.cls y_Whole_holds.name b_Whole_holds 5 ([] : List ExceptionTableEntry) (some .boolean) 137 [] [.int y0] h 0 0 := by
  unfold w_Whole_holds_L137 at hw
  intro p e s m args below meth c hC H locs ls k n hE hl hR hS hk hn
  obtain ⟨hx, hb, hown, hlocks, htab, hml, hr, hB, hA, hnm⟩ := id hC
  have hts := hB.1.1.at args
  exact xb_zret hx hb hr hlocks (show k ≤ MC by omega) (show n ≤ MS by omega) hw.1 hE hR hS (xb_d D_Whole_holds 57 rfl) hw.2

set_option maxHeartbeats 4000000 in
set_option maxRecDepth 100000 in
theorem am_Whole_holds_L123 (l : Launch) (hfl : l.flags = pinnedFlags ++ [noTraceFlag]) (D : va_G) (A : Nat → Prop) (σ MC MS : Nat) (h0 : xb_H) (Qr : Int32 → xb_H → Prop) (y0 : Int32) (h : xb_H) (hw : w_Whole_holds_L123 Qr y0 h) : xb_am l D A σ 3 MC MS h0 (fun v h => ∃ r, v = some (.int r) ∧ Qr r h) (fun _ _ => False) y_Whole_holds.cls y_Whole_holds.name b_Whole_holds 5 ([] : List ExceptionTableEntry) (some .boolean) 123 [] [.int y0] h 0 0 := by
  unfold w_Whole_holds_L123 at hw
  intro p e s m args below meth c hC H locs ls k n hE hl hR hS hk hn
  obtain ⟨hx, hb, hown, hlocks, htab, hml, hr, hB, hA, hnm⟩ := id hC
  have hts := hB.1.1.at args
  exact xb_zret hx hb hr hlocks (show k ≤ MC by omega) (show n ≤ MS by omega) hw.1 hE hR hS (xb_d D_Whole_holds 49 rfl) hw.2

set_option maxHeartbeats 4000000 in
set_option maxRecDepth 100000 in
theorem am_Whole_holds_L105 (l : Launch) (hfl : l.flags = pinnedFlags ++ [noTraceFlag]) (D : va_G) (A : Nat → Prop) (σ MC MS : Nat) (h0 : xb_H) (Qr : Int32 → xb_H → Prop) (y0 : Int32) (h : xb_H) (hw : w_Whole_holds_L105 Qr y0 h) : xb_am l D A σ 3 MC MS h0 (fun v h => ∃ r, v = some (.int r) ∧ Qr r h) (fun _ _ => False) y_Whole_holds.cls y_Whole_holds.name b_Whole_holds 5 ([] : List ExceptionTableEntry) (some .boolean) 105 [] [.int y0] h 0 0 := by
  unfold w_Whole_holds_L105 at hw
  intro p e s m args below meth c hC H locs ls k n hE hl hR hS hk hn
  obtain ⟨hx, hb, hown, hlocks, htab, hml, hr, hB, hA, hnm⟩ := id hC
  have hts := hB.1.1.at args
  exact xb_zret hx hb hr hlocks (show k ≤ MC by omega) (show n ≤ MS by omega) hw.1 hE hR hS (xb_d D_Whole_holds 37 rfl) hw.2

set_option maxHeartbeats 4000000 in
set_option maxRecDepth 100000 in
theorem am_Whole_holds_L87 (l : Launch) (hfl : l.flags = pinnedFlags ++ [noTraceFlag]) (D : va_G) (A : Nat → Prop) (σ MC MS : Nat) (h0 : xb_H) (Qr : Int32 → xb_H → Prop) (y0 : Int32) (h : xb_H) (hw : w_Whole_holds_L87 Qr y0 h) : xb_am l D A σ 3 MC MS h0 (fun v h => ∃ r, v = some (.int r) ∧ Qr r h) (fun _ _ => False) y_Whole_holds.cls y_Whole_holds.name b_Whole_holds 5 ([] : List ExceptionTableEntry) (some .boolean) 87 [] [.int y0] h 0 0 := by
  unfold w_Whole_holds_L87 at hw
  intro p e s m args below meth c hC H locs ls k n hE hl hR hS hk hn
  obtain ⟨hx, hb, hown, hlocks, htab, hml, hr, hB, hA, hnm⟩ := id hC
  have hts := hB.1.1.at args
  exact xb_zret hx hb hr hlocks (show k ≤ MC by omega) (show n ≤ MS by omega) hw.1 hE hR hS (xb_d D_Whole_holds 25 rfl) hw.2

set_option maxHeartbeats 4000000 in
set_option maxRecDepth 100000 in
theorem am_Whole_holds_L75 (l : Launch) (hfl : l.flags = pinnedFlags ++ [noTraceFlag]) (D : va_G) (A : Nat → Prop) (σ MC MS : Nat) (h0 : xb_H) (Qr : Int32 → xb_H → Prop) (y0 : Int32) (h : xb_H) (hw : w_Whole_holds_L75 Qr y0 h) : xb_am l D A σ 3 MC MS h0 (fun v h => ∃ r, v = some (.int r) ∧ Qr r h) (fun _ _ => False) y_Whole_holds.cls y_Whole_holds.name b_Whole_holds 5 ([] : List ExceptionTableEntry) (some .boolean) 75 [] [.int y0] h 0 0 := by
  unfold w_Whole_holds_L75 at hw
  intro p e s m args below meth c hC H locs ls k n hE hl hR hS hk hn
  obtain ⟨hx, hb, hown, hlocks, htab, hml, hr, hB, hA, hnm⟩ := id hC
  have hts := hB.1.1.at args
  exact xb_zret hx hb hr hlocks (show k ≤ MC by omega) (show n ≤ MS by omega) hw.1 hE hR hS (xb_d D_Whole_holds 17 rfl) hw.2

set_option maxHeartbeats 4000000 in
set_option maxRecDepth 100000 in
theorem am_Whole_holds_L63 (l : Launch) (hfl : l.flags = pinnedFlags ++ [noTraceFlag]) (D : va_G) (A : Nat → Prop) (σ MC MS : Nat) (h0 : xb_H) (Qr : Int32 → xb_H → Prop) (y0 : Int32) (h : xb_H) (hw : w_Whole_holds_L63 Qr y0 h) : xb_am l D A σ 3 MC MS h0 (fun v h => ∃ r, v = some (.int r) ∧ Qr r h) (fun _ _ => False) y_Whole_holds.cls y_Whole_holds.name b_Whole_holds 5 ([] : List ExceptionTableEntry) (some .boolean) 63 [] [.int y0] h 0 0 := by
  unfold w_Whole_holds_L63 at hw
  intro p e s m args below meth c hC H locs ls k n hE hl hR hS hk hn
  obtain ⟨hx, hb, hown, hlocks, htab, hml, hr, hB, hA, hnm⟩ := id hC
  have hts := hB.1.1.at args
  exact xb_zret hx hb hr hlocks (show k ≤ MC by omega) (show n ≤ MS by omega) hw.1 hE hR hS (xb_d D_Whole_holds 9 rfl) hw.2

set_option maxHeartbeats 4000000 in
set_option maxRecDepth 100000 in
theorem ok_Whole_holds (l : Launch) (hfl : l.flags = pinnedFlags ++ [noTraceFlag]) (D : va_G) (A : Nat → Prop) (σ : Nat) (x0 : Int32) (x1 : Int64) (x3 : Int64) (h : xb_H) (Qr : Int32 → xb_H → Prop) (hw : w_Whole_holds x0 x1 x3 h Qr) : xt_Met l y_Whole_holds [.code y_Whole_holds b_Whole_holds 5 (some .boolean)] (xb_rm 3 0 0) (xb_Pc D A σ h [.int x0, .long x1, .long x3]) (xb_Qc D A h (fun v h => ∃ r, v = some (.int r) ∧ Qr r h) (fun _ _ => False)) 0 0 A := by
  refine xb_ofAm (cc := b_Whole_holds) (by decide) (Nat.le_of_ble_eq_true rfl) ?_
  unfold w_Whole_holds at hw
  show xb_am l D A σ 3 0 0 h (fun v h => ∃ r, v = some (.int r) ∧ Qr r h) (fun _ _ => False) y_Whole_holds.cls y_Whole_holds.name b_Whole_holds 5 ([] : List ExceptionTableEntry) (some .boolean) 0 [(0, .int x0), (1, .long x1), (3, .long x3)] [] h 0 0
  obtain ⟨MC, hMC⟩ : ∃ x, x = 0 := ⟨_, rfl⟩
  obtain ⟨MS, hMS⟩ : ∃ x, x = 0 := ⟨_, rfl⟩
  rw [show xb_am l D A σ 3 0 0 = xb_am l D A σ 3 MC MS by rw [hMC, hMS]]
  obtain ⟨h0, hh0⟩ : ∃ x, x = h := ⟨_, rfl⟩
  rw [show xb_am l D A σ 3 MC MS h = xb_am l D A σ 3 MC MS h0 by rw [hh0]]
  intro p e s m args below meth c hC H locs ls k n hE hl hR hS hk hn
  obtain ⟨hx, hb, hown, hlocks, htab, hml, hr, hB, hA, hnm⟩ := id hC
  have hts := hB.1.1.at args
  refine lv_iload_n hx hb (xb_d D_Whole_holds 0 rfl) rfl (lv_at hl 0 rfl) ?_
  by_cases hc1 : x0 = 0
  · have hw := hw.1 hc1
    refine xt_numi hc1 ?_
    refine lv_tableIn (off := 51) (tgt := 52) hx hb (xb_d D_Whole_holds 1 rfl) (by decide +kernel) (by decide +kernel) (by decide +kernel) (by decide) ?_
    refine lv_lload_n hx hb (xb_d D_Whole_holds 2 rfl) rfl (lv_at hl 1 rfl) ?_
    refine lv_lload_n hx hb (xb_d D_Whole_holds 3 rfl) rfl (lv_at hl 2 rfl) ?_
    refine xb_lc_ne (tgt := 62) hx hb (xb_d D_Whole_holds 4 rfl) (xb_d D_Whole_holds 5 rfl) rfl (fun hc2 => ?_) (fun hc2 => ?_)
    · have hw := hw.1 hc2
      refine lv_iconst (v := 0) hx hb (xb_d D_Whole_holds 8 rfl) (by decide) ?_
      exact am_Whole_holds_L63 l hfl D A σ MC MS h0 Qr 0 h hw p e s m args below meth c hC H locs ls k n hE (lv_sub hl [] rfl) hR hS (by omega) (by omega)
    · have hw := hw.2 hc2
      refine lv_iconst (v := 1) hx hb (xb_d D_Whole_holds 6 rfl) (by decide) ?_
      refine lv_goto (tgt := 63) hx hb (xb_d D_Whole_holds 7 rfl) rfl ?_
      exact am_Whole_holds_L63 l hfl D A σ MC MS h0 Qr 1 h hw p e s m args below meth c hC H locs ls k n hE (lv_sub hl [] rfl) hR hS (by omega) (by omega)
  have hw := hw.2
  by_cases hc3 : x0 = 1
  · have hw := hw.1 hc3
    refine xt_numi hc3 ?_
    refine lv_tableIn (off := 63) (tgt := 64) hx hb (xb_d D_Whole_holds 1 rfl) (by decide +kernel) (by decide +kernel) (by decide +kernel) (by decide) ?_
    refine lv_lload_n hx hb (xb_d D_Whole_holds 10 rfl) rfl (lv_at hl 1 rfl) ?_
    refine lv_lload_n hx hb (xb_d D_Whole_holds 11 rfl) rfl (lv_at hl 2 rfl) ?_
    refine xb_lc_eq (tgt := 74) hx hb (xb_d D_Whole_holds 12 rfl) (xb_d D_Whole_holds 13 rfl) rfl (fun hc4 => ?_) (fun hc4 => ?_)
    · have hw := hw.1 hc4
      refine lv_iconst (v := 0) hx hb (xb_d D_Whole_holds 16 rfl) (by decide) ?_
      exact am_Whole_holds_L75 l hfl D A σ MC MS h0 Qr 0 h hw p e s m args below meth c hC H locs ls k n hE (lv_sub hl [] rfl) hR hS (by omega) (by omega)
    · have hw := hw.2 hc4
      refine lv_iconst (v := 1) hx hb (xb_d D_Whole_holds 14 rfl) (by decide) ?_
      refine lv_goto (tgt := 75) hx hb (xb_d D_Whole_holds 15 rfl) rfl ?_
      exact am_Whole_holds_L75 l hfl D A σ MC MS h0 Qr 1 h hw p e s m args below meth c hC H locs ls k n hE (lv_sub hl [] rfl) hR hS (by omega) (by omega)
  have hw := hw.2
  by_cases hc5 : x0 = 2
  · have hw := hw.1 hc5
    refine xt_numi hc5 ?_
    refine lv_tableIn (off := 75) (tgt := 76) hx hb (xb_d D_Whole_holds 1 rfl) (by decide +kernel) (by decide +kernel) (by decide +kernel) (by decide) ?_
    refine lv_lload_n hx hb (xb_d D_Whole_holds 18 rfl) rfl (lv_at hl 1 rfl) ?_
    refine lv_lload_n hx hb (xb_d D_Whole_holds 19 rfl) rfl (lv_at hl 2 rfl) ?_
    refine xb_lc_ge (tgt := 86) hx hb (xb_d D_Whole_holds 20 rfl) (xb_d D_Whole_holds 21 rfl) rfl (fun hc6 => ?_) (fun hc6 => ?_)
    · have hw := hw.1 hc6
      refine lv_iconst (v := 0) hx hb (xb_d D_Whole_holds 24 rfl) (by decide) ?_
      exact am_Whole_holds_L87 l hfl D A σ MC MS h0 Qr 0 h hw p e s m args below meth c hC H locs ls k n hE (lv_sub hl [] rfl) hR hS (by omega) (by omega)
    · have hw := hw.2 hc6
      refine lv_iconst (v := 1) hx hb (xb_d D_Whole_holds 22 rfl) (by decide) ?_
      refine lv_goto (tgt := 87) hx hb (xb_d D_Whole_holds 23 rfl) rfl ?_
      exact am_Whole_holds_L87 l hfl D A σ MC MS h0 Qr 1 h hw p e s m args below meth c hC H locs ls k n hE (lv_sub hl [] rfl) hR hS (by omega) (by omega)
  have hw := hw.2
  by_cases hc7 : x0 = 3
  · have hw := hw.1 hc7
    refine xt_numi hc7 ?_
    refine lv_tableIn (off := 87) (tgt := 88) hx hb (xb_d D_Whole_holds 1 rfl) (by decide +kernel) (by decide +kernel) (by decide +kernel) (by decide) ?_
    refine lv_lload_n hx hb (xb_d D_Whole_holds 26 rfl) rfl (lv_at hl 1 rfl) ?_
    refine lv_lload_n hx hb (xb_d D_Whole_holds 27 rfl) rfl (lv_at hl 2 rfl) ?_
    refine xb_call (D := D) (A := A) (σ := σ) (h := h) (d := 2) (mc := 0) (ms := 0) (maxL := 4) (rest := []) (av := [.long x1, .long x3]) (fun T hT X => xt_invS X hx hown (hts _ m_7fedb969) (hts _ m_ed9d4f6c) (hts _ m_912e4ef6) (xt_sgS (hts _ m_0b5c2741)).1 (xt_sgS (hts _ m_0b5c2741)).2 nm_Whole_isBelow (g := F0 m 90 ls [.long x3, .long x1]) rfl (argsL := [.long x1, .long x3]) (rest := []) rfl rfl (by rw [hb]; exact (xb_d D_Whole_holds 28 rfl))) (ok_Whole_isBelow l hfl D A σ x1 x3 h _ hw) (hml.trans hl.1.symm) (by rw [hb]; exact (xb_d D_Whole_holds 28 rfl)) (Nat.le_of_ble_eq_true rfl) (Nat.le_of_ble_eq_true rfl) (Nat.le_of_ble_eq_true rfl) (show k + 0 ≤ MC by omega) (show n + 0 ≤ MS by omega) (xt_w1 hB.1 m_0b5c2741) (xt_cdOf hB.1 m_0b5c2741) (hts _ m_912e4ef6) hB hR hS hA (fun vv h8 H locs hq hEh8 hR hS => ?_) (fun XX ax h8 H locs hq hEh8 hex hR hS => ?_)
    · obtain ⟨r9, rfl, hw⟩ := hq
      have hw := hw hEh8
      have hE := hE.tr hEh8
      refine W.eq (g2 := F0 m 93 ls [.int r9]) rfl ?_
      exact xb_zret hx hb hr hlocks (show k ≤ MC by omega) (show n ≤ MS by omega) hw.1 hE hR hS (xb_d D_Whole_holds 29 rfl) hw.2
    · exact False.elim hq
  have hw := hw.2
  by_cases hc10 : x0 = 4
  · have hw := hw.1 hc10
    refine xt_numi hc10 ?_
    refine lv_tableIn (off := 93) (tgt := 94) hx hb (xb_d D_Whole_holds 1 rfl) (by decide +kernel) (by decide +kernel) (by decide +kernel) (by decide) ?_
    refine lv_lload_n hx hb (xb_d D_Whole_holds 30 rfl) rfl (lv_at hl 1 rfl) ?_
    refine lv_lload_n hx hb (xb_d D_Whole_holds 31 rfl) rfl (lv_at hl 2 rfl) ?_
    refine xb_lc_le (tgt := 104) hx hb (xb_d D_Whole_holds 32 rfl) (xb_d D_Whole_holds 33 rfl) rfl (fun hc11 => ?_) (fun hc11 => ?_)
    · have hw := hw.1 hc11
      refine lv_iconst (v := 0) hx hb (xb_d D_Whole_holds 36 rfl) (by decide) ?_
      exact am_Whole_holds_L105 l hfl D A σ MC MS h0 Qr 0 h hw p e s m args below meth c hC H locs ls k n hE (lv_sub hl [] rfl) hR hS (by omega) (by omega)
    · have hw := hw.2 hc11
      refine lv_iconst (v := 1) hx hb (xb_d D_Whole_holds 34 rfl) (by decide) ?_
      refine lv_goto (tgt := 105) hx hb (xb_d D_Whole_holds 35 rfl) rfl ?_
      exact am_Whole_holds_L105 l hfl D A σ MC MS h0 Qr 1 h hw p e s m args below meth c hC H locs ls k n hE (lv_sub hl [] rfl) hR hS (by omega) (by omega)
  have hw := hw.2
  by_cases hc12 : x0 = 5
  · have hw := hw.1 hc12
    refine xt_numi hc12 ?_
    refine lv_tableIn (off := 105) (tgt := 106) hx hb (xb_d D_Whole_holds 1 rfl) (by decide +kernel) (by decide +kernel) (by decide +kernel) (by decide) ?_
    refine lv_lload_n hx hb (xb_d D_Whole_holds 38 rfl) rfl (lv_at hl 2 rfl) ?_
    refine lv_lload_n hx hb (xb_d D_Whole_holds 39 rfl) rfl (lv_at hl 1 rfl) ?_
    refine xb_call (D := D) (A := A) (σ := σ) (h := h) (d := 2) (mc := 0) (ms := 0) (maxL := 4) (rest := []) (av := [.long x3, .long x1]) (fun T hT X => xt_invS X hx hown (hts _ m_7fedb969) (hts _ m_ed9d4f6c) (hts _ m_912e4ef6) (xt_sgS (hts _ m_0b5c2741)).1 (xt_sgS (hts _ m_0b5c2741)).2 nm_Whole_isBelow (g := F0 m 108 ls [.long x1, .long x3]) rfl (argsL := [.long x3, .long x1]) (rest := []) rfl rfl (by rw [hb]; exact (xb_d D_Whole_holds 40 rfl))) (ok_Whole_isBelow l hfl D A σ x3 x1 h _ hw) (hml.trans hl.1.symm) (by rw [hb]; exact (xb_d D_Whole_holds 40 rfl)) (Nat.le_of_ble_eq_true rfl) (Nat.le_of_ble_eq_true rfl) (Nat.le_of_ble_eq_true rfl) (show k + 0 ≤ MC by omega) (show n + 0 ≤ MS by omega) (xt_w1 hB.1 m_0b5c2741) (xt_cdOf hB.1 m_0b5c2741) (hts _ m_912e4ef6) hB hR hS hA (fun vv h13 H locs hq hEh13 hR hS => ?_) (fun XX ax h13 H locs hq hEh13 hex hR hS => ?_)
    · obtain ⟨r14, rfl, hw⟩ := hq
      have hw := hw hEh13
      have hE := hE.tr hEh13
      refine W.eq (g2 := F0 m 111 ls [.int r14]) rfl ?_
      exact xb_zret hx hb hr hlocks (show k ≤ MC by omega) (show n ≤ MS by omega) hw.1 hE hR hS (xb_d D_Whole_holds 41 rfl) hw.2
    · exact False.elim hq
  have hw := hw.2
  by_cases hc15 : x0 = 6
  · have hw := hw.1 hc15
    refine xt_numi hc15 ?_
    refine lv_tableIn (off := 111) (tgt := 112) hx hb (xb_d D_Whole_holds 1 rfl) (by decide +kernel) (by decide +kernel) (by decide +kernel) (by decide) ?_
    refine lv_lload_n hx hb (xb_d D_Whole_holds 42 rfl) rfl (lv_at hl 1 rfl) ?_
    refine lv_lload_n hx hb (xb_d D_Whole_holds 43 rfl) rfl (lv_at hl 2 rfl) ?_
    refine xb_lc_gt (tgt := 122) hx hb (xb_d D_Whole_holds 44 rfl) (xb_d D_Whole_holds 45 rfl) rfl (fun hc16 => ?_) (fun hc16 => ?_)
    · have hw := hw.1 hc16
      refine lv_iconst (v := 0) hx hb (xb_d D_Whole_holds 48 rfl) (by decide) ?_
      exact am_Whole_holds_L123 l hfl D A σ MC MS h0 Qr 0 h hw p e s m args below meth c hC H locs ls k n hE (lv_sub hl [] rfl) hR hS (by omega) (by omega)
    · have hw := hw.2 hc16
      refine lv_iconst (v := 1) hx hb (xb_d D_Whole_holds 46 rfl) (by decide) ?_
      refine lv_goto (tgt := 123) hx hb (xb_d D_Whole_holds 47 rfl) rfl ?_
      exact am_Whole_holds_L123 l hfl D A σ MC MS h0 Qr 1 h hw p e s m args below meth c hC H locs ls k n hE (lv_sub hl [] rfl) hR hS (by omega) (by omega)
  have hw := hw.2
  by_cases hc17 : x0 = 7
  · have hw := hw.1 hc17
    refine xt_numi hc17 ?_
    refine lv_tableIn (off := 123) (tgt := 124) hx hb (xb_d D_Whole_holds 1 rfl) (by decide +kernel) (by decide +kernel) (by decide +kernel) (by decide) ?_
    refine lv_lload_n hx hb (xb_d D_Whole_holds 50 rfl) rfl (lv_at hl 2 rfl) ?_
    refine lv_lload_n hx hb (xb_d D_Whole_holds 51 rfl) rfl (lv_at hl 1 rfl) ?_
    refine xb_call (D := D) (A := A) (σ := σ) (h := h) (d := 2) (mc := 0) (ms := 0) (maxL := 4) (rest := []) (av := [.long x3, .long x1]) (fun T hT X => xt_invS X hx hown (hts _ m_7fedb969) (hts _ m_ed9d4f6c) (hts _ m_912e4ef6) (xt_sgS (hts _ m_0b5c2741)).1 (xt_sgS (hts _ m_0b5c2741)).2 nm_Whole_isBelow (g := F0 m 126 ls [.long x1, .long x3]) rfl (argsL := [.long x3, .long x1]) (rest := []) rfl rfl (by rw [hb]; exact (xb_d D_Whole_holds 52 rfl))) (ok_Whole_isBelow l hfl D A σ x3 x1 h _ hw) (hml.trans hl.1.symm) (by rw [hb]; exact (xb_d D_Whole_holds 52 rfl)) (Nat.le_of_ble_eq_true rfl) (Nat.le_of_ble_eq_true rfl) (Nat.le_of_ble_eq_true rfl) (show k + 0 ≤ MC by omega) (show n + 0 ≤ MS by omega) (xt_w1 hB.1 m_0b5c2741) (xt_cdOf hB.1 m_0b5c2741) (hts _ m_912e4ef6) hB hR hS hA (fun vv h18 H locs hq hEh18 hR hS => ?_) (fun XX ax h18 H locs hq hEh18 hex hR hS => ?_)
    · obtain ⟨r19, rfl, hw⟩ := hq
      have hw := hw hEh18
      have hE := hE.tr hEh18
      refine W.eq (g2 := F0 m 129 ls [.int r19]) rfl ?_
      refine lv_if_ne (tgt := 136) hx hb (xb_d D_Whole_holds 53 rfl) rfl (fun hc20 => ?_) (fun hc20 => ?_)
      · have hw := hw.1 hc20
        refine lv_iconst (v := 0) hx hb (xb_d D_Whole_holds 56 rfl) (by decide) ?_
        exact am_Whole_holds_L137 l hfl D A σ MC MS h0 Qr 0 h18 hw p e s m args below meth c hC H locs ls k n hE (lv_sub hl [] rfl) hR hS (by omega) (by omega)
      · have hw := hw.2 hc20
        refine lv_iconst (v := 1) hx hb (xb_d D_Whole_holds 54 rfl) (by decide) ?_
        refine lv_goto (tgt := 137) hx hb (xb_d D_Whole_holds 55 rfl) rfl ?_
        exact am_Whole_holds_L137 l hfl D A σ MC MS h0 Qr 1 h18 hw p e s m args below meth c hC H locs ls k n hE (lv_sub hl [] rfl) hR hS (by omega) (by omega)
    · exact False.elim hq
  have hw := hw.2
  by_cases hc21 : x0 = 8
  · have hw := hw.1 hc21
    refine xt_numi hc21 ?_
    refine lv_tableIn (off := 137) (tgt := 138) hx hb (xb_d D_Whole_holds 1 rfl) (by decide +kernel) (by decide +kernel) (by decide +kernel) (by decide) ?_
    refine lv_lload_n hx hb (xb_d D_Whole_holds 58 rfl) rfl (lv_at hl 1 rfl) ?_
    refine lv_lload_n hx hb (xb_d D_Whole_holds 59 rfl) rfl (lv_at hl 2 rfl) ?_
    refine xb_lc_lt (tgt := 148) hx hb (xb_d D_Whole_holds 60 rfl) (xb_d D_Whole_holds 61 rfl) rfl (fun hc22 => ?_) (fun hc22 => ?_)
    · have hw := hw.1 hc22
      refine lv_iconst (v := 0) hx hb (xb_d D_Whole_holds 64 rfl) (by decide) ?_
      exact am_Whole_holds_L149 l hfl D A σ MC MS h0 Qr 0 h hw p e s m args below meth c hC H locs ls k n hE (lv_sub hl [] rfl) hR hS (by omega) (by omega)
    · have hw := hw.2 hc22
      refine lv_iconst (v := 1) hx hb (xb_d D_Whole_holds 62 rfl) (by decide) ?_
      refine lv_goto (tgt := 149) hx hb (xb_d D_Whole_holds 63 rfl) rfl ?_
      exact am_Whole_holds_L149 l hfl D A σ MC MS h0 Qr 1 h hw p e s m args below meth c hC H locs ls k n hE (lv_sub hl [] rfl) hR hS (by omega) (by omega)
  have hw := hw.2
  have hw := hw hc1 hc3 hc5 hc7 hc10 hc12 hc15 hc17 hc21
  refine lv_tableOut (tgt := 150) hx hb (xb_d D_Whole_holds 1 rfl) (by have a0 := xb_nl (0) 0 (by decide) hc1; have a1 := xb_nl (1) 1 (by decide) hc3; have a2 := xb_nl (2) 2 (by decide) hc5; have a3 := xb_nl (3) 3 (by decide) hc7; have a4 := xb_nl (4) 4 (by decide) hc10; have a5 := xb_nl (5) 5 (by decide) hc12; have a6 := xb_nl (6) 6 (by decide) hc15; have a7 := xb_nl (7) 7 (by decide) hc17; have a8 := xb_nl (8) 8 (by decide) hc21; omega) (by decide) ?_
  refine lv_lload_n hx hb (xb_d D_Whole_holds 66 rfl) rfl (lv_at hl 1 rfl) ?_
  refine lv_lload_n hx hb (xb_d D_Whole_holds 67 rfl) rfl (lv_at hl 2 rfl) ?_
  refine xb_call (D := D) (A := A) (σ := σ) (h := h) (d := 2) (mc := 0) (ms := 0) (maxL := 4) (rest := []) (av := [.long x1, .long x3]) (fun T hT X => xt_invS X hx hown (hts _ m_7fedb969) (hts _ m_ed9d4f6c) (hts _ m_912e4ef6) (xt_sgS (hts _ m_0b5c2741)).1 (xt_sgS (hts _ m_0b5c2741)).2 nm_Whole_isBelow (g := F0 m 152 ls [.long x3, .long x1]) rfl (argsL := [.long x1, .long x3]) (rest := []) rfl rfl (by rw [hb]; exact (xb_d D_Whole_holds 68 rfl))) (ok_Whole_isBelow l hfl D A σ x1 x3 h _ hw) (hml.trans hl.1.symm) (by rw [hb]; exact (xb_d D_Whole_holds 68 rfl)) (Nat.le_of_ble_eq_true rfl) (Nat.le_of_ble_eq_true rfl) (Nat.le_of_ble_eq_true rfl) (show k + 0 ≤ MC by omega) (show n + 0 ≤ MS by omega) (xt_w1 hB.1 m_0b5c2741) (xt_cdOf hB.1 m_0b5c2741) (hts _ m_912e4ef6) hB hR hS hA (fun vv h23 H locs hq hEh23 hR hS => ?_) (fun XX ax h23 H locs hq hEh23 hex hR hS => ?_)
  · obtain ⟨r24, rfl, hw⟩ := hq
    have hw := hw hEh23
    have hE := hE.tr hEh23
    refine W.eq (g2 := F0 m 155 ls [.int r24]) rfl ?_
    refine lv_if_ne (tgt := 162) hx hb (xb_d D_Whole_holds 69 rfl) rfl (fun hc25 => ?_) (fun hc25 => ?_)
    · have hw := hw.1 hc25
      refine lv_iconst (v := 0) hx hb (xb_d D_Whole_holds 72 rfl) (by decide) ?_
      exact am_Whole_holds_L163 l hfl D A σ MC MS h0 Qr 0 h23 hw p e s m args below meth c hC H locs ls k n hE (lv_sub hl [] rfl) hR hS (by omega) (by omega)
    · have hw := hw.2 hc25
      refine lv_iconst (v := 1) hx hb (xb_d D_Whole_holds 70 rfl) (by decide) ?_
      refine lv_goto (tgt := 163) hx hb (xb_d D_Whole_holds 71 rfl) rfl ?_
      exact am_Whole_holds_L163 l hfl D A σ MC MS h0 Qr 1 h23 hw p e s m args below meth c hC H locs ls k n hE (lv_sub hl [] rfl) hR hS (by omega) (by omega)
  · exact False.elim hq

theorem m_3062d431 : (.methodLink "StackHost$Whole" 35 y_Whole_divideShort : Cond) ∈ xt_tbl := xt_in (xt_t8 (List.mem_of_getElem? (i := 185) (by decide +kernel))) (by decide +kernel)
theorem m_7d1b207c : (.static y_Whole_divideShort : Cond) ∈ xt_tbl := xt_in (xt_t8 (List.mem_of_getElem? (i := 186) (by decide +kernel))) (by decide +kernel)
theorem m_8ff8adaf : (.code y_Whole_divideShort b_Whole_divideShort 7 (some .int) : Cond) ∈ xt_tbl := xt_in (xt_t8 (List.mem_of_getElem? (i := 187) (by decide +kernel))) (by decide +kernel)
theorem nm_Whole_divideShort : xt_nm y_Whole_divideShort 3 := ⟨by decide +kernel, by decide +kernel⟩
set_option maxRecDepth 100000 in
def T_Whole_reckonShort : List (Nat × Instr × Nat) := [(0, .iload_n 0, 1), (1, .tableswitch 131 0 13 #[71, 75, 79, 83, 83, 83, 83, 98, 102, 106, 110, 114, 118, 122], 71), (72, .iload_n 1, 1), (73, .iload_n 2, 1), (74, .iadd, 1), (75, .ireturn, 1), (76, .iload_n 1, 1), (77, .iload_n 2, 1), (78, .isub, 1), (79, .ireturn, 1), (80, .iload_n 1, 1), (81, .iload_n 2, 1), (82, .imul, 1), (83, .ireturn, 1), (84, .iload_n 2, 1), (85, .ifCond .ne 7, 3), (88, .iconst 0, 1), (89, .goto 9, 3), (92, .iload_n 0, 1), (93, .iload_n 1, 1), (94, .iload_n 2, 1), (95, .invokestatic 35, 3), (98, .ireturn, 1), (99, .iload_n 1, 1), (100, .iload_n 2, 1), (101, .iand, 1), (102, .ireturn, 1), (103, .iload_n 1, 1), (104, .iload_n 2, 1), (105, .ior, 1), (106, .ireturn, 1), (107, .iload_n 1, 1), (108, .iload_n 2, 1), (109, .ixor, 1), (110, .ireturn, 1), (111, .iload_n 1, 1), (112, .iload_n 2, 1), (113, .ishl, 1), (114, .ireturn, 1), (115, .iload_n 1, 1), (116, .iload_n 2, 1), (117, .ishr, 1), (118, .ireturn, 1), (119, .iload_n 1, 1), (120, .iload_n 2, 1), (121, .iushr, 1), (122, .ireturn, 1), (123, .iload_n 1, 1), (124, .iload_n 2, 1), (125, .ishl, 1), (126, .iload_n 1, 1), (127, .iload_n 2, 1), (128, .ineg, 1), (129, .iushr, 1), (130, .ior, 1), (131, .ireturn, 1), (132, .iload_n 1, 1), (133, .iload_n 2, 1), (134, .iushr, 1), (135, .iload_n 1, 1), (136, .iload_n 2, 1), (137, .ineg, 1), (138, .ishl, 1), (139, .ior, 1), (140, .ireturn, 1)]
theorem D_Whole_reckonShort : ∀ q ∈ T_Whole_reckonShort, decode b_Whole_reckonShort q.1 = .ok (q.2.1, q.2.2) := by decide +kernel
def w_Whole_reckonShort_L98 (Qr : Int32 → xb_H → Prop) (y0 : Int32) (h : xb_H) : Prop :=
    Qr y0 h

def w_Whole_reckonShort_L84 (Qr : Int32 → xb_H → Prop) (x0 : Int32) (x1 : Int32) (x2 : Int32) (h : xb_H) : Prop :=
    ((¬ x2 = (0 : Int32) → w_Whole_divideShort x0 x1 x2 h (fun (r3 : Int32) (h2 : xb_H) => xb_ext h h2 → w_Whole_reckonShort_L98 Qr r3 h2)) ∧ (x2 = (0 : Int32) → w_Whole_reckonShort_L98 Qr 0 h))

def w_Whole_reckonShort (x0 : Int32) (x1 : Int32) (x2 : Int32) (h : xb_H) (Qr : Int32 → xb_H → Prop) : Prop :=
    ((x0 = 0 → Qr (x1 + x2) h) ∧ (x0 = 1 → Qr (x1 - x2) h) ∧ (x0 = 2 → Qr (x1 * x2) h) ∧ (x0 = 3 → w_Whole_reckonShort_L84 Qr x0 x1 x2 h) ∧ (x0 = 4 → w_Whole_reckonShort_L84 Qr x0 x1 x2 h) ∧ (x0 = 5 → w_Whole_reckonShort_L84 Qr x0 x1 x2 h) ∧ (x0 = 6 → w_Whole_reckonShort_L84 Qr x0 x1 x2 h) ∧ (x0 = 7 → Qr (x1 &&& x2) h) ∧ (x0 = 8 → Qr (x1 ||| x2) h) ∧ (x0 = 9 → Qr (x1 ^^^ x2) h) ∧ (x0 = 10 → Qr (x1 <<< (x2 &&& 31)) h) ∧ (x0 = 11 → Qr (x1 >>> (x2 &&& 31)) h) ∧ (x0 = 12 → Qr (xb_ushr x1 x2) h) ∧ (x0 = 13 → Qr ((x1 <<< (x2 &&& 31)) ||| (xb_ushr x1 (-x2))) h) ∧ (¬ x0 = 0 → ¬ x0 = 1 → ¬ x0 = 2 → ¬ x0 = 3 → ¬ x0 = 4 → ¬ x0 = 5 → ¬ x0 = 6 → ¬ x0 = 7 → ¬ x0 = 8 → ¬ x0 = 9 → ¬ x0 = 10 → ¬ x0 = 11 → ¬ x0 = 12 → ¬ x0 = 13 → Qr ((xb_ushr x1 x2) ||| (x1 <<< ((-x2) &&& 31))) h))

set_option maxHeartbeats 4000000 in
set_option maxRecDepth 100000 in
theorem am_Whole_reckonShort_L98 (l : Launch) (hfl : l.flags = pinnedFlags ++ [noTraceFlag]) (D : va_G) (A : Nat → Prop) (σ MC MS : Nat) (h0 : xb_H) (Qr : Int32 → xb_H → Prop) (y0 : Int32) (h : xb_H) (hw : w_Whole_reckonShort_L98 Qr y0 h) : xb_am l D A σ 3 MC MS h0 (fun v h => ∃ r, v = some (.int r) ∧ Qr r h) (fun _ _ => False) y_Whole_reckonShort.cls y_Whole_reckonShort.name b_Whole_reckonShort 3 ([] : List ExceptionTableEntry) (some .int) 98 [] [.int y0] h 0 0 := by
  unfold w_Whole_reckonShort_L98 at hw
  intro p e s m args below meth c hC H locs ls k n hE hl hR hS hk hn
  obtain ⟨hx, hb, hown, hlocks, htab, hml, hr, hB, hA, hnm⟩ := id hC
  have hts := hB.1.1.at args
  exact xb_iret hx hb hr hlocks (show k ≤ MC by omega) (show n ≤ MS by omega) hE hR hS (xb_d D_Whole_reckonShort 22 rfl) hw

set_option maxHeartbeats 4000000 in
set_option maxRecDepth 100000 in
theorem am_Whole_reckonShort_L84 (l : Launch) (hfl : l.flags = pinnedFlags ++ [noTraceFlag]) (D : va_G) (A : Nat → Prop) (σ MC MS : Nat) (h0 : xb_H) (Qr : Int32 → xb_H → Prop) (x0 : Int32) (x1 : Int32) (x2 : Int32) (h : xb_H) (hw : w_Whole_reckonShort_L84 Qr x0 x1 x2 h) : xb_am l D A σ 3 MC MS h0 (fun v h => ∃ r, v = some (.int r) ∧ Qr r h) (fun _ _ => False) y_Whole_reckonShort.cls y_Whole_reckonShort.name b_Whole_reckonShort 3 ([] : List ExceptionTableEntry) (some .int) 84 [(0, .int x0), (1, .int x1), (2, .int x2)] [] h 0 0 := by
  unfold w_Whole_reckonShort_L84 at hw
  intro p e s m args below meth c hC H locs ls k n hE hl hR hS hk hn
  obtain ⟨hx, hb, hown, hlocks, htab, hml, hr, hB, hA, hnm⟩ := id hC
  have hts := hB.1.1.at args
  refine lv_iload_n hx hb (xb_d D_Whole_reckonShort 14 rfl) rfl (lv_at hl 2 rfl) ?_
  refine lv_if_ne (tgt := 92) hx hb (xb_d D_Whole_reckonShort 15 rfl) rfl (fun hc1 => ?_) (fun hc1 => ?_)
  · have hw := hw.1 hc1
    refine lv_iload_n hx hb (xb_d D_Whole_reckonShort 18 rfl) rfl (lv_at hl 0 rfl) ?_
    refine lv_iload_n hx hb (xb_d D_Whole_reckonShort 19 rfl) rfl (lv_at hl 1 rfl) ?_
    refine lv_iload_n hx hb (xb_d D_Whole_reckonShort 20 rfl) rfl (lv_at hl 2 rfl) ?_
    refine xb_call (D := D) (A := A) (σ := σ) (h := h) (d := 2) (mc := 0) (ms := 0) (maxL := 7) (rest := []) (av := [.int x0, .int x1, .int x2]) (fun T hT X => xt_invS X hx hown (hts _ m_3062d431) (hts _ m_7d1b207c) (hts _ m_912e4ef6) (xt_sgS (hts _ m_8ff8adaf)).1 (xt_sgS (hts _ m_8ff8adaf)).2 nm_Whole_divideShort (g := F0 m 95 ls [.int x2, .int x1, .int x0]) rfl (argsL := [.int x0, .int x1, .int x2]) (rest := []) rfl rfl (by rw [hb]; exact (xb_d D_Whole_reckonShort 21 rfl))) (ok_Whole_divideShort l hfl D A σ x0 x1 x2 h _ hw) (hml.trans hl.1.symm) (by rw [hb]; exact (xb_d D_Whole_reckonShort 21 rfl)) (Nat.le_of_ble_eq_true rfl) (Nat.le_of_ble_eq_true rfl) (Nat.le_of_ble_eq_true rfl) (show k + 0 ≤ MC by omega) (show n + 0 ≤ MS by omega) (xt_w1 hB.1 m_8ff8adaf) (xt_cdOf hB.1 m_8ff8adaf) (hts _ m_912e4ef6) hB hR hS hA (fun vv h2 H locs hq hEh2 hR hS => ?_) (fun XX ax h2 H locs hq hEh2 hex hR hS => ?_)
    · obtain ⟨r3, rfl, hw⟩ := hq
      have hw := hw hEh2
      have hE := hE.tr hEh2
      refine W.eq (g2 := F0 m 98 ls [.int r3]) rfl ?_
      exact am_Whole_reckonShort_L98 l hfl D A σ MC MS h0 Qr r3 h2 hw p e s m args below meth c hC H locs ls k n hE (lv_sub hl [] rfl) hR hS (by omega) (by omega)
    · exact False.elim hq
  · have hw := hw.2 hc1
    refine lv_iconst (v := 0) hx hb (xb_d D_Whole_reckonShort 16 rfl) (by decide) ?_
    refine lv_goto (tgt := 98) hx hb (xb_d D_Whole_reckonShort 17 rfl) rfl ?_
    exact am_Whole_reckonShort_L98 l hfl D A σ MC MS h0 Qr 0 h hw p e s m args below meth c hC H locs ls k n hE (lv_sub hl [] rfl) hR hS (by omega) (by omega)

set_option maxHeartbeats 4000000 in
set_option maxRecDepth 100000 in
theorem ok_Whole_reckonShort (l : Launch) (hfl : l.flags = pinnedFlags ++ [noTraceFlag]) (D : va_G) (A : Nat → Prop) (σ : Nat) (x0 : Int32) (x1 : Int32) (x2 : Int32) (h : xb_H) (Qr : Int32 → xb_H → Prop) (hw : w_Whole_reckonShort x0 x1 x2 h Qr) : xt_Met l y_Whole_reckonShort [.code y_Whole_reckonShort b_Whole_reckonShort 3 (some .int)] (xb_rm 3 0 0) (xb_Pc D A σ h [.int x0, .int x1, .int x2]) (xb_Qc D A h (fun v h => ∃ r, v = some (.int r) ∧ Qr r h) (fun _ _ => False)) 0 0 A := by
  refine xb_ofAm (cc := b_Whole_reckonShort) (by decide) (Nat.le_of_ble_eq_true rfl) ?_
  unfold w_Whole_reckonShort at hw
  show xb_am l D A σ 3 0 0 h (fun v h => ∃ r, v = some (.int r) ∧ Qr r h) (fun _ _ => False) y_Whole_reckonShort.cls y_Whole_reckonShort.name b_Whole_reckonShort 3 ([] : List ExceptionTableEntry) (some .int) 0 [(0, .int x0), (1, .int x1), (2, .int x2)] [] h 0 0
  obtain ⟨MC, hMC⟩ : ∃ x, x = 0 := ⟨_, rfl⟩
  obtain ⟨MS, hMS⟩ : ∃ x, x = 0 := ⟨_, rfl⟩
  rw [show xb_am l D A σ 3 0 0 = xb_am l D A σ 3 MC MS by rw [hMC, hMS]]
  obtain ⟨h0, hh0⟩ : ∃ x, x = h := ⟨_, rfl⟩
  rw [show xb_am l D A σ 3 MC MS h = xb_am l D A σ 3 MC MS h0 by rw [hh0]]
  intro p e s m args below meth c hC H locs ls k n hE hl hR hS hk hn
  obtain ⟨hx, hb, hown, hlocks, htab, hml, hr, hB, hA, hnm⟩ := id hC
  have hts := hB.1.1.at args
  refine lv_iload_n hx hb (xb_d D_Whole_reckonShort 0 rfl) rfl (lv_at hl 0 rfl) ?_
  by_cases hc1 : x0 = 0
  · have hw := hw.1 hc1
    refine xt_numi hc1 ?_
    refine lv_tableIn (off := 71) (tgt := 72) hx hb (xb_d D_Whole_reckonShort 1 rfl) (by decide +kernel) (by decide +kernel) (by decide +kernel) (by decide) ?_
    refine lv_iload_n hx hb (xb_d D_Whole_reckonShort 2 rfl) rfl (lv_at hl 1 rfl) ?_
    refine lv_iload_n hx hb (xb_d D_Whole_reckonShort 3 rfl) rfl (lv_at hl 2 rfl) ?_
    refine lv_iadd hx hb (xb_d D_Whole_reckonShort 4 rfl) ?_
    exact xb_iret hx hb hr hlocks (show k ≤ MC by omega) (show n ≤ MS by omega) hE hR hS (xb_d D_Whole_reckonShort 5 rfl) hw
  have hw := hw.2
  by_cases hc2 : x0 = 1
  · have hw := hw.1 hc2
    refine xt_numi hc2 ?_
    refine lv_tableIn (off := 75) (tgt := 76) hx hb (xb_d D_Whole_reckonShort 1 rfl) (by decide +kernel) (by decide +kernel) (by decide +kernel) (by decide) ?_
    refine lv_iload_n hx hb (xb_d D_Whole_reckonShort 6 rfl) rfl (lv_at hl 1 rfl) ?_
    refine lv_iload_n hx hb (xb_d D_Whole_reckonShort 7 rfl) rfl (lv_at hl 2 rfl) ?_
    refine lv_isub hx hb (xb_d D_Whole_reckonShort 8 rfl) ?_
    exact xb_iret hx hb hr hlocks (show k ≤ MC by omega) (show n ≤ MS by omega) hE hR hS (xb_d D_Whole_reckonShort 9 rfl) hw
  have hw := hw.2
  by_cases hc3 : x0 = 2
  · have hw := hw.1 hc3
    refine xt_numi hc3 ?_
    refine lv_tableIn (off := 79) (tgt := 80) hx hb (xb_d D_Whole_reckonShort 1 rfl) (by decide +kernel) (by decide +kernel) (by decide +kernel) (by decide) ?_
    refine lv_iload_n hx hb (xb_d D_Whole_reckonShort 10 rfl) rfl (lv_at hl 1 rfl) ?_
    refine lv_iload_n hx hb (xb_d D_Whole_reckonShort 11 rfl) rfl (lv_at hl 2 rfl) ?_
    refine lv_imul hx hb (xb_d D_Whole_reckonShort 12 rfl) ?_
    exact xb_iret hx hb hr hlocks (show k ≤ MC by omega) (show n ≤ MS by omega) hE hR hS (xb_d D_Whole_reckonShort 13 rfl) hw
  have hw := hw.2
  by_cases hc4 : x0 = 3
  · have hw := hw.1 hc4
    refine xt_numi hc4 ?_
    refine lv_tableIn (off := 83) (tgt := 84) hx hb (xb_d D_Whole_reckonShort 1 rfl) (by decide +kernel) (by decide +kernel) (by decide +kernel) (by decide) ?_
    exact am_Whole_reckonShort_L84 l hfl D A σ MC MS h0 Qr x0 x1 x2 h hw p e s m args below meth c hC H locs ls k n hE (lv_sub hl [0, 1, 2] rfl) hR hS (by omega) (by omega)
  have hw := hw.2
  by_cases hc5 : x0 = 4
  · have hw := hw.1 hc5
    refine xt_numi hc5 ?_
    refine lv_tableIn (off := 83) (tgt := 84) hx hb (xb_d D_Whole_reckonShort 1 rfl) (by decide +kernel) (by decide +kernel) (by decide +kernel) (by decide) ?_
    exact am_Whole_reckonShort_L84 l hfl D A σ MC MS h0 Qr x0 x1 x2 h hw p e s m args below meth c hC H locs ls k n hE (lv_sub hl [0, 1, 2] rfl) hR hS (by omega) (by omega)
  have hw := hw.2
  by_cases hc6 : x0 = 5
  · have hw := hw.1 hc6
    refine xt_numi hc6 ?_
    refine lv_tableIn (off := 83) (tgt := 84) hx hb (xb_d D_Whole_reckonShort 1 rfl) (by decide +kernel) (by decide +kernel) (by decide +kernel) (by decide) ?_
    exact am_Whole_reckonShort_L84 l hfl D A σ MC MS h0 Qr x0 x1 x2 h hw p e s m args below meth c hC H locs ls k n hE (lv_sub hl [0, 1, 2] rfl) hR hS (by omega) (by omega)
  have hw := hw.2
  by_cases hc7 : x0 = 6
  · have hw := hw.1 hc7
    refine xt_numi hc7 ?_
    refine lv_tableIn (off := 83) (tgt := 84) hx hb (xb_d D_Whole_reckonShort 1 rfl) (by decide +kernel) (by decide +kernel) (by decide +kernel) (by decide) ?_
    exact am_Whole_reckonShort_L84 l hfl D A σ MC MS h0 Qr x0 x1 x2 h hw p e s m args below meth c hC H locs ls k n hE (lv_sub hl [0, 1, 2] rfl) hR hS (by omega) (by omega)
  have hw := hw.2
  by_cases hc8 : x0 = 7
  · have hw := hw.1 hc8
    refine xt_numi hc8 ?_
    refine lv_tableIn (off := 98) (tgt := 99) hx hb (xb_d D_Whole_reckonShort 1 rfl) (by decide +kernel) (by decide +kernel) (by decide +kernel) (by decide) ?_
    refine lv_iload_n hx hb (xb_d D_Whole_reckonShort 23 rfl) rfl (lv_at hl 1 rfl) ?_
    refine lv_iload_n hx hb (xb_d D_Whole_reckonShort 24 rfl) rfl (lv_at hl 2 rfl) ?_
    refine lv_iand hx hb (xb_d D_Whole_reckonShort 25 rfl) ?_
    exact xb_iret hx hb hr hlocks (show k ≤ MC by omega) (show n ≤ MS by omega) hE hR hS (xb_d D_Whole_reckonShort 26 rfl) hw
  have hw := hw.2
  by_cases hc9 : x0 = 8
  · have hw := hw.1 hc9
    refine xt_numi hc9 ?_
    refine lv_tableIn (off := 102) (tgt := 103) hx hb (xb_d D_Whole_reckonShort 1 rfl) (by decide +kernel) (by decide +kernel) (by decide +kernel) (by decide) ?_
    refine lv_iload_n hx hb (xb_d D_Whole_reckonShort 27 rfl) rfl (lv_at hl 1 rfl) ?_
    refine lv_iload_n hx hb (xb_d D_Whole_reckonShort 28 rfl) rfl (lv_at hl 2 rfl) ?_
    refine lv_ior hx hb (xb_d D_Whole_reckonShort 29 rfl) ?_
    exact xb_iret hx hb hr hlocks (show k ≤ MC by omega) (show n ≤ MS by omega) hE hR hS (xb_d D_Whole_reckonShort 30 rfl) hw
  have hw := hw.2
  by_cases hc10 : x0 = 9
  · have hw := hw.1 hc10
    refine xt_numi hc10 ?_
    refine lv_tableIn (off := 106) (tgt := 107) hx hb (xb_d D_Whole_reckonShort 1 rfl) (by decide +kernel) (by decide +kernel) (by decide +kernel) (by decide) ?_
    refine lv_iload_n hx hb (xb_d D_Whole_reckonShort 31 rfl) rfl (lv_at hl 1 rfl) ?_
    refine lv_iload_n hx hb (xb_d D_Whole_reckonShort 32 rfl) rfl (lv_at hl 2 rfl) ?_
    refine lv_ixor hx hb (xb_d D_Whole_reckonShort 33 rfl) ?_
    exact xb_iret hx hb hr hlocks (show k ≤ MC by omega) (show n ≤ MS by omega) hE hR hS (xb_d D_Whole_reckonShort 34 rfl) hw
  have hw := hw.2
  by_cases hc11 : x0 = 10
  · have hw := hw.1 hc11
    refine xt_numi hc11 ?_
    refine lv_tableIn (off := 110) (tgt := 111) hx hb (xb_d D_Whole_reckonShort 1 rfl) (by decide +kernel) (by decide +kernel) (by decide +kernel) (by decide) ?_
    refine lv_iload_n hx hb (xb_d D_Whole_reckonShort 35 rfl) rfl (lv_at hl 1 rfl) ?_
    refine lv_iload_n hx hb (xb_d D_Whole_reckonShort 36 rfl) rfl (lv_at hl 2 rfl) ?_
    refine lv_ishl hx hb (xb_d D_Whole_reckonShort 37 rfl) ?_
    exact xb_iret hx hb hr hlocks (show k ≤ MC by omega) (show n ≤ MS by omega) hE hR hS (xb_d D_Whole_reckonShort 38 rfl) hw
  have hw := hw.2
  by_cases hc12 : x0 = 11
  · have hw := hw.1 hc12
    refine xt_numi hc12 ?_
    refine lv_tableIn (off := 114) (tgt := 115) hx hb (xb_d D_Whole_reckonShort 1 rfl) (by decide +kernel) (by decide +kernel) (by decide +kernel) (by decide) ?_
    refine lv_iload_n hx hb (xb_d D_Whole_reckonShort 39 rfl) rfl (lv_at hl 1 rfl) ?_
    refine lv_iload_n hx hb (xb_d D_Whole_reckonShort 40 rfl) rfl (lv_at hl 2 rfl) ?_
    refine lv_ishr hx hb (xb_d D_Whole_reckonShort 41 rfl) ?_
    exact xb_iret hx hb hr hlocks (show k ≤ MC by omega) (show n ≤ MS by omega) hE hR hS (xb_d D_Whole_reckonShort 42 rfl) hw
  have hw := hw.2
  by_cases hc13 : x0 = 12
  · have hw := hw.1 hc13
    refine xt_numi hc13 ?_
    refine lv_tableIn (off := 118) (tgt := 119) hx hb (xb_d D_Whole_reckonShort 1 rfl) (by decide +kernel) (by decide +kernel) (by decide +kernel) (by decide) ?_
    refine lv_iload_n hx hb (xb_d D_Whole_reckonShort 43 rfl) rfl (lv_at hl 1 rfl) ?_
    refine lv_iload_n hx hb (xb_d D_Whole_reckonShort 44 rfl) rfl (lv_at hl 2 rfl) ?_
    refine lv_iushr (v := xb_ushr x1 x2) hx hb (xb_d D_Whole_reckonShort 45 rfl) rfl ?_
    exact xb_iret hx hb hr hlocks (show k ≤ MC by omega) (show n ≤ MS by omega) hE hR hS (xb_d D_Whole_reckonShort 46 rfl) hw
  have hw := hw.2
  by_cases hc14 : x0 = 13
  · have hw := hw.1 hc14
    refine xt_numi hc14 ?_
    refine lv_tableIn (off := 122) (tgt := 123) hx hb (xb_d D_Whole_reckonShort 1 rfl) (by decide +kernel) (by decide +kernel) (by decide +kernel) (by decide) ?_
    refine lv_iload_n hx hb (xb_d D_Whole_reckonShort 47 rfl) rfl (lv_at hl 1 rfl) ?_
    refine lv_iload_n hx hb (xb_d D_Whole_reckonShort 48 rfl) rfl (lv_at hl 2 rfl) ?_
    refine lv_ishl hx hb (xb_d D_Whole_reckonShort 49 rfl) ?_
    refine lv_iload_n hx hb (xb_d D_Whole_reckonShort 50 rfl) rfl (lv_at hl 1 rfl) ?_
    refine lv_iload_n hx hb (xb_d D_Whole_reckonShort 51 rfl) rfl (lv_at hl 2 rfl) ?_
    refine lv_ineg hx hb (xb_d D_Whole_reckonShort 52 rfl) ?_
    refine lv_iushr (v := xb_ushr x1 (-x2)) hx hb (xb_d D_Whole_reckonShort 53 rfl) rfl ?_
    refine lv_ior hx hb (xb_d D_Whole_reckonShort 54 rfl) ?_
    exact xb_iret hx hb hr hlocks (show k ≤ MC by omega) (show n ≤ MS by omega) hE hR hS (xb_d D_Whole_reckonShort 55 rfl) hw
  have hw := hw.2
  have hw := hw hc1 hc2 hc3 hc4 hc5 hc6 hc7 hc8 hc9 hc10 hc11 hc12 hc13 hc14
  refine lv_tableOut (tgt := 132) hx hb (xb_d D_Whole_reckonShort 1 rfl) (by have a0 := xb_nl (0) 0 (by decide) hc1; have a1 := xb_nl (1) 1 (by decide) hc2; have a2 := xb_nl (2) 2 (by decide) hc3; have a3 := xb_nl (3) 3 (by decide) hc4; have a4 := xb_nl (4) 4 (by decide) hc5; have a5 := xb_nl (5) 5 (by decide) hc6; have a6 := xb_nl (6) 6 (by decide) hc7; have a7 := xb_nl (7) 7 (by decide) hc8; have a8 := xb_nl (8) 8 (by decide) hc9; have a9 := xb_nl (9) 9 (by decide) hc10; have a10 := xb_nl (10) 10 (by decide) hc11; have a11 := xb_nl (11) 11 (by decide) hc12; have a12 := xb_nl (12) 12 (by decide) hc13; have a13 := xb_nl (13) 13 (by decide) hc14; omega) (by decide) ?_
  refine lv_iload_n hx hb (xb_d D_Whole_reckonShort 56 rfl) rfl (lv_at hl 1 rfl) ?_
  refine lv_iload_n hx hb (xb_d D_Whole_reckonShort 57 rfl) rfl (lv_at hl 2 rfl) ?_
  refine lv_iushr (v := xb_ushr x1 x2) hx hb (xb_d D_Whole_reckonShort 58 rfl) rfl ?_
  refine lv_iload_n hx hb (xb_d D_Whole_reckonShort 59 rfl) rfl (lv_at hl 1 rfl) ?_
  refine lv_iload_n hx hb (xb_d D_Whole_reckonShort 60 rfl) rfl (lv_at hl 2 rfl) ?_
  refine lv_ineg hx hb (xb_d D_Whole_reckonShort 61 rfl) ?_
  refine lv_ishl hx hb (xb_d D_Whole_reckonShort 62 rfl) ?_
  refine lv_ior hx hb (xb_d D_Whole_reckonShort 63 rfl) ?_
  exact xb_iret hx hb hr hlocks (show k ≤ MC by omega) (show n ≤ MS by omega) hE hR hS (xb_d D_Whole_reckonShort 64 rfl) hw

theorem m_dcca9f4a : (.methodLink "StackHost$World" 3 objectInit : Cond) ∈ xt_tbl := xt_in (xt_t1 (List.mem_of_getElem? (i := 135) (by decide +kernel))) (by decide +kernel)
theorem m_4febb130 : (.classLink "StackHost$World" 9 "StackHost$Instance" : Cond) ∈ xt_tbl := xt_in (xt_t1 (List.mem_of_getElem? (i := 136) (by decide +kernel))) (by decide +kernel)
theorem m_9c6eb8e2 : (.arrayOver (.object "StackHost$Instance") : Cond) ∈ xt_tbl := xt_in (xt_t1 (List.mem_of_getElem? (i := 137) (by decide +kernel))) (by decide +kernel)
theorem m_7dbedc06 : (.fieldLink "StackHost$World" 11 "StackHost$World" "instances" "[LStackHost$Instance;" : Cond) ∈ xt_tbl := xt_in (xt_t1 (List.mem_of_getElem? (i := 164) (by decide +kernel))) (by decide +kernel)
theorem m_8d4a4f67 : (.classLink "StackHost$World" 17 "StackHost$Row" : Cond) ∈ xt_tbl := xt_in (xt_t1 (List.mem_of_getElem? (i := 138) (by decide +kernel))) (by decide +kernel)
theorem m_8928fe01 : (.methodLink "StackHost$World" 19 y_Row_init : Cond) ∈ xt_tbl := xt_in (xt_t1 (List.mem_of_getElem? (i := 140) (by decide +kernel))) (by decide +kernel)
theorem m_2d976539 : (.fieldLink "StackHost$World" 22 "StackHost$World" "owners" "LStackHost$Row;" : Cond) ∈ xt_tbl := xt_in (xt_t1 (List.mem_of_getElem? (i := 169) (by decide +kernel))) (by decide +kernel)
theorem m_61bedde9 : (.fieldLink "StackHost$World" 26 "StackHost$World" "variables" "LStackHost$Row;" : Cond) ∈ xt_tbl := xt_in (xt_t1 (List.mem_of_getElem? (i := 171) (by decide +kernel))) (by decide +kernel)
theorem m_1ef9f414 : (.fieldLink "StackHost$World" 29 "StackHost$World" "elements" "LStackHost$Row;" : Cond) ∈ xt_tbl := xt_in (xt_t1 (List.mem_of_getElem? (i := 175) (by decide +kernel))) (by decide +kernel)
theorem m_c974f8d4 : (.fieldLink "StackHost$World" 35 "StackHost$World" "out" "LStackHost$Row;" : Cond) ∈ xt_tbl := xt_in (xt_t1 (List.mem_of_getElem? (i := 179) (by decide +kernel))) (by decide +kernel)
theorem m_99b823f6 : (.fieldLink "StackHost$World" 38 "StackHost$World" "names" "LStackHost$Row;" : Cond) ∈ xt_tbl := xt_in (xt_t1 (List.mem_of_getElem? (i := 186) (by decide +kernel))) (by decide +kernel)
theorem m_fb6c2688 : (.fieldLink "StackHost$World" 41 "StackHost$World" "nameBytes" "[B" : Cond) ∈ xt_tbl := xt_in (xt_t1 (List.mem_of_getElem? (i := 187) (by decide +kernel))) (by decide +kernel)
theorem m_62e44650 : (.fieldLink "StackHost$World" 45 "StackHost$World" "foundFunctions" "LStackHost$Row;" : Cond) ∈ xt_tbl := xt_in (xt_t1 (List.mem_of_getElem? (i := 190) (by decide +kernel))) (by decide +kernel)
theorem m_808dc970 : (.fieldLink "StackHost$World" 48 "StackHost$World" "foundVariables" "LStackHost$Row;" : Cond) ∈ xt_tbl := xt_in (xt_t1 (List.mem_of_getElem? (i := 192) (by decide +kernel))) (by decide +kernel)
set_option maxRecDepth 100000 in
def T_World_init : List (Nat × Instr × Nat) := [(0, .aload_n 0, 1), (1, .invokespecial 3, 3), (4, .aload_n 0, 1), (5, .bipush 24, 2), (7, .anewarray 9, 3), (10, .putfield 11, 3), (13, .aload_n 0, 1), (14, .new 17, 3), (17, .dup, 1), (18, .iconst 1, 1), (19, .invokespecial 19, 3), (22, .putfield 22, 3), (25, .aload_n 0, 1), (26, .new 17, 3), (29, .dup, 1), (30, .iconst 1, 1), (31, .invokespecial 19, 3), (34, .putfield 26, 3), (37, .aload_n 0, 1), (38, .new 17, 3), (41, .dup, 1), (42, .iconst 1, 1), (43, .invokespecial 19, 3), (46, .putfield 29, 3), (49, .aload_n 0, 1), (50, .new 17, 3), (53, .dup, 1), (54, .iconst 1, 1), (55, .invokespecial 19, 3), (58, .putfield 32, 3), (61, .aload_n 0, 1), (62, .new 17, 3), (65, .dup, 1), (66, .iconst 1, 1), (67, .invokespecial 19, 3), (70, .putfield 35, 3), (73, .aload_n 0, 1), (74, .new 17, 3), (77, .dup, 1), (78, .iconst 3, 1), (79, .invokespecial 19, 3), (82, .putfield 38, 3), (85, .aload_n 0, 1), (86, .bipush 16, 2), (88, .newarray .byte, 2), (90, .putfield 41, 3), (93, .aload_n 0, 1), (94, .new 17, 3), (97, .dup, 1), (98, .iconst 1, 1), (99, .invokespecial 19, 3), (102, .putfield 45, 3), (105, .aload_n 0, 1), (106, .new 17, 3), (109, .dup, 1), (110, .iconst 1, 1), (111, .invokespecial 19, 3), (114, .putfield 48, 3), (117, .return_, 1)]
theorem D_World_init : ∀ q ∈ T_World_init, decode b_World_init q.1 = .ok (q.2.1, q.2.2) := by decide +kernel
def w_World_init (x0 : Nat) (h : xb_H) (bc : Nat) (bs : Nat) (Qr : xb_H → Prop) : Prop :=
    1 ≤ bc ∧ 24 ≤ bs ∧ ∀ q1 : Nat, xb_k h q1 = 0 → ∀ h2 : xb_H, h2 = xb_new h q1 105 24 → xb_k h2 x0 = 7 ∧ ∀ h5 : xb_H, h5 = xb_P h2 x0 0 (some q1) → 1 ≤ (bc - 1) ∧ 3 ≤ (bs - 24) ∧ ∀ q6 : Nat, xb_k h5 q6 = 0 → ∀ h7 : xb_H, h7 = xb_new h5 q6 2 0 → ∃ c11 sc11 : Nat, c11 ≤ ((bc - 1) - 1) ∧ sc11 ≤ ((bs - 24) - 3) ∧ w_Row_init q6 1 h7 c11 sc11 (fun (h9 : xb_H) => xb_ext h7 h9 → ∀ h12 : xb_H, h12 = xb_P h9 x0 2 (some q6) → 1 ≤ (((bc - 1) - 1) - c11) ∧ 3 ≤ (((bs - 24) - 3) - sc11) ∧ ∀ q13 : Nat, xb_k h12 q13 = 0 → ∀ h14 : xb_H, h14 = xb_new h12 q13 2 0 → ∃ c18 sc18 : Nat, c18 ≤ ((((bc - 1) - 1) - c11) - 1) ∧ sc18 ≤ ((((bs - 24) - 3) - sc11) - 3) ∧ w_Row_init q13 1 h14 c18 sc18 (fun (h16 : xb_H) => xb_ext h14 h16 → ∀ h19 : xb_H, h19 = xb_P h16 x0 3 (some q13) → 1 ≤ (((((bc - 1) - 1) - c11) - 1) - c18) ∧ 3 ≤ (((((bs - 24) - 3) - sc11) - 3) - sc18) ∧ ∀ q20 : Nat, xb_k h19 q20 = 0 → ∀ h21 : xb_H, h21 = xb_new h19 q20 2 0 → ∃ c25 sc25 : Nat, c25 ≤ ((((((bc - 1) - 1) - c11) - 1) - c18) - 1) ∧ sc25 ≤ ((((((bs - 24) - 3) - sc11) - 3) - sc18) - 3) ∧ w_Row_init q20 1 h21 c25 sc25 (fun (h23 : xb_H) => xb_ext h21 h23 → ∀ h26 : xb_H, h26 = xb_P h23 x0 4 (some q20) → 1 ≤ (((((((bc - 1) - 1) - c11) - 1) - c18) - 1) - c25) ∧ 3 ≤ (((((((bs - 24) - 3) - sc11) - 3) - sc18) - 3) - sc25) ∧ ∀ q27 : Nat, xb_k h26 q27 = 0 → ∀ h28 : xb_H, h28 = xb_new h26 q27 2 0 → ∃ c32 sc32 : Nat, c32 ≤ ((((((((bc - 1) - 1) - c11) - 1) - c18) - 1) - c25) - 1) ∧ sc32 ≤ ((((((((bs - 24) - 3) - sc11) - 3) - sc18) - 3) - sc25) - 3) ∧ w_Row_init q27 1 h28 c32 sc32 (fun (h30 : xb_H) => xb_ext h28 h30 → ∀ h33 : xb_H, h33 = xb_P h30 x0 5 (some q27) → 1 ≤ (((((((((bc - 1) - 1) - c11) - 1) - c18) - 1) - c25) - 1) - c32) ∧ 3 ≤ (((((((((bs - 24) - 3) - sc11) - 3) - sc18) - 3) - sc25) - 3) - sc32) ∧ ∀ q34 : Nat, xb_k h33 q34 = 0 → ∀ h35 : xb_H, h35 = xb_new h33 q34 2 0 → ∃ c39 sc39 : Nat, c39 ≤ ((((((((((bc - 1) - 1) - c11) - 1) - c18) - 1) - c25) - 1) - c32) - 1) ∧ sc39 ≤ ((((((((((bs - 24) - 3) - sc11) - 3) - sc18) - 3) - sc25) - 3) - sc32) - 3) ∧ w_Row_init q34 1 h35 c39 sc39 (fun (h37 : xb_H) => xb_ext h35 h37 → ∀ h40 : xb_H, h40 = xb_P h37 x0 6 (some q34) → 1 ≤ (((((((((((bc - 1) - 1) - c11) - 1) - c18) - 1) - c25) - 1) - c32) - 1) - c39) ∧ 3 ≤ (((((((((((bs - 24) - 3) - sc11) - 3) - sc18) - 3) - sc25) - 3) - sc32) - 3) - sc39) ∧ ∀ q41 : Nat, xb_k h40 q41 = 0 → ∀ h42 : xb_H, h42 = xb_new h40 q41 2 0 → ∃ c46 sc46 : Nat, c46 ≤ ((((((((((((bc - 1) - 1) - c11) - 1) - c18) - 1) - c25) - 1) - c32) - 1) - c39) - 1) ∧ sc46 ≤ ((((((((((((bs - 24) - 3) - sc11) - 3) - sc18) - 3) - sc25) - 3) - sc32) - 3) - sc39) - 3) ∧ w_Row_init q41 3 h42 c46 sc46 (fun (h44 : xb_H) => xb_ext h42 h44 → ∀ h47 : xb_H, h47 = xb_P h44 x0 9 (some q41) → 1 ≤ (((((((((((((bc - 1) - 1) - c11) - 1) - c18) - 1) - c25) - 1) - c32) - 1) - c39) - 1) - c46) ∧ 16 ≤ (((((((((((((bs - 24) - 3) - sc11) - 3) - sc18) - 3) - sc25) - 3) - sc32) - 3) - sc39) - 3) - sc46) ∧ ∀ q48 : Nat, xb_k h47 q48 = 0 → ∀ h49 : xb_H, h49 = xb_new h47 q48 100 16 → ∀ h51 : xb_H, h51 = xb_P h49 x0 10 (some q48) → 1 ≤ ((((((((((((((bc - 1) - 1) - c11) - 1) - c18) - 1) - c25) - 1) - c32) - 1) - c39) - 1) - c46) - 1) ∧ 3 ≤ ((((((((((((((bs - 24) - 3) - sc11) - 3) - sc18) - 3) - sc25) - 3) - sc32) - 3) - sc39) - 3) - sc46) - 16) ∧ ∀ q52 : Nat, xb_k h51 q52 = 0 → ∀ h53 : xb_H, h53 = xb_new h51 q52 2 0 → ∃ c57 sc57 : Nat, c57 ≤ (((((((((((((((bc - 1) - 1) - c11) - 1) - c18) - 1) - c25) - 1) - c32) - 1) - c39) - 1) - c46) - 1) - 1) ∧ sc57 ≤ (((((((((((((((bs - 24) - 3) - sc11) - 3) - sc18) - 3) - sc25) - 3) - sc32) - 3) - sc39) - 3) - sc46) - 16) - 3) ∧ w_Row_init q52 1 h53 c57 sc57 (fun (h55 : xb_H) => xb_ext h53 h55 → ∀ h58 : xb_H, h58 = xb_P h55 x0 12 (some q52) → 1 ≤ ((((((((((((((((bc - 1) - 1) - c11) - 1) - c18) - 1) - c25) - 1) - c32) - 1) - c39) - 1) - c46) - 1) - 1) - c57) ∧ 3 ≤ ((((((((((((((((bs - 24) - 3) - sc11) - 3) - sc18) - 3) - sc25) - 3) - sc32) - 3) - sc39) - 3) - sc46) - 16) - 3) - sc57) ∧ ∀ q59 : Nat, xb_k h58 q59 = 0 → ∀ h60 : xb_H, h60 = xb_new h58 q59 2 0 → ∃ c64 sc64 : Nat, c64 ≤ (((((((((((((((((bc - 1) - 1) - c11) - 1) - c18) - 1) - c25) - 1) - c32) - 1) - c39) - 1) - c46) - 1) - 1) - c57) - 1) ∧ sc64 ≤ (((((((((((((((((bs - 24) - 3) - sc11) - 3) - sc18) - 3) - sc25) - 3) - sc32) - 3) - sc39) - 3) - sc46) - 16) - 3) - sc57) - 3) ∧ w_Row_init q59 1 h60 c64 sc64 (fun (h62 : xb_H) => xb_ext h60 h62 → ∀ h65 : xb_H, h65 = xb_P h62 x0 13 (some q59) → Qr h65))))))))

set_option maxHeartbeats 4000000 in
set_option maxRecDepth 100000 in
theorem ok_World_init (l : Launch) (hfl : l.flags = pinnedFlags ++ [noTraceFlag]) (D : va_G) (A : Nat → Prop) (σ : Nat) (x0 : Nat) (h : xb_H) (bc : Nat) (bs : Nat) (Qr : xb_H → Prop) (hw : w_World_init x0 h bc bs Qr) : xt_Met l y_World_init [.code y_World_init b_World_init 1 none] (xb_rm 3 bc bs) (xb_Pc D A σ h [.ref x0]) (xb_Qc D A h (fun v h => v = none ∧ Qr h) (fun _ _ => False)) bc bs A := by
  refine xb_ofAm (cc := b_World_init) (by decide) (Nat.le_of_ble_eq_true rfl) ?_
  unfold w_World_init at hw
  show xb_am l D A σ 3 bc bs h (fun v h => v = none ∧ Qr h) (fun _ _ => False) y_World_init.cls y_World_init.name b_World_init 1 ([] : List ExceptionTableEntry) none 0 [(0, .ref x0)] [] h bc bs
  obtain ⟨MC, hMC⟩ : ∃ x, x = bc := ⟨_, rfl⟩
  obtain ⟨MS, hMS⟩ : ∃ x, x = bs := ⟨_, rfl⟩
  rw [show xb_am l D A σ 3 bc bs = xb_am l D A σ 3 MC MS by rw [hMC, hMS]]
  obtain ⟨h0, hh0⟩ : ∃ x, x = h := ⟨_, rfl⟩
  rw [show xb_am l D A σ 3 MC MS h = xb_am l D A σ 3 MC MS h0 by rw [hh0]]
  intro p e s m args below meth c hC H locs ls k n hE hl hR hS hk hn
  obtain ⟨hx, hb, hown, hlocks, htab, hml, hr, hB, hA, hnm⟩ := id hC
  have hts := hB.1.1.at args
  refine lv_aload_n hx hb (xb_d D_World_init 0 rfl) rfl (lv_at hl 0 rfl) ?_
  refine W.objInit hx hb hown (hts _ m_dcca9f4a) (hts _ m_fba9d542) (hts _ m_9febdb7e) rfl (hml.trans hl.1.symm).symm rfl (xb_d D_World_init 1 rfl) (by show 1 ≤ 8 + _; omega) (Nat.le_trans (Nat.le_of_ble_eq_true rfl : _ ≤ 40) (by show 40 ≤ 120 + _; omega)) ?_
  refine W.eq (g2 := F0 m 4 ls []) rfl ?_
  refine lv_aload_n hx hb (xb_d D_World_init 2 rfl) rfl (lv_at hl 0 rfl) ?_
  refine lv_bipush (v := 24) hx hb (xb_d D_World_init 3 rfl) (by decide) ?_
  obtain ⟨hcq1, hsq1, hw⟩ := hw
  have enq1 : (24 : Int32).toNatClampNeg = 24 := by decide
  refine xb_newq105 hx hb hown (hts _ m_4febb130) (va_AO.of (hts _ m_9c6eb8e2)) hR hS hA (by decide) (by decide +kernel) (show k + 1 ≤ MC by omega) (show n + _ ≤ MS by rw [enq1]; omega) (xb_d D_World_init 4 rfl) (fun q1 H hqq1 hR hS => ?_)
  rw [enq1] at hR ⊢
  have hw := hw q1 hqq1
  obtain ⟨h2, eh2⟩ : ∃ x : xb_H, x = xb_new h q1 105 24 := ⟨_, rfl⟩
  rw [← eh2] at hR
  have hw := hw h2 eh2
  have hE : xb_ext h0 h2 := by rw [eh2]; exact hE.new _ _ hqq1
  have hk3 : xb_k h2 q1 = 105 := by rw [eh2]; exact xb_new_k _ _ _ _
  obtain ⟨hk4, hw⟩ := hw
  refine xb_putPF (C := R_World) (T := F_World) (N := 16) (ty := .array (.object "StackHost$Instance")) (x := (some q1)) hx hb 6 0 hts fin_World t_World t_World_ok n_World hown hR hS hk4 (by decide) rfl (by decide) rfl (hts _ m_7dbedc06) (fun _ h9 => h9) rfl hnm rfl (by decide +kernel) (xb_pnA _ _).1 (xb_pnA _ _).2 (xb_d D_World_init 5 rfl) (fun H locs hR hS => ?_)
  obtain ⟨h5, eh5⟩ : ∃ x : xb_H, x = xb_P h2 x0 0 (some q1) := ⟨_, rfl⟩
  rw [← eh5] at hR
  have hw := hw h5 eh5
  have hE : xb_ext h0 h5 := by rw [eh5]; exact hE
  refine lv_aload_n hx hb (xb_d D_World_init 6 rfl) rfl (lv_at hl 0 rfl) ?_
  obtain ⟨hcq6, hsq6, hw⟩ := hw
  refine xb_newo (C := R_Row) (T := F_Row) (N := 3) hx hb 1 hts fin_Row t_Row t_Row_ok hown (hts _ m_8d4a4f67) (hts _ m_decbd935) (hts _ m_c1bef504) hR hS hA (by decide) rfl dg_Row (show (k + 1) + 1 ≤ MC by omega) (show (n + 24) + 3 ≤ MS by omega) (xb_d D_World_init 7 rfl) (fun q6 H hqq6 hR hS => ?_)
  have hw := hw q6 hqq6
  obtain ⟨h7, eh7⟩ : ∃ x : xb_H, x = xb_new h5 q6 2 0 := ⟨_, rfl⟩
  rw [← eh7] at hR
  have hw := hw h7 eh7
  have hE : xb_ext h0 h7 := by rw [eh7]; exact hE.new _ _ hqq6
  have hk8 : xb_k h7 q6 = 2 := by rw [eh7]; exact xb_new_k _ _ _ _
  refine lv_dup hx hb (xb_d D_World_init 8 rfl) rfl ?_
  refine lv_iconst (v := 1) hx hb (xb_d D_World_init 9 rfl) (by decide) ?_
  obtain ⟨c11, sc11, hlc11, hlsc11, hw⟩ := hw
  refine xb_call (D := D) (A := A) (σ := σ) (h := h7) (d := 2) (mc := c11) (ms := sc11) (maxL := 2) (rest := [.ref q6, .ref x0]) (av := [.ref q6, .int 1]) (fun T hT X => xt_invI X hx hown rfl (hts _ m_8928fe01) (hts _ m_16ca0e9f) (hts _ m_3d9e18a6) nm_Row_init (g := F0 m 19 ls [.int 1, .ref q6, .ref q6, .ref x0]) rfl (b := q6) (argsL := [.int 1]) (rest := [.ref q6, .ref x0]) rfl rfl (by rw [hb]; exact (xb_d D_World_init 10 rfl))) (ok_Row_init l hfl D A σ q6 1 h7 c11 sc11 _ hw) (hml.trans hl.1.symm) (by rw [hb]; exact (xb_d D_World_init 10 rfl)) (Nat.le_of_ble_eq_true rfl) (Nat.le_of_ble_eq_true rfl) (Nat.le_of_ble_eq_true rfl) (show ((k + 1) + 1) + c11 ≤ MC by omega) (show ((n + 24) + 3) + sc11 ≤ MS by omega) (xt_w1 hB.1 m_3d9e18a6) (xt_cdOf hB.1 m_3d9e18a6) (hts _ m_c1bef504) hB hR hS hA (fun vv h9 H locs hq hEh9 hR hS => ?_) (fun XX ax h9 H locs hq hEh9 hex hR hS => ?_)
  · obtain ⟨rfl, hw⟩ := hq
    have hw := hw hEh9
    have hE := hE.tr hEh9
    refine W.eq (g2 := F0 m 22 ls [.ref q6, .ref x0]) rfl ?_
    have hk4 : xb_k h5 x0 = 7 := by rw [eh5]; exact hk4
    have hk4 : xb_k h7 x0 = 7 := by rw [eh7]; exact xb_nk hqq6 hk4
    have hk4 : xb_k h9 x0 = 7 := hEh9.k hk4
    refine xb_putPF (C := R_World) (T := F_World) (N := 16) (ty := .object "StackHost$Row") (x := (some q6)) hx hb 6 2 hts fin_World t_World t_World_ok n_World hown hR hS hk4 (by decide) rfl (by decide) rfl (hts _ m_2d976539) (fun _ h9 => h9) rfl hnm rfl (by decide +kernel) (xb_pnO _ _).1 (xb_pnO _ _).2 (xb_d D_World_init 11 rfl) (fun H locs hR hS => ?_)
    obtain ⟨h12, eh12⟩ : ∃ x : xb_H, x = xb_P h9 x0 2 (some q6) := ⟨_, rfl⟩
    rw [← eh12] at hR
    have hw := hw h12 eh12
    have hE : xb_ext h0 h12 := by rw [eh12]; exact hE
    refine lv_aload_n hx hb (xb_d D_World_init 12 rfl) rfl (lv_at hl 0 rfl) ?_
    obtain ⟨hcq13, hsq13, hw⟩ := hw
    refine xb_newo (C := R_Row) (T := F_Row) (N := 3) hx hb 1 hts fin_Row t_Row t_Row_ok hown (hts _ m_8d4a4f67) (hts _ m_decbd935) (hts _ m_c1bef504) hR hS hA (by decide) rfl dg_Row (show (((k + 1) + 1) + c11) + 1 ≤ MC by omega) (show (((n + 24) + 3) + sc11) + 3 ≤ MS by omega) (xb_d D_World_init 13 rfl) (fun q13 H hqq13 hR hS => ?_)
    have hw := hw q13 hqq13
    obtain ⟨h14, eh14⟩ : ∃ x : xb_H, x = xb_new h12 q13 2 0 := ⟨_, rfl⟩
    rw [← eh14] at hR
    have hw := hw h14 eh14
    have hE : xb_ext h0 h14 := by rw [eh14]; exact hE.new _ _ hqq13
    have hk15 : xb_k h14 q13 = 2 := by rw [eh14]; exact xb_new_k _ _ _ _
    refine lv_dup hx hb (xb_d D_World_init 14 rfl) rfl ?_
    refine lv_iconst (v := 1) hx hb (xb_d D_World_init 15 rfl) (by decide) ?_
    obtain ⟨c18, sc18, hlc18, hlsc18, hw⟩ := hw
    refine xb_call (D := D) (A := A) (σ := σ) (h := h14) (d := 2) (mc := c18) (ms := sc18) (maxL := 2) (rest := [.ref q13, .ref x0]) (av := [.ref q13, .int 1]) (fun T hT X => xt_invI X hx hown rfl (hts _ m_8928fe01) (hts _ m_16ca0e9f) (hts _ m_3d9e18a6) nm_Row_init (g := F0 m 31 ls [.int 1, .ref q13, .ref q13, .ref x0]) rfl (b := q13) (argsL := [.int 1]) (rest := [.ref q13, .ref x0]) rfl rfl (by rw [hb]; exact (xb_d D_World_init 16 rfl))) (ok_Row_init l hfl D A σ q13 1 h14 c18 sc18 _ hw) (hml.trans hl.1.symm) (by rw [hb]; exact (xb_d D_World_init 16 rfl)) (Nat.le_of_ble_eq_true rfl) (Nat.le_of_ble_eq_true rfl) (Nat.le_of_ble_eq_true rfl) (show ((((k + 1) + 1) + c11) + 1) + c18 ≤ MC by omega) (show ((((n + 24) + 3) + sc11) + 3) + sc18 ≤ MS by omega) (xt_w1 hB.1 m_3d9e18a6) (xt_cdOf hB.1 m_3d9e18a6) (hts _ m_c1bef504) hB hR hS hA (fun vv h16 H locs hq hEh16 hR hS => ?_) (fun XX ax h16 H locs hq hEh16 hex hR hS => ?_)
    · obtain ⟨rfl, hw⟩ := hq
      have hw := hw hEh16
      have hE := hE.tr hEh16
      refine W.eq (g2 := F0 m 34 ls [.ref q13, .ref x0]) rfl ?_
      have hk4 : xb_k h12 x0 = 7 := by rw [eh12]; exact hk4
      have hk4 : xb_k h14 x0 = 7 := by rw [eh14]; exact xb_nk hqq13 hk4
      have hk4 : xb_k h16 x0 = 7 := hEh16.k hk4
      refine xb_putPF (C := R_World) (T := F_World) (N := 16) (ty := .object "StackHost$Row") (x := (some q13)) hx hb 6 3 hts fin_World t_World t_World_ok n_World hown hR hS hk4 (by decide) rfl (by decide) rfl (hts _ m_61bedde9) (fun _ h9 => h9) rfl hnm rfl (by decide +kernel) (xb_pnO _ _).1 (xb_pnO _ _).2 (xb_d D_World_init 17 rfl) (fun H locs hR hS => ?_)
      obtain ⟨h19, eh19⟩ : ∃ x : xb_H, x = xb_P h16 x0 3 (some q13) := ⟨_, rfl⟩
      rw [← eh19] at hR
      have hw := hw h19 eh19
      have hE : xb_ext h0 h19 := by rw [eh19]; exact hE
      refine lv_aload_n hx hb (xb_d D_World_init 18 rfl) rfl (lv_at hl 0 rfl) ?_
      obtain ⟨hcq20, hsq20, hw⟩ := hw
      refine xb_newo (C := R_Row) (T := F_Row) (N := 3) hx hb 1 hts fin_Row t_Row t_Row_ok hown (hts _ m_8d4a4f67) (hts _ m_decbd935) (hts _ m_c1bef504) hR hS hA (by decide) rfl dg_Row (show (((((k + 1) + 1) + c11) + 1) + c18) + 1 ≤ MC by omega) (show (((((n + 24) + 3) + sc11) + 3) + sc18) + 3 ≤ MS by omega) (xb_d D_World_init 19 rfl) (fun q20 H hqq20 hR hS => ?_)
      have hw := hw q20 hqq20
      obtain ⟨h21, eh21⟩ : ∃ x : xb_H, x = xb_new h19 q20 2 0 := ⟨_, rfl⟩
      rw [← eh21] at hR
      have hw := hw h21 eh21
      have hE : xb_ext h0 h21 := by rw [eh21]; exact hE.new _ _ hqq20
      have hk22 : xb_k h21 q20 = 2 := by rw [eh21]; exact xb_new_k _ _ _ _
      refine lv_dup hx hb (xb_d D_World_init 20 rfl) rfl ?_
      refine lv_iconst (v := 1) hx hb (xb_d D_World_init 21 rfl) (by decide) ?_
      obtain ⟨c25, sc25, hlc25, hlsc25, hw⟩ := hw
      refine xb_call (D := D) (A := A) (σ := σ) (h := h21) (d := 2) (mc := c25) (ms := sc25) (maxL := 2) (rest := [.ref q20, .ref x0]) (av := [.ref q20, .int 1]) (fun T hT X => xt_invI X hx hown rfl (hts _ m_8928fe01) (hts _ m_16ca0e9f) (hts _ m_3d9e18a6) nm_Row_init (g := F0 m 43 ls [.int 1, .ref q20, .ref q20, .ref x0]) rfl (b := q20) (argsL := [.int 1]) (rest := [.ref q20, .ref x0]) rfl rfl (by rw [hb]; exact (xb_d D_World_init 22 rfl))) (ok_Row_init l hfl D A σ q20 1 h21 c25 sc25 _ hw) (hml.trans hl.1.symm) (by rw [hb]; exact (xb_d D_World_init 22 rfl)) (Nat.le_of_ble_eq_true rfl) (Nat.le_of_ble_eq_true rfl) (Nat.le_of_ble_eq_true rfl) (show ((((((k + 1) + 1) + c11) + 1) + c18) + 1) + c25 ≤ MC by omega) (show ((((((n + 24) + 3) + sc11) + 3) + sc18) + 3) + sc25 ≤ MS by omega) (xt_w1 hB.1 m_3d9e18a6) (xt_cdOf hB.1 m_3d9e18a6) (hts _ m_c1bef504) hB hR hS hA (fun vv h23 H locs hq hEh23 hR hS => ?_) (fun XX ax h23 H locs hq hEh23 hex hR hS => ?_)
      · obtain ⟨rfl, hw⟩ := hq
        have hw := hw hEh23
        have hE := hE.tr hEh23
        refine W.eq (g2 := F0 m 46 ls [.ref q20, .ref x0]) rfl ?_
        have hk4 : xb_k h19 x0 = 7 := by rw [eh19]; exact hk4
        have hk4 : xb_k h21 x0 = 7 := by rw [eh21]; exact xb_nk hqq20 hk4
        have hk4 : xb_k h23 x0 = 7 := hEh23.k hk4
        refine xb_putPF (C := R_World) (T := F_World) (N := 16) (ty := .object "StackHost$Row") (x := (some q20)) hx hb 6 4 hts fin_World t_World t_World_ok n_World hown hR hS hk4 (by decide) rfl (by decide) rfl (hts _ m_1ef9f414) (fun _ h9 => h9) rfl hnm rfl (by decide +kernel) (xb_pnO _ _).1 (xb_pnO _ _).2 (xb_d D_World_init 23 rfl) (fun H locs hR hS => ?_)
        obtain ⟨h26, eh26⟩ : ∃ x : xb_H, x = xb_P h23 x0 4 (some q20) := ⟨_, rfl⟩
        rw [← eh26] at hR
        have hw := hw h26 eh26
        have hE : xb_ext h0 h26 := by rw [eh26]; exact hE
        refine lv_aload_n hx hb (xb_d D_World_init 24 rfl) rfl (lv_at hl 0 rfl) ?_
        obtain ⟨hcq27, hsq27, hw⟩ := hw
        refine xb_newo (C := R_Row) (T := F_Row) (N := 3) hx hb 1 hts fin_Row t_Row t_Row_ok hown (hts _ m_8d4a4f67) (hts _ m_decbd935) (hts _ m_c1bef504) hR hS hA (by decide) rfl dg_Row (show (((((((k + 1) + 1) + c11) + 1) + c18) + 1) + c25) + 1 ≤ MC by omega) (show (((((((n + 24) + 3) + sc11) + 3) + sc18) + 3) + sc25) + 3 ≤ MS by omega) (xb_d D_World_init 25 rfl) (fun q27 H hqq27 hR hS => ?_)
        have hw := hw q27 hqq27
        obtain ⟨h28, eh28⟩ : ∃ x : xb_H, x = xb_new h26 q27 2 0 := ⟨_, rfl⟩
        rw [← eh28] at hR
        have hw := hw h28 eh28
        have hE : xb_ext h0 h28 := by rw [eh28]; exact hE.new _ _ hqq27
        have hk29 : xb_k h28 q27 = 2 := by rw [eh28]; exact xb_new_k _ _ _ _
        refine lv_dup hx hb (xb_d D_World_init 26 rfl) rfl ?_
        refine lv_iconst (v := 1) hx hb (xb_d D_World_init 27 rfl) (by decide) ?_
        obtain ⟨c32, sc32, hlc32, hlsc32, hw⟩ := hw
        refine xb_call (D := D) (A := A) (σ := σ) (h := h28) (d := 2) (mc := c32) (ms := sc32) (maxL := 2) (rest := [.ref q27, .ref x0]) (av := [.ref q27, .int 1]) (fun T hT X => xt_invI X hx hown rfl (hts _ m_8928fe01) (hts _ m_16ca0e9f) (hts _ m_3d9e18a6) nm_Row_init (g := F0 m 55 ls [.int 1, .ref q27, .ref q27, .ref x0]) rfl (b := q27) (argsL := [.int 1]) (rest := [.ref q27, .ref x0]) rfl rfl (by rw [hb]; exact (xb_d D_World_init 28 rfl))) (ok_Row_init l hfl D A σ q27 1 h28 c32 sc32 _ hw) (hml.trans hl.1.symm) (by rw [hb]; exact (xb_d D_World_init 28 rfl)) (Nat.le_of_ble_eq_true rfl) (Nat.le_of_ble_eq_true rfl) (Nat.le_of_ble_eq_true rfl) (show ((((((((k + 1) + 1) + c11) + 1) + c18) + 1) + c25) + 1) + c32 ≤ MC by omega) (show ((((((((n + 24) + 3) + sc11) + 3) + sc18) + 3) + sc25) + 3) + sc32 ≤ MS by omega) (xt_w1 hB.1 m_3d9e18a6) (xt_cdOf hB.1 m_3d9e18a6) (hts _ m_c1bef504) hB hR hS hA (fun vv h30 H locs hq hEh30 hR hS => ?_) (fun XX ax h30 H locs hq hEh30 hex hR hS => ?_)
        · obtain ⟨rfl, hw⟩ := hq
          have hw := hw hEh30
          have hE := hE.tr hEh30
          refine W.eq (g2 := F0 m 58 ls [.ref q27, .ref x0]) rfl ?_
          have hk4 : xb_k h26 x0 = 7 := by rw [eh26]; exact hk4
          have hk4 : xb_k h28 x0 = 7 := by rw [eh28]; exact xb_nk hqq27 hk4
          have hk4 : xb_k h30 x0 = 7 := hEh30.k hk4
          refine xb_putPF (C := R_World) (T := F_World) (N := 16) (ty := .object "StackHost$Row") (x := (some q27)) hx hb 6 5 hts fin_World t_World t_World_ok n_World hown hR hS hk4 (by decide) rfl (by decide) rfl (hts _ m_fb5d2326) (fun _ h9 => h9) rfl hnm rfl (by decide +kernel) (xb_pnO _ _).1 (xb_pnO _ _).2 (xb_d D_World_init 29 rfl) (fun H locs hR hS => ?_)
          obtain ⟨h33, eh33⟩ : ∃ x : xb_H, x = xb_P h30 x0 5 (some q27) := ⟨_, rfl⟩
          rw [← eh33] at hR
          have hw := hw h33 eh33
          have hE : xb_ext h0 h33 := by rw [eh33]; exact hE
          refine lv_aload_n hx hb (xb_d D_World_init 30 rfl) rfl (lv_at hl 0 rfl) ?_
          obtain ⟨hcq34, hsq34, hw⟩ := hw
          refine xb_newo (C := R_Row) (T := F_Row) (N := 3) hx hb 1 hts fin_Row t_Row t_Row_ok hown (hts _ m_8d4a4f67) (hts _ m_decbd935) (hts _ m_c1bef504) hR hS hA (by decide) rfl dg_Row (show (((((((((k + 1) + 1) + c11) + 1) + c18) + 1) + c25) + 1) + c32) + 1 ≤ MC by omega) (show (((((((((n + 24) + 3) + sc11) + 3) + sc18) + 3) + sc25) + 3) + sc32) + 3 ≤ MS by omega) (xb_d D_World_init 31 rfl) (fun q34 H hqq34 hR hS => ?_)
          have hw := hw q34 hqq34
          obtain ⟨h35, eh35⟩ : ∃ x : xb_H, x = xb_new h33 q34 2 0 := ⟨_, rfl⟩
          rw [← eh35] at hR
          have hw := hw h35 eh35
          have hE : xb_ext h0 h35 := by rw [eh35]; exact hE.new _ _ hqq34
          have hk36 : xb_k h35 q34 = 2 := by rw [eh35]; exact xb_new_k _ _ _ _
          refine lv_dup hx hb (xb_d D_World_init 32 rfl) rfl ?_
          refine lv_iconst (v := 1) hx hb (xb_d D_World_init 33 rfl) (by decide) ?_
          obtain ⟨c39, sc39, hlc39, hlsc39, hw⟩ := hw
          refine xb_call (D := D) (A := A) (σ := σ) (h := h35) (d := 2) (mc := c39) (ms := sc39) (maxL := 2) (rest := [.ref q34, .ref x0]) (av := [.ref q34, .int 1]) (fun T hT X => xt_invI X hx hown rfl (hts _ m_8928fe01) (hts _ m_16ca0e9f) (hts _ m_3d9e18a6) nm_Row_init (g := F0 m 67 ls [.int 1, .ref q34, .ref q34, .ref x0]) rfl (b := q34) (argsL := [.int 1]) (rest := [.ref q34, .ref x0]) rfl rfl (by rw [hb]; exact (xb_d D_World_init 34 rfl))) (ok_Row_init l hfl D A σ q34 1 h35 c39 sc39 _ hw) (hml.trans hl.1.symm) (by rw [hb]; exact (xb_d D_World_init 34 rfl)) (Nat.le_of_ble_eq_true rfl) (Nat.le_of_ble_eq_true rfl) (Nat.le_of_ble_eq_true rfl) (show ((((((((((k + 1) + 1) + c11) + 1) + c18) + 1) + c25) + 1) + c32) + 1) + c39 ≤ MC by omega) (show ((((((((((n + 24) + 3) + sc11) + 3) + sc18) + 3) + sc25) + 3) + sc32) + 3) + sc39 ≤ MS by omega) (xt_w1 hB.1 m_3d9e18a6) (xt_cdOf hB.1 m_3d9e18a6) (hts _ m_c1bef504) hB hR hS hA (fun vv h37 H locs hq hEh37 hR hS => ?_) (fun XX ax h37 H locs hq hEh37 hex hR hS => ?_)
          · obtain ⟨rfl, hw⟩ := hq
            have hw := hw hEh37
            have hE := hE.tr hEh37
            refine W.eq (g2 := F0 m 70 ls [.ref q34, .ref x0]) rfl ?_
            have hk4 : xb_k h33 x0 = 7 := by rw [eh33]; exact hk4
            have hk4 : xb_k h35 x0 = 7 := by rw [eh35]; exact xb_nk hqq34 hk4
            have hk4 : xb_k h37 x0 = 7 := hEh37.k hk4
            refine xb_putPF (C := R_World) (T := F_World) (N := 16) (ty := .object "StackHost$Row") (x := (some q34)) hx hb 6 6 hts fin_World t_World t_World_ok n_World hown hR hS hk4 (by decide) rfl (by decide) rfl (hts _ m_c974f8d4) (fun _ h9 => h9) rfl hnm rfl (by decide +kernel) (xb_pnO _ _).1 (xb_pnO _ _).2 (xb_d D_World_init 35 rfl) (fun H locs hR hS => ?_)
            obtain ⟨h40, eh40⟩ : ∃ x : xb_H, x = xb_P h37 x0 6 (some q34) := ⟨_, rfl⟩
            rw [← eh40] at hR
            have hw := hw h40 eh40
            have hE : xb_ext h0 h40 := by rw [eh40]; exact hE
            refine lv_aload_n hx hb (xb_d D_World_init 36 rfl) rfl (lv_at hl 0 rfl) ?_
            obtain ⟨hcq41, hsq41, hw⟩ := hw
            refine xb_newo (C := R_Row) (T := F_Row) (N := 3) hx hb 1 hts fin_Row t_Row t_Row_ok hown (hts _ m_8d4a4f67) (hts _ m_decbd935) (hts _ m_c1bef504) hR hS hA (by decide) rfl dg_Row (show (((((((((((k + 1) + 1) + c11) + 1) + c18) + 1) + c25) + 1) + c32) + 1) + c39) + 1 ≤ MC by omega) (show (((((((((((n + 24) + 3) + sc11) + 3) + sc18) + 3) + sc25) + 3) + sc32) + 3) + sc39) + 3 ≤ MS by omega) (xb_d D_World_init 37 rfl) (fun q41 H hqq41 hR hS => ?_)
            have hw := hw q41 hqq41
            obtain ⟨h42, eh42⟩ : ∃ x : xb_H, x = xb_new h40 q41 2 0 := ⟨_, rfl⟩
            rw [← eh42] at hR
            have hw := hw h42 eh42
            have hE : xb_ext h0 h42 := by rw [eh42]; exact hE.new _ _ hqq41
            have hk43 : xb_k h42 q41 = 2 := by rw [eh42]; exact xb_new_k _ _ _ _
            refine lv_dup hx hb (xb_d D_World_init 38 rfl) rfl ?_
            refine lv_iconst (v := 3) hx hb (xb_d D_World_init 39 rfl) (by decide) ?_
            obtain ⟨c46, sc46, hlc46, hlsc46, hw⟩ := hw
            refine xb_call (D := D) (A := A) (σ := σ) (h := h42) (d := 2) (mc := c46) (ms := sc46) (maxL := 2) (rest := [.ref q41, .ref x0]) (av := [.ref q41, .int 3]) (fun T hT X => xt_invI X hx hown rfl (hts _ m_8928fe01) (hts _ m_16ca0e9f) (hts _ m_3d9e18a6) nm_Row_init (g := F0 m 79 ls [.int 3, .ref q41, .ref q41, .ref x0]) rfl (b := q41) (argsL := [.int 3]) (rest := [.ref q41, .ref x0]) rfl rfl (by rw [hb]; exact (xb_d D_World_init 40 rfl))) (ok_Row_init l hfl D A σ q41 3 h42 c46 sc46 _ hw) (hml.trans hl.1.symm) (by rw [hb]; exact (xb_d D_World_init 40 rfl)) (Nat.le_of_ble_eq_true rfl) (Nat.le_of_ble_eq_true rfl) (Nat.le_of_ble_eq_true rfl) (show ((((((((((((k + 1) + 1) + c11) + 1) + c18) + 1) + c25) + 1) + c32) + 1) + c39) + 1) + c46 ≤ MC by omega) (show ((((((((((((n + 24) + 3) + sc11) + 3) + sc18) + 3) + sc25) + 3) + sc32) + 3) + sc39) + 3) + sc46 ≤ MS by omega) (xt_w1 hB.1 m_3d9e18a6) (xt_cdOf hB.1 m_3d9e18a6) (hts _ m_c1bef504) hB hR hS hA (fun vv h44 H locs hq hEh44 hR hS => ?_) (fun XX ax h44 H locs hq hEh44 hex hR hS => ?_)
            · obtain ⟨rfl, hw⟩ := hq
              have hw := hw hEh44
              have hE := hE.tr hEh44
              refine W.eq (g2 := F0 m 82 ls [.ref q41, .ref x0]) rfl ?_
              have hk4 : xb_k h40 x0 = 7 := by rw [eh40]; exact hk4
              have hk4 : xb_k h42 x0 = 7 := by rw [eh42]; exact xb_nk hqq41 hk4
              have hk4 : xb_k h44 x0 = 7 := hEh44.k hk4
              refine xb_putPF (C := R_World) (T := F_World) (N := 16) (ty := .object "StackHost$Row") (x := (some q41)) hx hb 6 9 hts fin_World t_World t_World_ok n_World hown hR hS hk4 (by decide) rfl (by decide) rfl (hts _ m_99b823f6) (fun _ h9 => h9) rfl hnm rfl (by decide +kernel) (xb_pnO _ _).1 (xb_pnO _ _).2 (xb_d D_World_init 41 rfl) (fun H locs hR hS => ?_)
              obtain ⟨h47, eh47⟩ : ∃ x : xb_H, x = xb_P h44 x0 9 (some q41) := ⟨_, rfl⟩
              rw [← eh47] at hR
              have hw := hw h47 eh47
              have hE : xb_ext h0 h47 := by rw [eh47]; exact hE
              refine lv_aload_n hx hb (xb_d D_World_init 42 rfl) rfl (lv_at hl 0 rfl) ?_
              refine lv_bipush (v := 16) hx hb (xb_d D_World_init 43 rfl) (by decide) ?_
              obtain ⟨hcq48, hsq48, hw⟩ := hw
              have enq48 : (16 : Int32).toNatClampNeg = 16 := by decide
              refine xb_newa_b hx hb (hts _ m_2503b19f) hR hS hA (by decide) (by decide +kernel) (show (((((((((((((k + 1) + 1) + c11) + 1) + c18) + 1) + c25) + 1) + c32) + 1) + c39) + 1) + c46) + 1 ≤ MC by omega) (show (((((((((((((n + 24) + 3) + sc11) + 3) + sc18) + 3) + sc25) + 3) + sc32) + 3) + sc39) + 3) + sc46) + _ ≤ MS by rw [enq48]; omega) (xb_d D_World_init 44 rfl) (fun q48 H hqq48 hR hS => ?_)
              rw [enq48] at hR ⊢
              have hw := hw q48 hqq48
              obtain ⟨h49, eh49⟩ : ∃ x : xb_H, x = xb_new h47 q48 100 16 := ⟨_, rfl⟩
              rw [← eh49] at hR
              have hw := hw h49 eh49
              have hE : xb_ext h0 h49 := by rw [eh49]; exact hE.new _ _ hqq48
              have hk50 : xb_k h49 q48 = 100 := by rw [eh49]; exact xb_new_k _ _ _ _
              have hk4 : xb_k h47 x0 = 7 := by rw [eh47]; exact hk4
              have hk4 : xb_k h49 x0 = 7 := by rw [eh49]; exact xb_nk hqq48 hk4
              refine xb_putP (C := R_World) (T := F_World) (N := 16) (ty := .array .byte) (x := (some q48)) hx hb 6 10 hts fin_World t_World t_World_ok n_World hown hR hS hk4 (by decide) rfl (by decide) rfl (hts _ m_fb6c2688) (fun _ h9 => h9) rfl (by decide +kernel) (xb_pnA _ _).1 (xb_pnA _ _).2 (xb_d D_World_init 45 rfl) (fun H locs hR hS => ?_)
              obtain ⟨h51, eh51⟩ : ∃ x : xb_H, x = xb_P h49 x0 10 (some q48) := ⟨_, rfl⟩
              rw [← eh51] at hR
              have hw := hw h51 eh51
              have hE : xb_ext h0 h51 := by rw [eh51]; exact hE
              refine lv_aload_n hx hb (xb_d D_World_init 46 rfl) rfl (lv_at hl 0 rfl) ?_
              obtain ⟨hcq52, hsq52, hw⟩ := hw
              refine xb_newo (C := R_Row) (T := F_Row) (N := 3) hx hb 1 hts fin_Row t_Row t_Row_ok hown (hts _ m_8d4a4f67) (hts _ m_decbd935) (hts _ m_c1bef504) hR hS hA (by decide) rfl dg_Row (show ((((((((((((((k + 1) + 1) + c11) + 1) + c18) + 1) + c25) + 1) + c32) + 1) + c39) + 1) + c46) + 1) + 1 ≤ MC by omega) (show ((((((((((((((n + 24) + 3) + sc11) + 3) + sc18) + 3) + sc25) + 3) + sc32) + 3) + sc39) + 3) + sc46) + 16) + 3 ≤ MS by omega) (xb_d D_World_init 47 rfl) (fun q52 H hqq52 hR hS => ?_)
              have hw := hw q52 hqq52
              obtain ⟨h53, eh53⟩ : ∃ x : xb_H, x = xb_new h51 q52 2 0 := ⟨_, rfl⟩
              rw [← eh53] at hR
              have hw := hw h53 eh53
              have hE : xb_ext h0 h53 := by rw [eh53]; exact hE.new _ _ hqq52
              have hk54 : xb_k h53 q52 = 2 := by rw [eh53]; exact xb_new_k _ _ _ _
              refine lv_dup hx hb (xb_d D_World_init 48 rfl) rfl ?_
              refine lv_iconst (v := 1) hx hb (xb_d D_World_init 49 rfl) (by decide) ?_
              obtain ⟨c57, sc57, hlc57, hlsc57, hw⟩ := hw
              refine xb_call (D := D) (A := A) (σ := σ) (h := h53) (d := 2) (mc := c57) (ms := sc57) (maxL := 2) (rest := [.ref q52, .ref x0]) (av := [.ref q52, .int 1]) (fun T hT X => xt_invI X hx hown rfl (hts _ m_8928fe01) (hts _ m_16ca0e9f) (hts _ m_3d9e18a6) nm_Row_init (g := F0 m 99 ls [.int 1, .ref q52, .ref q52, .ref x0]) rfl (b := q52) (argsL := [.int 1]) (rest := [.ref q52, .ref x0]) rfl rfl (by rw [hb]; exact (xb_d D_World_init 50 rfl))) (ok_Row_init l hfl D A σ q52 1 h53 c57 sc57 _ hw) (hml.trans hl.1.symm) (by rw [hb]; exact (xb_d D_World_init 50 rfl)) (Nat.le_of_ble_eq_true rfl) (Nat.le_of_ble_eq_true rfl) (Nat.le_of_ble_eq_true rfl) (show (((((((((((((((k + 1) + 1) + c11) + 1) + c18) + 1) + c25) + 1) + c32) + 1) + c39) + 1) + c46) + 1) + 1) + c57 ≤ MC by omega) (show (((((((((((((((n + 24) + 3) + sc11) + 3) + sc18) + 3) + sc25) + 3) + sc32) + 3) + sc39) + 3) + sc46) + 16) + 3) + sc57 ≤ MS by omega) (xt_w1 hB.1 m_3d9e18a6) (xt_cdOf hB.1 m_3d9e18a6) (hts _ m_c1bef504) hB hR hS hA (fun vv h55 H locs hq hEh55 hR hS => ?_) (fun XX ax h55 H locs hq hEh55 hex hR hS => ?_)
              · obtain ⟨rfl, hw⟩ := hq
                have hw := hw hEh55
                have hE := hE.tr hEh55
                refine W.eq (g2 := F0 m 102 ls [.ref q52, .ref x0]) rfl ?_
                have hk4 : xb_k h51 x0 = 7 := by rw [eh51]; exact hk4
                have hk4 : xb_k h53 x0 = 7 := by rw [eh53]; exact xb_nk hqq52 hk4
                have hk4 : xb_k h55 x0 = 7 := hEh55.k hk4
                refine xb_putPF (C := R_World) (T := F_World) (N := 16) (ty := .object "StackHost$Row") (x := (some q52)) hx hb 6 12 hts fin_World t_World t_World_ok n_World hown hR hS hk4 (by decide) rfl (by decide) rfl (hts _ m_62e44650) (fun _ h9 => h9) rfl hnm rfl (by decide +kernel) (xb_pnO _ _).1 (xb_pnO _ _).2 (xb_d D_World_init 51 rfl) (fun H locs hR hS => ?_)
                obtain ⟨h58, eh58⟩ : ∃ x : xb_H, x = xb_P h55 x0 12 (some q52) := ⟨_, rfl⟩
                rw [← eh58] at hR
                have hw := hw h58 eh58
                have hE : xb_ext h0 h58 := by rw [eh58]; exact hE
                refine lv_aload_n hx hb (xb_d D_World_init 52 rfl) rfl (lv_at hl 0 rfl) ?_
                obtain ⟨hcq59, hsq59, hw⟩ := hw
                refine xb_newo (C := R_Row) (T := F_Row) (N := 3) hx hb 1 hts fin_Row t_Row t_Row_ok hown (hts _ m_8d4a4f67) (hts _ m_decbd935) (hts _ m_c1bef504) hR hS hA (by decide) rfl dg_Row (show ((((((((((((((((k + 1) + 1) + c11) + 1) + c18) + 1) + c25) + 1) + c32) + 1) + c39) + 1) + c46) + 1) + 1) + c57) + 1 ≤ MC by omega) (show ((((((((((((((((n + 24) + 3) + sc11) + 3) + sc18) + 3) + sc25) + 3) + sc32) + 3) + sc39) + 3) + sc46) + 16) + 3) + sc57) + 3 ≤ MS by omega) (xb_d D_World_init 53 rfl) (fun q59 H hqq59 hR hS => ?_)
                have hw := hw q59 hqq59
                obtain ⟨h60, eh60⟩ : ∃ x : xb_H, x = xb_new h58 q59 2 0 := ⟨_, rfl⟩
                rw [← eh60] at hR
                have hw := hw h60 eh60
                have hE : xb_ext h0 h60 := by rw [eh60]; exact hE.new _ _ hqq59
                have hk61 : xb_k h60 q59 = 2 := by rw [eh60]; exact xb_new_k _ _ _ _
                refine lv_dup hx hb (xb_d D_World_init 54 rfl) rfl ?_
                refine lv_iconst (v := 1) hx hb (xb_d D_World_init 55 rfl) (by decide) ?_
                obtain ⟨c64, sc64, hlc64, hlsc64, hw⟩ := hw
                refine xb_call (D := D) (A := A) (σ := σ) (h := h60) (d := 2) (mc := c64) (ms := sc64) (maxL := 2) (rest := [.ref q59, .ref x0]) (av := [.ref q59, .int 1]) (fun T hT X => xt_invI X hx hown rfl (hts _ m_8928fe01) (hts _ m_16ca0e9f) (hts _ m_3d9e18a6) nm_Row_init (g := F0 m 111 ls [.int 1, .ref q59, .ref q59, .ref x0]) rfl (b := q59) (argsL := [.int 1]) (rest := [.ref q59, .ref x0]) rfl rfl (by rw [hb]; exact (xb_d D_World_init 56 rfl))) (ok_Row_init l hfl D A σ q59 1 h60 c64 sc64 _ hw) (hml.trans hl.1.symm) (by rw [hb]; exact (xb_d D_World_init 56 rfl)) (Nat.le_of_ble_eq_true rfl) (Nat.le_of_ble_eq_true rfl) (Nat.le_of_ble_eq_true rfl) (show (((((((((((((((((k + 1) + 1) + c11) + 1) + c18) + 1) + c25) + 1) + c32) + 1) + c39) + 1) + c46) + 1) + 1) + c57) + 1) + c64 ≤ MC by omega) (show (((((((((((((((((n + 24) + 3) + sc11) + 3) + sc18) + 3) + sc25) + 3) + sc32) + 3) + sc39) + 3) + sc46) + 16) + 3) + sc57) + 3) + sc64 ≤ MS by omega) (xt_w1 hB.1 m_3d9e18a6) (xt_cdOf hB.1 m_3d9e18a6) (hts _ m_c1bef504) hB hR hS hA (fun vv h62 H locs hq hEh62 hR hS => ?_) (fun XX ax h62 H locs hq hEh62 hex hR hS => ?_)
                · obtain ⟨rfl, hw⟩ := hq
                  have hw := hw hEh62
                  have hE := hE.tr hEh62
                  refine W.eq (g2 := F0 m 114 ls [.ref q59, .ref x0]) rfl ?_
                  have hk4 : xb_k h58 x0 = 7 := by rw [eh58]; exact hk4
                  have hk4 : xb_k h60 x0 = 7 := by rw [eh60]; exact xb_nk hqq59 hk4
                  have hk4 : xb_k h62 x0 = 7 := hEh62.k hk4
                  refine xb_putPF (C := R_World) (T := F_World) (N := 16) (ty := .object "StackHost$Row") (x := (some q59)) hx hb 6 13 hts fin_World t_World t_World_ok n_World hown hR hS hk4 (by decide) rfl (by decide) rfl (hts _ m_808dc970) (fun _ h9 => h9) rfl hnm rfl (by decide +kernel) (xb_pnO _ _).1 (xb_pnO _ _).2 (xb_d D_World_init 57 rfl) (fun H locs hR hS => ?_)
                  obtain ⟨h65, eh65⟩ : ∃ x : xb_H, x = xb_P h62 x0 13 (some q59) := ⟨_, rfl⟩
                  rw [← eh65] at hR
                  have hw := hw h65 eh65
                  have hE : xb_ext h0 h65 := by rw [eh65]; exact hE
                  exact xb_vret hx hb hr hlocks (show ((((((((((((((((((k + 1) + 1) + c11) + 1) + c18) + 1) + c25) + 1) + c32) + 1) + c39) + 1) + c46) + 1) + 1) + c57) + 1) + c64) ≤ MC by omega) (show ((((((((((((((((((n + 24) + 3) + sc11) + 3) + sc18) + 3) + sc25) + 3) + sc32) + 3) + sc39) + 3) + sc46) + 16) + 3) + sc57) + 3) + sc64) ≤ MS by omega) hE hR hS (xb_d D_World_init 58 rfl) hw
                · exact False.elim hq
              · exact False.elim hq
            · exact False.elim hq
          · exact False.elim hq
        · exact False.elim hq
      · exact False.elim hq
    · exact False.elim hq
  · exact False.elim hq

theorem m_ad29ee25 : (.methodLink "StackHost$World" 51 y_Row_at : Cond) ∈ xt_tbl := xt_in (xt_t6 (List.mem_of_getElem? (i := 121) (by decide +kernel))) (by decide +kernel)
theorem m_1dd644e2 : (.methodLink "StackHost$World" 79 y_StackModule_sameBytes : Cond) ∈ xt_tbl := xt_in (xt_t6 (List.mem_of_getElem? (i := 124) (by decide +kernel))) (by decide +kernel)
theorem m_5b8308b9 : (.methodLink "StackHost$World" 75 y_Row_lines : Cond) ∈ xt_tbl := xt_in (xt_t6 (List.mem_of_getElem? (i := 116) (by decide +kernel))) (by decide +kernel)
set_option maxRecDepth 100000 in
def T_World_instanceNamed : List (Nat × Instr × Nat) := [(0, .aload_n 0, 1), (1, .getfield 38, 3), (4, .invokevirtual 75, 3), (7, .iconst 1, 1), (8, .isub, 1), (9, .istore 4, 2), (11, .iload 4, 2), (13, .ifCond .lt 57, 3), (16, .aload_n 0, 1), (17, .getfield 38, 3), (20, .iload 4, 2), (22, .iconst 1, 1), (23, .invokevirtual 51, 3), (26, .iload_n 3, 1), (27, .if_icmp .ne 37, 3), (30, .aload_n 0, 1), (31, .getfield 41, 3), (34, .aload_n 0, 1), (35, .getfield 38, 3), (38, .iload 4, 2), (40, .iconst 0, 1), (41, .invokevirtual 51, 3), (44, .aload_n 1, 1), (45, .iload_n 2, 1), (46, .iload_n 3, 1), (47, .invokestatic 79, 3), (50, .ifCond .eq 14, 3), (53, .aload_n 0, 1), (54, .getfield 38, 3), (57, .iload 4, 2), (59, .iconst 2, 1), (60, .invokevirtual 51, 3), (63, .ireturn, 1), (64, .iinc 4 (-1), 3), (67, .goto (-56), 3), (70, .iconst (-1), 1), (71, .ireturn, 1)]
theorem D_World_instanceNamed : ∀ q ∈ T_World_instanceNamed, decode b_World_instanceNamed q.1 = .ok (q.2.1, q.2.2) := by decide +kernel
def w_World_instanceNamed_L64 (K11 : Nat → Nat → Int32 → Int32 → Int32 → xb_H → Prop) (Qr : Int32 → xb_H → Prop) (x0 : Nat) (x1 : Nat) (x2 : Int32) (x3 : Int32) (x4 : Int32) (h : xb_H) : Prop :=
    K11 x0 x1 x2 x3 (x4 + (-1)) h

def w_World_instanceNamed_L11 (Qr : Int32 → xb_H → Prop) : Nat → Nat → Nat → Int32 → Int32 → Int32 → xb_H → Prop
  | 0, _, _, _, _, _, _ => False
  | n9 + 1, x0, x1, x2, x3, x4, h =>
    ((x4 < (0 : Int32) → Qr (-1) h) ∧ (¬ x4 < (0 : Int32) → xb_k h x0 = 7 ∧ ∃ b3 : Nat, (xb_r h x0 9) = some b3 ∧ xb_k h b3 = 2 ∧ w_Row_at b3 x4 1 h (fun (r6 : Int32) (h5 : xb_H) => xb_ext h h5 → ((¬ r6 = x3 → w_World_instanceNamed_L64 (w_World_instanceNamed_L11 Qr n9) Qr x0 x1 x2 x3 x4 h5) ∧ (r6 = x3 → ∃ b8 : Nat, (xb_r h5 x0 10) = some b8 ∧ ∃ b9 : Nat, (xb_r h5 x0 9) = some b9 ∧ xb_k h5 b9 = 2 ∧ w_Row_at b9 x4 0 h5 (fun (r12 : Int32) (h11 : xb_H) => xb_ext h5 h11 → w_StackModule_sameBytes b8 r12 x1 x2 x3 h11 (fun (r14 : Int32) (h13 : xb_H) => xb_ext h11 h13 → ((r14 = (0 : Int32) → w_World_instanceNamed_L64 (w_World_instanceNamed_L11 Qr n9) Qr x0 x1 x2 x3 x4 h13) ∧ (¬ r14 = (0 : Int32) → ∃ b16 : Nat, (xb_r h13 x0 9) = some b16 ∧ xb_k h13 b16 = 2 ∧ w_Row_at b16 x4 2 h13 (fun (r19 : Int32) (h18 : xb_H) => xb_ext h13 h18 → Qr r19 h18))))))))))

def w_World_instanceNamed (x0 : Nat) (x1 : Nat) (x2 : Int32) (x3 : Int32) (h : xb_H) (Qr : Int32 → xb_H → Prop) : Prop :=
    xb_k h x0 = 7 ∧ ∃ b2 : Nat, (xb_r h x0 9) = some b2 ∧ xb_k h b2 = 2 ∧ w_Row_lines b2 h (fun (r5 : Int32) (h4 : xb_H) => xb_ext h h4 → ∀ v6 : Int32, v6 = (r5 - 1) → (∃ n8 : Nat, w_World_instanceNamed_L11 Qr n8 x0 x1 x2 x3 v6 h4))

set_option maxHeartbeats 4000000 in
set_option maxRecDepth 100000 in
theorem am_World_instanceNamed_L64 (l : Launch) (hfl : l.flags = pinnedFlags ++ [noTraceFlag]) (D : va_G) (A : Nat → Prop) (σ MC MS : Nat) (h0 : xb_H) (Qr : Int32 → xb_H → Prop) (K11 : Nat → Nat → Int32 → Int32 → Int32 → xb_H → Prop) (hK11 : ∀ (x0 : Nat) (x1 : Nat) (x2 : Int32) (x3 : Int32) (x4 : Int32) (h : xb_H), K11 x0 x1 x2 x3 x4 h → xb_am l D A σ 3 MC MS h0 (fun v h => ∃ r, v = some (.int r) ∧ Qr r h) (fun _ _ => False) y_World_instanceNamed.cls y_World_instanceNamed.name b_World_instanceNamed 5 ([] : List ExceptionTableEntry) (some .int) 11 [(0, .ref x0), (1, .ref x1), (2, .int x2), (3, .int x3), (4, .int x4)] [] h 0 0) (x0 : Nat) (x1 : Nat) (x2 : Int32) (x3 : Int32) (x4 : Int32) (h : xb_H) (hw : w_World_instanceNamed_L64 K11 Qr x0 x1 x2 x3 x4 h) : xb_am l D A σ 3 MC MS h0 (fun v h => ∃ r, v = some (.int r) ∧ Qr r h) (fun _ _ => False) y_World_instanceNamed.cls y_World_instanceNamed.name b_World_instanceNamed 5 ([] : List ExceptionTableEntry) (some .int) 64 [(0, .ref x0), (1, .ref x1), (2, .int x2), (3, .int x3), (4, .int x4)] [] h 0 0 := by
  unfold w_World_instanceNamed_L64 at hw
  intro p e s m args below meth c hC H locs ls k n hE hl hR hS hk hn
  obtain ⟨hx, hb, hown, hlocks, htab, hml, hr, hB, hA, hnm⟩ := id hC
  have hts := hB.1.1.at args
  refine lv_iinc (v := (x4 + (-1))) (k := 4) hx hb (xb_d D_World_instanceNamed 33 rfl) hl rfl (by first | rfl | decide) (by decide) rfl (fun ls hl => ?_)
  have hl : lv_has ls 5 [(4, .int (x4 + (-1))), (0, .ref x0), (1, .ref x1), (2, .int x2), (3, .int x3)] := hl
  refine lv_goto (tgt := 11) hx hb (xb_d D_World_instanceNamed 34 rfl) rfl ?_
  exact hK11 x0 x1 x2 x3 (x4 + (-1)) h hw p e s m args below meth c hC H locs ls k n hE (lv_sub hl [1, 2, 3, 4, 0] rfl) hR hS (by omega) (by omega)

set_option maxHeartbeats 4000000 in
set_option maxRecDepth 100000 in
theorem am_World_instanceNamed_L11 (l : Launch) (hfl : l.flags = pinnedFlags ++ [noTraceFlag]) (D : va_G) (A : Nat → Prop) (σ MC MS : Nat) (h0 : xb_H) (Qr : Int32 → xb_H → Prop) (n9 : Nat) : ∀ (x0 : Nat) (x1 : Nat) (x2 : Int32) (x3 : Int32) (x4 : Int32) (h : xb_H), w_World_instanceNamed_L11 Qr n9 x0 x1 x2 x3 x4 h → xb_am l D A σ 3 MC MS h0 (fun v h => ∃ r, v = some (.int r) ∧ Qr r h) (fun _ _ => False) y_World_instanceNamed.cls y_World_instanceNamed.name b_World_instanceNamed 5 ([] : List ExceptionTableEntry) (some .int) 11 [(0, .ref x0), (1, .ref x1), (2, .int x2), (3, .int x3), (4, .int x4)] [] h 0 0 := by
  induction n9 with
  | zero => intro x0 x1 x2 x3 x4 h hw; exact False.elim hw
  | succ n9 ih =>
    intro x0 x1 x2 x3 x4 h hw
    unfold w_World_instanceNamed_L11 at hw
    intro p e s m args below meth c hC H locs ls k n hE hl hR hS hk hn
    obtain ⟨hx, hb, hown, hlocks, htab, hml, hr, hB, hA, hnm⟩ := id hC
    have hts := hB.1.1.at args
    refine lv_iload hx hb (xb_d D_World_instanceNamed 6 rfl) (lv_at hl 4 rfl) ?_
    refine lv_if_lt (tgt := 70) hx hb (xb_d D_World_instanceNamed 7 rfl) rfl (fun hc1 => ?_) (fun hc1 => ?_)
    · have hw := hw.1 hc1
      refine lv_iconst (v := (-1)) hx hb (xb_d D_World_instanceNamed 35 rfl) (by decide) ?_
      exact xb_iret hx hb hr hlocks (show k ≤ MC by omega) (show n ≤ MS by omega) hE hR hS (xb_d D_World_instanceNamed 36 rfl) hw
    · have hw := hw.2 hc1
      refine lv_aload_n hx hb (xb_d D_World_instanceNamed 8 rfl) rfl (lv_at hl 0 rfl) ?_
      obtain ⟨hk2, hw⟩ := hw
      refine xb_getP (C := R_World) (T := F_World) (N := 16) hx hb 6 9 hts fin_World hown hR hk2 (by decide) rfl (by decide) rfl (hts _ m_99b823f6) (fun _ h9 => h9) (xb_d D_World_instanceNamed 9 rfl) ?_
      obtain ⟨b3, eb3, hw⟩ := hw
      refine xb_some eb3 ?_
      refine lv_iload hx hb (xb_d D_World_instanceNamed 10 rfl) (lv_at hl 4 rfl) ?_
      refine lv_iconst (v := 1) hx hb (xb_d D_World_instanceNamed 11 rfl) (by decide) ?_
      obtain ⟨hk4, hw⟩ := hw
      refine xb_call (D := D) (A := A) (σ := σ) (h := h) (d := 2) (mc := 0) (ms := 0) (maxL := 3) (rest := []) (av := [.ref b3, .int x4, .int 1]) (fun T hT X => by obtain ⟨cb, r1, r2, r3⟩ := xb_recv (ci := 1) hR rfl hk4 (by decide); exact xt_invV X hx hown (hts _ m_ad29ee25) (hts _ m_8e233096) (hts _ m_27eed10c) (xt_sigOf (hts _ m_ff1c70ae)) nm_Row_at (by rw [hT]; exact r1) r2 r3 (g := F0 m 23 ls [.int 1, .int x4, .ref b3]) rfl (argsL := [.int x4, .int 1]) (rest := []) rfl rfl (by rw [hb]; exact (xb_d D_World_instanceNamed 12 rfl))) (ok_Row_at l hfl D A σ b3 x4 1 h _ hw) (hml.trans hl.1.symm) (by rw [hb]; exact (xb_d D_World_instanceNamed 12 rfl)) (Nat.le_of_ble_eq_true rfl) (Nat.le_of_ble_eq_true rfl) (Nat.le_of_ble_eq_true rfl) (show k + 0 ≤ MC by omega) (show n + 0 ≤ MS by omega) (xt_w1 hB.1 m_ff1c70ae) (xt_cdOf hB.1 m_ff1c70ae) (hts _ m_c1bef504) hB hR hS hA (fun vv h5 H locs hq hEh5 hR hS => ?_) (fun XX ax h5 H locs hq hEh5 hex hR hS => ?_)
      · obtain ⟨r6, rfl, hw⟩ := hq
        have hw := hw hEh5
        have hE := hE.tr hEh5
        refine W.eq (g2 := F0 m 26 ls [.int r6]) rfl ?_
        refine lv_iload_n hx hb (xb_d D_World_instanceNamed 13 rfl) rfl (lv_at hl 3 rfl) ?_
        refine lv_icmp_ne (tgt := 64) hx hb (xb_d D_World_instanceNamed 14 rfl) rfl (fun hc7 => ?_) (fun hc7 => ?_)
        · have hw := hw.1 hc7
          exact am_World_instanceNamed_L64 l hfl D A σ MC MS h0 Qr (w_World_instanceNamed_L11 Qr n9) ih x0 x1 x2 x3 x4 h5 hw p e s m args below meth c hC H locs ls k n hE (lv_sub hl [0, 1, 2, 3, 4] rfl) hR hS (by omega) (by omega)
        · have hw := hw.2 hc7
          refine lv_aload_n hx hb (xb_d D_World_instanceNamed 15 rfl) rfl (lv_at hl 0 rfl) ?_
          have hk2 : xb_k h5 x0 = 7 := hEh5.k hk2
          refine xb_getP (C := R_World) (T := F_World) (N := 16) hx hb 6 10 hts fin_World hown hR hk2 (by decide) rfl (by decide) rfl (hts _ m_fb6c2688) (fun _ h9 => h9) (xb_d D_World_instanceNamed 16 rfl) ?_
          obtain ⟨b8, eb8, hw⟩ := hw
          refine xb_some eb8 ?_
          refine lv_aload_n hx hb (xb_d D_World_instanceNamed 17 rfl) rfl (lv_at hl 0 rfl) ?_
          refine xb_getP (C := R_World) (T := F_World) (N := 16) hx hb 6 9 hts fin_World hown hR hk2 (by decide) rfl (by decide) rfl (hts _ m_99b823f6) (fun _ h9 => h9) (xb_d D_World_instanceNamed 18 rfl) ?_
          obtain ⟨b9, eb9, hw⟩ := hw
          refine xb_some eb9 ?_
          refine lv_iload hx hb (xb_d D_World_instanceNamed 19 rfl) (lv_at hl 4 rfl) ?_
          refine lv_iconst (v := 0) hx hb (xb_d D_World_instanceNamed 20 rfl) (by decide) ?_
          obtain ⟨hk10, hw⟩ := hw
          refine xb_call (D := D) (A := A) (σ := σ) (h := h5) (d := 2) (mc := 0) (ms := 0) (maxL := 3) (rest := [.ref b8]) (av := [.ref b9, .int x4, .int 0]) (fun T hT X => by obtain ⟨cb, r1, r2, r3⟩ := xb_recv (ci := 1) hR rfl hk10 (by decide); exact xt_invV X hx hown (hts _ m_ad29ee25) (hts _ m_8e233096) (hts _ m_27eed10c) (xt_sigOf (hts _ m_ff1c70ae)) nm_Row_at (by rw [hT]; exact r1) r2 r3 (g := F0 m 41 ls [.int 0, .int x4, .ref b9, .ref b8]) rfl (argsL := [.int x4, .int 0]) (rest := [.ref b8]) rfl rfl (by rw [hb]; exact (xb_d D_World_instanceNamed 21 rfl))) (ok_Row_at l hfl D A σ b9 x4 0 h5 _ hw) (hml.trans hl.1.symm) (by rw [hb]; exact (xb_d D_World_instanceNamed 21 rfl)) (Nat.le_of_ble_eq_true rfl) (Nat.le_of_ble_eq_true rfl) (Nat.le_of_ble_eq_true rfl) (show k + 0 ≤ MC by omega) (show n + 0 ≤ MS by omega) (xt_w1 hB.1 m_ff1c70ae) (xt_cdOf hB.1 m_ff1c70ae) (hts _ m_c1bef504) hB hR hS hA (fun vv h11 H locs hq hEh11 hR hS => ?_) (fun XX ax h11 H locs hq hEh11 hex hR hS => ?_)
          · obtain ⟨r12, rfl, hw⟩ := hq
            have hw := hw hEh11
            have hE := hE.tr hEh11
            refine W.eq (g2 := F0 m 44 ls [.int r12, .ref b8]) rfl ?_
            refine lv_aload_n hx hb (xb_d D_World_instanceNamed 22 rfl) rfl (lv_at hl 1 rfl) ?_
            refine lv_iload_n hx hb (xb_d D_World_instanceNamed 23 rfl) rfl (lv_at hl 2 rfl) ?_
            refine lv_iload_n hx hb (xb_d D_World_instanceNamed 24 rfl) rfl (lv_at hl 3 rfl) ?_
            refine xb_call (D := D) (A := A) (σ := σ) (h := h11) (d := 2) (mc := 0) (ms := 0) (maxL := 6) (rest := []) (av := [.ref b8, .int r12, .ref x1, .int x2, .int x3]) (fun T hT X => xt_invS X hx hown (hts _ m_1dd644e2) (hts _ m_60db31ff) (hts _ m_9c375545) (xt_sgS (hts _ m_e49b5738)).1 (xt_sgS (hts _ m_e49b5738)).2 nm_StackModule_sameBytes (g := F0 m 47 ls [.int x3, .int x2, .ref x1, .int r12, .ref b8]) rfl (argsL := [.ref b8, .int r12, .ref x1, .int x2, .int x3]) (rest := []) rfl rfl (by rw [hb]; exact (xb_d D_World_instanceNamed 25 rfl))) (ok_StackModule_sameBytes l hfl D A σ b8 r12 x1 x2 x3 h11 _ hw) (hml.trans hl.1.symm) (by rw [hb]; exact (xb_d D_World_instanceNamed 25 rfl)) (Nat.le_of_ble_eq_true rfl) (Nat.le_of_ble_eq_true rfl) (Nat.le_of_ble_eq_true rfl) (show k + 0 ≤ MC by omega) (show n + 0 ≤ MS by omega) (xt_w1 hB.1 m_e49b5738) (xt_cdOf hB.1 m_e49b5738) (hts _ m_9c375545) hB hR hS hA (fun vv h13 H locs hq hEh13 hR hS => ?_) (fun XX ax h13 H locs hq hEh13 hex hR hS => ?_)
            · obtain ⟨r14, rfl, hw⟩ := hq
              have hw := hw hEh13
              have hE := hE.tr hEh13
              refine W.eq (g2 := F0 m 50 ls [.int r14]) rfl ?_
              refine lv_if_eq (tgt := 64) hx hb (xb_d D_World_instanceNamed 26 rfl) rfl (fun hc15 => ?_) (fun hc15 => ?_)
              · have hw := hw.1 hc15
                exact am_World_instanceNamed_L64 l hfl D A σ MC MS h0 Qr (w_World_instanceNamed_L11 Qr n9) ih x0 x1 x2 x3 x4 h13 hw p e s m args below meth c hC H locs ls k n hE (lv_sub hl [0, 1, 2, 3, 4] rfl) hR hS (by omega) (by omega)
              · have hw := hw.2 hc15
                refine lv_aload_n hx hb (xb_d D_World_instanceNamed 27 rfl) rfl (lv_at hl 0 rfl) ?_
                have hk2 : xb_k h11 x0 = 7 := hEh11.k hk2
                have hk2 : xb_k h13 x0 = 7 := hEh13.k hk2
                refine xb_getP (C := R_World) (T := F_World) (N := 16) hx hb 6 9 hts fin_World hown hR hk2 (by decide) rfl (by decide) rfl (hts _ m_99b823f6) (fun _ h9 => h9) (xb_d D_World_instanceNamed 28 rfl) ?_
                obtain ⟨b16, eb16, hw⟩ := hw
                refine xb_some eb16 ?_
                refine lv_iload hx hb (xb_d D_World_instanceNamed 29 rfl) (lv_at hl 4 rfl) ?_
                refine lv_iconst (v := 2) hx hb (xb_d D_World_instanceNamed 30 rfl) (by decide) ?_
                obtain ⟨hk17, hw⟩ := hw
                refine xb_call (D := D) (A := A) (σ := σ) (h := h13) (d := 2) (mc := 0) (ms := 0) (maxL := 3) (rest := []) (av := [.ref b16, .int x4, .int 2]) (fun T hT X => by obtain ⟨cb, r1, r2, r3⟩ := xb_recv (ci := 1) hR rfl hk17 (by decide); exact xt_invV X hx hown (hts _ m_ad29ee25) (hts _ m_8e233096) (hts _ m_27eed10c) (xt_sigOf (hts _ m_ff1c70ae)) nm_Row_at (by rw [hT]; exact r1) r2 r3 (g := F0 m 60 ls [.int 2, .int x4, .ref b16]) rfl (argsL := [.int x4, .int 2]) (rest := []) rfl rfl (by rw [hb]; exact (xb_d D_World_instanceNamed 31 rfl))) (ok_Row_at l hfl D A σ b16 x4 2 h13 _ hw) (hml.trans hl.1.symm) (by rw [hb]; exact (xb_d D_World_instanceNamed 31 rfl)) (Nat.le_of_ble_eq_true rfl) (Nat.le_of_ble_eq_true rfl) (Nat.le_of_ble_eq_true rfl) (show k + 0 ≤ MC by omega) (show n + 0 ≤ MS by omega) (xt_w1 hB.1 m_ff1c70ae) (xt_cdOf hB.1 m_ff1c70ae) (hts _ m_c1bef504) hB hR hS hA (fun vv h18 H locs hq hEh18 hR hS => ?_) (fun XX ax h18 H locs hq hEh18 hex hR hS => ?_)
                · obtain ⟨r19, rfl, hw⟩ := hq
                  have hw := hw hEh18
                  have hE := hE.tr hEh18
                  refine W.eq (g2 := F0 m 63 ls [.int r19]) rfl ?_
                  exact xb_iret hx hb hr hlocks (show k ≤ MC by omega) (show n ≤ MS by omega) hE hR hS (xb_d D_World_instanceNamed 32 rfl) hw
                · exact False.elim hq
            · exact False.elim hq
          · exact False.elim hq
      · exact False.elim hq

set_option maxHeartbeats 4000000 in
set_option maxRecDepth 100000 in
theorem ok_World_instanceNamed (l : Launch) (hfl : l.flags = pinnedFlags ++ [noTraceFlag]) (D : va_G) (A : Nat → Prop) (σ : Nat) (x0 : Nat) (x1 : Nat) (x2 : Int32) (x3 : Int32) (h : xb_H) (Qr : Int32 → xb_H → Prop) (hw : w_World_instanceNamed x0 x1 x2 x3 h Qr) : xt_Met l y_World_instanceNamed [.code y_World_instanceNamed b_World_instanceNamed 5 (some .int)] (xb_rm 3 0 0) (xb_Pc D A σ h [.ref x0, .ref x1, .int x2, .int x3]) (xb_Qc D A h (fun v h => ∃ r, v = some (.int r) ∧ Qr r h) (fun _ _ => False)) 0 0 A := by
  refine xb_ofAm (cc := b_World_instanceNamed) (by decide) (Nat.le_of_ble_eq_true rfl) ?_
  unfold w_World_instanceNamed at hw
  show xb_am l D A σ 3 0 0 h (fun v h => ∃ r, v = some (.int r) ∧ Qr r h) (fun _ _ => False) y_World_instanceNamed.cls y_World_instanceNamed.name b_World_instanceNamed 5 ([] : List ExceptionTableEntry) (some .int) 0 [(0, .ref x0), (1, .ref x1), (2, .int x2), (3, .int x3)] [] h 0 0
  obtain ⟨MC, hMC⟩ : ∃ x, x = 0 := ⟨_, rfl⟩
  obtain ⟨MS, hMS⟩ : ∃ x, x = 0 := ⟨_, rfl⟩
  rw [show xb_am l D A σ 3 0 0 = xb_am l D A σ 3 MC MS by rw [hMC, hMS]]
  obtain ⟨h0, hh0⟩ : ∃ x, x = h := ⟨_, rfl⟩
  rw [show xb_am l D A σ 3 MC MS h = xb_am l D A σ 3 MC MS h0 by rw [hh0]]
  intro p e s m args below meth c hC H locs ls k n hE hl hR hS hk hn
  obtain ⟨hx, hb, hown, hlocks, htab, hml, hr, hB, hA, hnm⟩ := id hC
  have hts := hB.1.1.at args
  refine lv_aload_n hx hb (xb_d D_World_instanceNamed 0 rfl) rfl (lv_at hl 0 rfl) ?_
  obtain ⟨hk1, hw⟩ := hw
  refine xb_getP (C := R_World) (T := F_World) (N := 16) hx hb 6 9 hts fin_World hown hR hk1 (by decide) rfl (by decide) rfl (hts _ m_99b823f6) (fun _ h9 => h9) (xb_d D_World_instanceNamed 1 rfl) ?_
  obtain ⟨b2, eb2, hw⟩ := hw
  refine xb_some eb2 ?_
  obtain ⟨hk3, hw⟩ := hw
  refine xb_call (D := D) (A := A) (σ := σ) (h := h) (d := 2) (mc := 0) (ms := 0) (maxL := 1) (rest := []) (av := [.ref b2]) (fun T hT X => by obtain ⟨cb, r1, r2, r3⟩ := xb_recv (ci := 1) hR rfl hk3 (by decide); exact xt_invV X hx hown (hts _ m_5b8308b9) (hts _ m_ded65609) (hts _ m_a4161156) (xt_sigOf (hts _ m_83ba3721)) nm_Row_lines (by rw [hT]; exact r1) r2 r3 (g := F0 m 4 ls [.ref b2]) rfl (argsL := []) (rest := []) rfl rfl (by rw [hb]; exact (xb_d D_World_instanceNamed 2 rfl))) (ok_Row_lines l hfl D A σ b2 h _ hw) (hml.trans hl.1.symm) (by rw [hb]; exact (xb_d D_World_instanceNamed 2 rfl)) (Nat.le_of_ble_eq_true rfl) (Nat.le_of_ble_eq_true rfl) (Nat.le_of_ble_eq_true rfl) (show k + 0 ≤ MC by omega) (show n + 0 ≤ MS by omega) (xt_w1 hB.1 m_83ba3721) (xt_cdOf hB.1 m_83ba3721) (hts _ m_c1bef504) hB hR hS hA (fun vv h4 H locs hq hEh4 hR hS => ?_) (fun XX ax h4 H locs hq hEh4 hex hR hS => ?_)
  · obtain ⟨r5, rfl, hw⟩ := hq
    have hw := hw hEh4
    have hE := hE.tr hEh4
    refine W.eq (g2 := F0 m 7 ls [.int r5]) rfl ?_
    refine lv_iconst (v := 1) hx hb (xb_d D_World_instanceNamed 3 rfl) (by decide) ?_
    refine lv_isub hx hb (xb_d D_World_instanceNamed 4 rfl) ?_
    obtain ⟨v6, ev6⟩ : ∃ x : Int32, x = (r5 - 1) := ⟨_, rfl⟩
    have hw := hw v6 ev6
    refine xt_numi (y := v6) ev6.symm ?_
    refine lv_istore hx hb (xb_d D_World_instanceNamed 5 rfl) hl (by decide) rfl (fun ls hl => ?_)
    have hl : lv_has ls 5 [(4, .int v6), (0, .ref x0), (1, .ref x1), (2, .int x2), (3, .int x3)] := hl
    obtain ⟨n8, hw⟩ := hw
    exact am_World_instanceNamed_L11 l hfl D A σ MC MS h0 Qr n8 x0 x1 x2 x3 v6 h4 hw p e s m args below meth c hC H locs ls k n hE (lv_sub hl [1, 2, 3, 4, 0] rfl) hR hS (by omega) (by omega)
  · exact False.elim hq

theorem m_25314627 : (.methodLink "StackHost$World" 232 y_Row_longAt : Cond) ∈ xt_tbl := xt_in (xt_t6 (List.mem_of_getElem? (i := 173) (by decide +kernel))) (by decide +kernel)
theorem m_c3be9c29 : (.constantLong "StackHost$World" 236 (-1) : Cond) ∈ xt_tbl := xt_in (xt_t6 (List.mem_of_getElem? (i := 174) (by decide +kernel))) (by decide +kernel)
set_option maxRecDepth 100000 in
def T_World_isWithin : List (Nat × Instr × Nat) := [(0, .aload_n 0, 1), (1, .iload_n 1, 1), (2, .iconst 2, 1), (3, .invokevirtual 232, 3), (6, .lstore 5, 2), (8, .iload_n 2, 1), (9, .i2l, 1), (10, .aload_n 0, 1), (11, .iload_n 1, 1), (12, .iconst 1, 1), (13, .invokevirtual 232, 3), (16, .lcmp, 1), (17, .ifCond .lt 31, 3), (20, .lload 5, 2), (22, .ldc2_w 236, 3), (25, .lcmp, 1), (26, .ifCond .eq 18, 3), (29, .lload_n 3, 1), (30, .ldc2_w 236, 3), (33, .lcmp, 1), (34, .ifCond .eq 14, 3), (37, .lload_n 3, 1), (38, .lload 5, 2), (40, .lcmp, 1), (41, .ifCond .gt 7, 3), (44, .iconst 1, 1), (45, .goto 4, 3), (48, .iconst 0, 1), (49, .ireturn, 1)]
theorem D_World_isWithin : ∀ q ∈ T_World_isWithin, decode b_World_isWithin q.1 = .ok (q.2.1, q.2.2) := by decide +kernel
def w_World_isWithin_L49 (Qr : Int32 → xb_H → Prop) (y0 : Int32) (h : xb_H) : Prop :=
    (y0 = 0 ∨ y0 = 1) ∧ Qr y0 h

def w_World_isWithin_L48 (Qr : Int32 → xb_H → Prop) (h : xb_H) : Prop :=
    w_World_isWithin_L49 Qr 0 h

def w_World_isWithin_L44 (Qr : Int32 → xb_H → Prop) (h : xb_H) : Prop :=
    w_World_isWithin_L49 Qr 1 h

def w_World_isWithin (x0 : Nat) (x1 : Int32) (x2 : Int32) (x3 : Int64) (h : xb_H) (Qr : Int32 → xb_H → Prop) : Prop :=
    xb_k h x0 = 2 ∧ w_Row_longAt x0 x1 2 h (fun (r3 : Int64) (h2 : xb_H) => xb_ext h h2 → w_Row_longAt x0 x1 1 h2 (fun (r5 : Int64) (h4 : xb_H) => xb_ext h2 h4 → (((Int32.toInt64 x2) < r5 → w_World_isWithin_L48 Qr h4) ∧ (¬ (Int32.toInt64 x2) < r5 → ((r3 = ((-1) : Int64) → w_World_isWithin_L44 Qr h4) ∧ (¬ r3 = ((-1) : Int64) → ((x3 = ((-1) : Int64) → w_World_isWithin_L48 Qr h4) ∧ (¬ x3 = ((-1) : Int64) → ((r3 < x3 → w_World_isWithin_L48 Qr h4) ∧ (¬ r3 < x3 → w_World_isWithin_L44 Qr h4))))))))))

set_option maxHeartbeats 4000000 in
set_option maxRecDepth 100000 in
theorem am_World_isWithin_L49 (l : Launch) (hfl : l.flags = pinnedFlags ++ [noTraceFlag]) (D : va_G) (A : Nat → Prop) (σ MC MS : Nat) (h0 : xb_H) (Qr : Int32 → xb_H → Prop) (y0 : Int32) (h : xb_H) (hw : w_World_isWithin_L49 Qr y0 h) : xb_am l D A σ 3 MC MS h0 (fun v h => ∃ r, v = some (.int r) ∧ Qr r h) (fun _ _ => False) y_World_isWithin.cls y_World_isWithin.name b_World_isWithin 7 ([] : List ExceptionTableEntry) (some .boolean) 49 [] [.int y0] h 0 0 := by
  unfold w_World_isWithin_L49 at hw
  intro p e s m args below meth c hC H locs ls k n hE hl hR hS hk hn
  obtain ⟨hx, hb, hown, hlocks, htab, hml, hr, hB, hA, hnm⟩ := id hC
  have hts := hB.1.1.at args
  exact xb_zret hx hb hr hlocks (show k ≤ MC by omega) (show n ≤ MS by omega) hw.1 hE hR hS (xb_d D_World_isWithin 28 rfl) hw.2

set_option maxHeartbeats 4000000 in
set_option maxRecDepth 100000 in
theorem am_World_isWithin_L48 (l : Launch) (hfl : l.flags = pinnedFlags ++ [noTraceFlag]) (D : va_G) (A : Nat → Prop) (σ MC MS : Nat) (h0 : xb_H) (Qr : Int32 → xb_H → Prop) (h : xb_H) (hw : w_World_isWithin_L48 Qr h) : xb_am l D A σ 3 MC MS h0 (fun v h => ∃ r, v = some (.int r) ∧ Qr r h) (fun _ _ => False) y_World_isWithin.cls y_World_isWithin.name b_World_isWithin 7 ([] : List ExceptionTableEntry) (some .boolean) 48 [] [] h 0 0 := by
  unfold w_World_isWithin_L48 at hw
  intro p e s m args below meth c hC H locs ls k n hE hl hR hS hk hn
  obtain ⟨hx, hb, hown, hlocks, htab, hml, hr, hB, hA, hnm⟩ := id hC
  have hts := hB.1.1.at args
  refine lv_iconst (v := 0) hx hb (xb_d D_World_isWithin 27 rfl) (by decide) ?_
  exact am_World_isWithin_L49 l hfl D A σ MC MS h0 Qr 0 h hw p e s m args below meth c hC H locs ls k n hE (lv_sub hl [] rfl) hR hS (by omega) (by omega)

set_option maxHeartbeats 4000000 in
set_option maxRecDepth 100000 in
theorem am_World_isWithin_L44 (l : Launch) (hfl : l.flags = pinnedFlags ++ [noTraceFlag]) (D : va_G) (A : Nat → Prop) (σ MC MS : Nat) (h0 : xb_H) (Qr : Int32 → xb_H → Prop) (h : xb_H) (hw : w_World_isWithin_L44 Qr h) : xb_am l D A σ 3 MC MS h0 (fun v h => ∃ r, v = some (.int r) ∧ Qr r h) (fun _ _ => False) y_World_isWithin.cls y_World_isWithin.name b_World_isWithin 7 ([] : List ExceptionTableEntry) (some .boolean) 44 [] [] h 0 0 := by
  unfold w_World_isWithin_L44 at hw
  intro p e s m args below meth c hC H locs ls k n hE hl hR hS hk hn
  obtain ⟨hx, hb, hown, hlocks, htab, hml, hr, hB, hA, hnm⟩ := id hC
  have hts := hB.1.1.at args
  refine lv_iconst (v := 1) hx hb (xb_d D_World_isWithin 25 rfl) (by decide) ?_
  refine lv_goto (tgt := 49) hx hb (xb_d D_World_isWithin 26 rfl) rfl ?_
  exact am_World_isWithin_L49 l hfl D A σ MC MS h0 Qr 1 h hw p e s m args below meth c hC H locs ls k n hE (lv_sub hl [] rfl) hR hS (by omega) (by omega)

set_option maxHeartbeats 4000000 in
set_option maxRecDepth 100000 in
theorem ok_World_isWithin (l : Launch) (hfl : l.flags = pinnedFlags ++ [noTraceFlag]) (D : va_G) (A : Nat → Prop) (σ : Nat) (x0 : Nat) (x1 : Int32) (x2 : Int32) (x3 : Int64) (h : xb_H) (Qr : Int32 → xb_H → Prop) (hw : w_World_isWithin x0 x1 x2 x3 h Qr) : xt_Met l y_World_isWithin [.code y_World_isWithin b_World_isWithin 7 (some .boolean)] (xb_rm 3 0 0) (xb_Pc D A σ h [.ref x0, .int x1, .int x2, .long x3]) (xb_Qc D A h (fun v h => ∃ r, v = some (.int r) ∧ Qr r h) (fun _ _ => False)) 0 0 A := by
  refine xb_ofAm (cc := b_World_isWithin) (by decide) (Nat.le_of_ble_eq_true rfl) ?_
  unfold w_World_isWithin at hw
  show xb_am l D A σ 3 0 0 h (fun v h => ∃ r, v = some (.int r) ∧ Qr r h) (fun _ _ => False) y_World_isWithin.cls y_World_isWithin.name b_World_isWithin 7 ([] : List ExceptionTableEntry) (some .boolean) 0 [(0, .ref x0), (1, .int x1), (2, .int x2), (3, .long x3)] [] h 0 0
  obtain ⟨MC, hMC⟩ : ∃ x, x = 0 := ⟨_, rfl⟩
  obtain ⟨MS, hMS⟩ : ∃ x, x = 0 := ⟨_, rfl⟩
  rw [show xb_am l D A σ 3 0 0 = xb_am l D A σ 3 MC MS by rw [hMC, hMS]]
  obtain ⟨h0, hh0⟩ : ∃ x, x = h := ⟨_, rfl⟩
  rw [show xb_am l D A σ 3 MC MS h = xb_am l D A σ 3 MC MS h0 by rw [hh0]]
  intro p e s m args below meth c hC H locs ls k n hE hl hR hS hk hn
  obtain ⟨hx, hb, hown, hlocks, htab, hml, hr, hB, hA, hnm⟩ := id hC
  have hts := hB.1.1.at args
  refine lv_aload_n hx hb (xb_d D_World_isWithin 0 rfl) rfl (lv_at hl 0 rfl) ?_
  refine lv_iload_n hx hb (xb_d D_World_isWithin 1 rfl) rfl (lv_at hl 1 rfl) ?_
  refine lv_iconst (v := 2) hx hb (xb_d D_World_isWithin 2 rfl) (by decide) ?_
  obtain ⟨hk1, hw⟩ := hw
  refine xb_call (D := D) (A := A) (σ := σ) (h := h) (d := 2) (mc := 0) (ms := 0) (maxL := 3) (rest := []) (av := [.ref x0, .int x1, .int 2]) (fun T hT X => by obtain ⟨cb, r1, r2, r3⟩ := xb_recv (ci := 1) hR rfl hk1 (by decide); exact xt_invV X hx hown (hts _ m_25314627) (hts _ m_8db3b24f) (hts _ m_78dc30a4) (xt_sigOf (hts _ m_a4177401)) nm_Row_longAt (by rw [hT]; exact r1) r2 r3 (g := F0 m 3 ls [.int 2, .int x1, .ref x0]) rfl (argsL := [.int x1, .int 2]) (rest := []) rfl rfl (by rw [hb]; exact (xb_d D_World_isWithin 3 rfl))) (ok_Row_longAt l hfl D A σ x0 x1 2 h _ hw) (hml.trans hl.1.symm) (by rw [hb]; exact (xb_d D_World_isWithin 3 rfl)) (Nat.le_of_ble_eq_true rfl) (Nat.le_of_ble_eq_true rfl) (Nat.le_of_ble_eq_true rfl) (show k + 0 ≤ MC by omega) (show n + 0 ≤ MS by omega) (xt_w1 hB.1 m_a4177401) (xt_cdOf hB.1 m_a4177401) (hts _ m_c1bef504) hB hR hS hA (fun vv h2 H locs hq hEh2 hR hS => ?_) (fun XX ax h2 H locs hq hEh2 hex hR hS => ?_)
  · obtain ⟨r3, rfl, hw⟩ := hq
    have hw := hw hEh2
    have hE := hE.tr hEh2
    refine W.eq (g2 := F0 m 6 ls [.long r3]) rfl ?_
    refine lv_lstore hx hb (xb_d D_World_isWithin 4 rfl) hl (by decide) rfl (fun ls hl => ?_)
    have hl : lv_has ls 7 [(5, .long r3), (0, .ref x0), (1, .int x1), (2, .int x2), (3, .long x3)] := hl
    refine lv_iload_n hx hb (xb_d D_World_isWithin 5 rfl) rfl (lv_at hl 3 rfl) ?_
    refine lv_i2l hx hb (xb_d D_World_isWithin 6 rfl) rfl ?_
    refine lv_aload_n hx hb (xb_d D_World_isWithin 7 rfl) rfl (lv_at hl 1 rfl) ?_
    refine lv_iload_n hx hb (xb_d D_World_isWithin 8 rfl) rfl (lv_at hl 2 rfl) ?_
    refine lv_iconst (v := 1) hx hb (xb_d D_World_isWithin 9 rfl) (by decide) ?_
    have hk1 : xb_k h2 x0 = 2 := hEh2.k hk1
    refine xb_call (D := D) (A := A) (σ := σ) (h := h2) (d := 2) (mc := 0) (ms := 0) (maxL := 3) (rest := [.long (Int32.toInt64 x2)]) (av := [.ref x0, .int x1, .int 1]) (fun T hT X => by obtain ⟨cb, r1, r2, r3⟩ := xb_recv (ci := 1) hR rfl hk1 (by decide); exact xt_invV X hx hown (hts _ m_25314627) (hts _ m_8db3b24f) (hts _ m_78dc30a4) (xt_sigOf (hts _ m_a4177401)) nm_Row_longAt (by rw [hT]; exact r1) r2 r3 (g := F0 m 13 ls [.int 1, .int x1, .ref x0, .long (Int32.toInt64 x2)]) rfl (argsL := [.int x1, .int 1]) (rest := [.long (Int32.toInt64 x2)]) rfl rfl (by rw [hb]; exact (xb_d D_World_isWithin 10 rfl))) (ok_Row_longAt l hfl D A σ x0 x1 1 h2 _ hw) (hml.trans hl.1.symm) (by rw [hb]; exact (xb_d D_World_isWithin 10 rfl)) (Nat.le_of_ble_eq_true rfl) (Nat.le_of_ble_eq_true rfl) (Nat.le_of_ble_eq_true rfl) (show k + 0 ≤ MC by omega) (show n + 0 ≤ MS by omega) (xt_w1 hB.1 m_a4177401) (xt_cdOf hB.1 m_a4177401) (hts _ m_c1bef504) hB hR hS hA (fun vv h4 H locs hq hEh4 hR hS => ?_) (fun XX ax h4 H locs hq hEh4 hex hR hS => ?_)
    · obtain ⟨r5, rfl, hw⟩ := hq
      have hw := hw hEh4
      have hE := hE.tr hEh4
      refine W.eq (g2 := F0 m 16 ls [.long r5, .long (Int32.toInt64 x2)]) rfl ?_
      refine xb_lc_lt (tgt := 48) hx hb (xb_d D_World_isWithin 11 rfl) (xb_d D_World_isWithin 12 rfl) rfl (fun hc6 => ?_) (fun hc6 => ?_)
      · have hw := hw.1 hc6
        exact am_World_isWithin_L48 l hfl D A σ MC MS h0 Qr h4 hw p e s m args below meth c hC H locs ls k n hE (lv_sub hl [] rfl) hR hS (by omega) (by omega)
      · have hw := hw.2 hc6
        refine lv_lload hx hb (xb_d D_World_isWithin 13 rfl) (lv_at hl 0 rfl) ?_
        refine lv_ldc2 (v := (-1)) hx hb hown (hts _ m_c3be9c29) (xb_d D_World_isWithin 14 rfl) ?_
        refine xb_lc_eq (tgt := 44) hx hb (xb_d D_World_isWithin 15 rfl) (xb_d D_World_isWithin 16 rfl) rfl (fun hc7 => ?_) (fun hc7 => ?_)
        · have hw := hw.1 hc7
          exact am_World_isWithin_L44 l hfl D A σ MC MS h0 Qr h4 hw p e s m args below meth c hC H locs ls k n hE (lv_sub hl [] rfl) hR hS (by omega) (by omega)
        · have hw := hw.2 hc7
          refine lv_lload_n hx hb (xb_d D_World_isWithin 17 rfl) rfl (lv_at hl 4 rfl) ?_
          refine lv_ldc2 (v := (-1)) hx hb hown (hts _ m_c3be9c29) (xb_d D_World_isWithin 18 rfl) ?_
          refine xb_lc_eq (tgt := 48) hx hb (xb_d D_World_isWithin 19 rfl) (xb_d D_World_isWithin 20 rfl) rfl (fun hc8 => ?_) (fun hc8 => ?_)
          · have hw := hw.1 hc8
            exact am_World_isWithin_L48 l hfl D A σ MC MS h0 Qr h4 hw p e s m args below meth c hC H locs ls k n hE (lv_sub hl [] rfl) hR hS (by omega) (by omega)
          · have hw := hw.2 hc8
            refine lv_lload_n hx hb (xb_d D_World_isWithin 21 rfl) rfl (lv_at hl 4 rfl) ?_
            refine lv_lload hx hb (xb_d D_World_isWithin 22 rfl) (lv_at hl 0 rfl) ?_
            refine xb_lc_gt (tgt := 48) hx hb (xb_d D_World_isWithin 23 rfl) (xb_d D_World_isWithin 24 rfl) rfl (fun hc9 => ?_) (fun hc9 => ?_)
            · have hw := hw.1 hc9
              exact am_World_isWithin_L48 l hfl D A σ MC MS h0 Qr h4 hw p e s m args below meth c hC H locs ls k n hE (lv_sub hl [] rfl) hR hS (by omega) (by omega)
            · have hw := hw.2 hc9
              exact am_World_isWithin_L44 l hfl D A σ MC MS h0 Qr h4 hw p e s m args below meth c hC H locs ls k n hE (lv_sub hl [] rfl) hR hS (by omega) (by omega)
    · exact False.elim hq
  · exact False.elim hq

theorem m_64a182b7 : (.fieldLink "StackHost$World" 239 "StackHost$StackModule" "imported" "[I" : Cond) ∈ xt_tbl := xt_in (xt_t3 (List.mem_of_getElem? (i := 116) (by decide +kernel))) (by decide +kernel)
set_option maxRecDepth 100000 in
def T_World_ownLeast : List (Nat × Instr × Nat) := [(0, .aload_n 1, 1), (1, .invokevirtual 75, 3), (4, .aload_n 0, 1), (5, .getfield 239, 3), (8, .iload_n 2, 1), (9, .iaload, 1), (10, .if_icmp .le 17, 3), (13, .aload_n 1, 1), (14, .aload_n 0, 1), (15, .getfield 239, 3), (18, .iload_n 2, 1), (19, .iaload, 1), (20, .iconst 1, 1), (21, .invokevirtual 232, 3), (24, .goto 4, 3), (27, .lconst 0, 1), (28, .lreturn, 1)]
theorem D_World_ownLeast : ∀ q ∈ T_World_ownLeast, decode b_World_ownLeast q.1 = .ok (q.2.1, q.2.2) := by decide +kernel
def w_World_ownLeast_L28 (Qr : Int64 → xb_H → Prop) (y0 : Int64) (h : xb_H) : Prop :=
    Qr y0 h

def w_World_ownLeast (x0 : Nat) (x1 : Nat) (x2 : Int32) (h : xb_H) (Qr : Int64 → xb_H → Prop) : Prop :=
    xb_k h x1 = 2 ∧ w_Row_lines x1 h (fun (r3 : Int32) (h2 : xb_H) => xb_ext h h2 → xb_k h2 x0 = 3 ∧ ∃ b5 : Nat, (xb_r h2 x0 14) = some b5 ∧ xb_k h2 b5 = 102 ∧ vp_in x2 (xb_n h2 b5) ∧ ((r3 ≤ (xb_i h2 b5 (Int32.toNatClampNeg x2)) → w_World_ownLeast_L28 Qr 0 h2) ∧ (¬ r3 ≤ (xb_i h2 b5 (Int32.toNatClampNeg x2)) → ∃ b9 : Nat, (xb_r h2 x0 14) = some b9 ∧ xb_k h2 b9 = 102 ∧ vp_in x2 (xb_n h2 b9) ∧ w_Row_longAt x1 (xb_i h2 b9 (Int32.toNatClampNeg x2)) 1 h2 (fun (r13 : Int64) (h12 : xb_H) => xb_ext h2 h12 → w_World_ownLeast_L28 Qr r13 h12))))

set_option maxHeartbeats 4000000 in
set_option maxRecDepth 100000 in
theorem am_World_ownLeast_L28 (l : Launch) (hfl : l.flags = pinnedFlags ++ [noTraceFlag]) (D : va_G) (A : Nat → Prop) (σ MC MS : Nat) (h0 : xb_H) (Qr : Int64 → xb_H → Prop) (y0 : Int64) (h : xb_H) (hw : w_World_ownLeast_L28 Qr y0 h) : xb_am l D A σ 3 MC MS h0 (fun v h => ∃ r, v = some (.long r) ∧ Qr r h) (fun _ _ => False) y_World_ownLeast.cls y_World_ownLeast.name b_World_ownLeast 3 ([] : List ExceptionTableEntry) (some .long) 28 [] [.long y0] h 0 0 := by
  unfold w_World_ownLeast_L28 at hw
  intro p e s m args below meth c hC H locs ls k n hE hl hR hS hk hn
  obtain ⟨hx, hb, hown, hlocks, htab, hml, hr, hB, hA, hnm⟩ := id hC
  have hts := hB.1.1.at args
  exact xb_lret hx hb hr hlocks (show k ≤ MC by omega) (show n ≤ MS by omega) hE hR hS (xb_d D_World_ownLeast 16 rfl) hw

set_option maxHeartbeats 4000000 in
set_option maxRecDepth 100000 in
theorem ok_World_ownLeast (l : Launch) (hfl : l.flags = pinnedFlags ++ [noTraceFlag]) (D : va_G) (A : Nat → Prop) (σ : Nat) (x0 : Nat) (x1 : Nat) (x2 : Int32) (h : xb_H) (Qr : Int64 → xb_H → Prop) (hw : w_World_ownLeast x0 x1 x2 h Qr) : xt_Met l y_World_ownLeast [.code y_World_ownLeast b_World_ownLeast 3 (some .long)] (xb_rm 3 0 0) (xb_Pc D A σ h [.ref x0, .ref x1, .int x2]) (xb_Qc D A h (fun v h => ∃ r, v = some (.long r) ∧ Qr r h) (fun _ _ => False)) 0 0 A := by
  refine xb_ofAm (cc := b_World_ownLeast) (by decide) (Nat.le_of_ble_eq_true rfl) ?_
  unfold w_World_ownLeast at hw
  show xb_am l D A σ 3 0 0 h (fun v h => ∃ r, v = some (.long r) ∧ Qr r h) (fun _ _ => False) y_World_ownLeast.cls y_World_ownLeast.name b_World_ownLeast 3 ([] : List ExceptionTableEntry) (some .long) 0 [(0, .ref x0), (1, .ref x1), (2, .int x2)] [] h 0 0
  obtain ⟨MC, hMC⟩ : ∃ x, x = 0 := ⟨_, rfl⟩
  obtain ⟨MS, hMS⟩ : ∃ x, x = 0 := ⟨_, rfl⟩
  rw [show xb_am l D A σ 3 0 0 = xb_am l D A σ 3 MC MS by rw [hMC, hMS]]
  obtain ⟨h0, hh0⟩ : ∃ x, x = h := ⟨_, rfl⟩
  rw [show xb_am l D A σ 3 MC MS h = xb_am l D A σ 3 MC MS h0 by rw [hh0]]
  intro p e s m args below meth c hC H locs ls k n hE hl hR hS hk hn
  obtain ⟨hx, hb, hown, hlocks, htab, hml, hr, hB, hA, hnm⟩ := id hC
  have hts := hB.1.1.at args
  refine lv_aload_n hx hb (xb_d D_World_ownLeast 0 rfl) rfl (lv_at hl 1 rfl) ?_
  obtain ⟨hk1, hw⟩ := hw
  refine xb_call (D := D) (A := A) (σ := σ) (h := h) (d := 2) (mc := 0) (ms := 0) (maxL := 1) (rest := []) (av := [.ref x1]) (fun T hT X => by obtain ⟨cb, r1, r2, r3⟩ := xb_recv (ci := 1) hR rfl hk1 (by decide); exact xt_invV X hx hown (hts _ m_5b8308b9) (hts _ m_ded65609) (hts _ m_a4161156) (xt_sigOf (hts _ m_83ba3721)) nm_Row_lines (by rw [hT]; exact r1) r2 r3 (g := F0 m 1 ls [.ref x1]) rfl (argsL := []) (rest := []) rfl rfl (by rw [hb]; exact (xb_d D_World_ownLeast 1 rfl))) (ok_Row_lines l hfl D A σ x1 h _ hw) (hml.trans hl.1.symm) (by rw [hb]; exact (xb_d D_World_ownLeast 1 rfl)) (Nat.le_of_ble_eq_true rfl) (Nat.le_of_ble_eq_true rfl) (Nat.le_of_ble_eq_true rfl) (show k + 0 ≤ MC by omega) (show n + 0 ≤ MS by omega) (xt_w1 hB.1 m_83ba3721) (xt_cdOf hB.1 m_83ba3721) (hts _ m_c1bef504) hB hR hS hA (fun vv h2 H locs hq hEh2 hR hS => ?_) (fun XX ax h2 H locs hq hEh2 hex hR hS => ?_)
  · obtain ⟨r3, rfl, hw⟩ := hq
    have hw := hw hEh2
    have hE := hE.tr hEh2
    refine W.eq (g2 := F0 m 4 ls [.int r3]) rfl ?_
    refine lv_aload_n hx hb (xb_d D_World_ownLeast 2 rfl) rfl (lv_at hl 0 rfl) ?_
    obtain ⟨hk4, hw⟩ := hw
    refine xb_getP (C := R_StackModule) (T := F_StackModule) (N := 19) hx hb 2 14 hts fin_StackModule hown hR hk4 (by decide) rfl (by decide) rfl (hts _ m_64a182b7) (fun _ h9 => h9) (xb_d D_World_ownLeast 3 rfl) ?_
    obtain ⟨b5, eb5, hw⟩ := hw
    refine xb_some eb5 ?_
    refine lv_iload_n hx hb (xb_d D_World_ownLeast 4 rfl) rfl (lv_at hl 2 rfl) ?_
    obtain ⟨hk7, hw⟩ := hw
    obtain ⟨hi6, hw⟩ := hw
    refine xb_iald hx hb hR hk7 hi6 (xb_d D_World_ownLeast 5 rfl) ?_
    refine lv_icmp_le (tgt := 27) hx hb (xb_d D_World_ownLeast 6 rfl) rfl (fun hc8 => ?_) (fun hc8 => ?_)
    · have hw := hw.1 hc8
      refine lv_lconst (v := 0) hx hb (xb_d D_World_ownLeast 15 rfl) (by decide) ?_
      exact am_World_ownLeast_L28 l hfl D A σ MC MS h0 Qr 0 h2 hw p e s m args below meth c hC H locs ls k n hE (lv_sub hl [] rfl) hR hS (by omega) (by omega)
    · have hw := hw.2 hc8
      refine lv_aload_n hx hb (xb_d D_World_ownLeast 7 rfl) rfl (lv_at hl 1 rfl) ?_
      refine lv_aload_n hx hb (xb_d D_World_ownLeast 8 rfl) rfl (lv_at hl 0 rfl) ?_
      refine xb_getP (C := R_StackModule) (T := F_StackModule) (N := 19) hx hb 2 14 hts fin_StackModule hown hR hk4 (by decide) rfl (by decide) rfl (hts _ m_64a182b7) (fun _ h9 => h9) (xb_d D_World_ownLeast 9 rfl) ?_
      obtain ⟨b9, eb9, hw⟩ := hw
      refine xb_some eb9 ?_
      refine lv_iload_n hx hb (xb_d D_World_ownLeast 10 rfl) rfl (lv_at hl 2 rfl) ?_
      obtain ⟨hk11, hw⟩ := hw
      obtain ⟨hi10, hw⟩ := hw
      refine xb_iald hx hb hR hk11 hi10 (xb_d D_World_ownLeast 11 rfl) ?_
      refine lv_iconst (v := 1) hx hb (xb_d D_World_ownLeast 12 rfl) (by decide) ?_
      have hk1 : xb_k h2 x1 = 2 := hEh2.k hk1
      refine xb_call (D := D) (A := A) (σ := σ) (h := h2) (d := 2) (mc := 0) (ms := 0) (maxL := 3) (rest := []) (av := [.ref x1, .int (xb_i h2 b9 (Int32.toNatClampNeg x2)), .int 1]) (fun T hT X => by obtain ⟨cb, r1, r2, r3⟩ := xb_recv (ci := 1) hR rfl hk1 (by decide); exact xt_invV X hx hown (hts _ m_25314627) (hts _ m_8db3b24f) (hts _ m_78dc30a4) (xt_sigOf (hts _ m_a4177401)) nm_Row_longAt (by rw [hT]; exact r1) r2 r3 (g := F0 m 21 ls [.int 1, .int (xb_i h2 b9 (Int32.toNatClampNeg x2)), .ref x1]) rfl (argsL := [.int (xb_i h2 b9 (Int32.toNatClampNeg x2)), .int 1]) (rest := []) rfl rfl (by rw [hb]; exact (xb_d D_World_ownLeast 13 rfl))) (ok_Row_longAt l hfl D A σ x1 (xb_i h2 b9 (Int32.toNatClampNeg x2)) 1 h2 _ hw) (hml.trans hl.1.symm) (by rw [hb]; exact (xb_d D_World_ownLeast 13 rfl)) (Nat.le_of_ble_eq_true rfl) (Nat.le_of_ble_eq_true rfl) (Nat.le_of_ble_eq_true rfl) (show k + 0 ≤ MC by omega) (show n + 0 ≤ MS by omega) (xt_w1 hB.1 m_a4177401) (xt_cdOf hB.1 m_a4177401) (hts _ m_c1bef504) hB hR hS hA (fun vv h12 H locs hq hEh12 hR hS => ?_) (fun XX ax h12 H locs hq hEh12 hex hR hS => ?_)
      · obtain ⟨r13, rfl, hw⟩ := hq
        have hw := hw hEh12
        have hE := hE.tr hEh12
        refine W.eq (g2 := F0 m 24 ls [.long r13]) rfl ?_
        refine lv_goto (tgt := 28) hx hb (xb_d D_World_ownLeast 14 rfl) rfl ?_
        exact am_World_ownLeast_L28 l hfl D A σ MC MS h0 Qr r13 h12 hw p e s m args below meth c hC H locs ls k n hE (lv_sub hl [] rfl) hR hS (by omega) (by omega)
      · exact False.elim hq
  · exact False.elim hq

set_option maxRecDepth 100000 in
def T_World_ownerOf : List (Nat × Instr × Nat) := [(0, .aload_n 0, 1), (1, .getfield 11, 3), (4, .aload_n 0, 1), (5, .getfield 22, 3), (8, .iload_n 1, 1), (9, .iconst 0, 1), (10, .invokevirtual 51, 3), (13, .aaload, 1), (14, .areturn, 1)]
theorem D_World_ownerOf : ∀ q ∈ T_World_ownerOf, decode b_World_ownerOf q.1 = .ok (q.2.1, q.2.2) := by decide +kernel
def w_World_ownerOf (x0 : Nat) (x1 : Int32) (h : xb_H) (Qr : Nat → xb_H → Prop) : Prop :=
    xb_k h x0 = 7 ∧ ∃ b2 : Nat, (xb_r h x0 0) = some b2 ∧ ∃ b3 : Nat, (xb_r h x0 2) = some b3 ∧ xb_k h b3 = 2 ∧ w_Row_at b3 x1 0 h (fun (r6 : Int32) (h5 : xb_H) => xb_ext h h5 → xb_k h5 b2 = 105 ∧ vp_in r6 (xb_n h5 b2) ∧ ∃ b9 : Nat, (xb_r h5 b2 (Int32.toNatClampNeg r6)) = some b9 ∧ Qr b9 h5)

set_option maxHeartbeats 4000000 in
set_option maxRecDepth 100000 in
theorem ok_World_ownerOf (l : Launch) (hfl : l.flags = pinnedFlags ++ [noTraceFlag]) (D : va_G) (A : Nat → Prop) (σ : Nat) (x0 : Nat) (x1 : Int32) (h : xb_H) (Qr : Nat → xb_H → Prop) (hw : w_World_ownerOf x0 x1 h Qr) : xt_Met l y_World_ownerOf [.code y_World_ownerOf b_World_ownerOf 2 (some (.object "StackHost$Instance"))] (xb_rm 3 0 0) (xb_Pc D A σ h [.ref x0, .int x1]) (xb_Qc D A h (fun v h => ∃ r, v = some (.ref r) ∧ Qr r h) (fun _ _ => False)) 0 0 A := by
  refine xb_ofAm (cc := b_World_ownerOf) (by decide) (Nat.le_of_ble_eq_true rfl) ?_
  unfold w_World_ownerOf at hw
  show xb_am l D A σ 3 0 0 h (fun v h => ∃ r, v = some (.ref r) ∧ Qr r h) (fun _ _ => False) y_World_ownerOf.cls y_World_ownerOf.name b_World_ownerOf 2 ([] : List ExceptionTableEntry) (some (.object "StackHost$Instance")) 0 [(0, .ref x0), (1, .int x1)] [] h 0 0
  obtain ⟨MC, hMC⟩ : ∃ x, x = 0 := ⟨_, rfl⟩
  obtain ⟨MS, hMS⟩ : ∃ x, x = 0 := ⟨_, rfl⟩
  rw [show xb_am l D A σ 3 0 0 = xb_am l D A σ 3 MC MS by rw [hMC, hMS]]
  obtain ⟨h0, hh0⟩ : ∃ x, x = h := ⟨_, rfl⟩
  rw [show xb_am l D A σ 3 MC MS h = xb_am l D A σ 3 MC MS h0 by rw [hh0]]
  intro p e s m args below meth c hC H locs ls k n hE hl hR hS hk hn
  obtain ⟨hx, hb, hown, hlocks, htab, hml, hr, hB, hA, hnm⟩ := id hC
  have hts := hB.1.1.at args
  refine lv_aload_n hx hb (xb_d D_World_ownerOf 0 rfl) rfl (lv_at hl 0 rfl) ?_
  obtain ⟨hk1, hw⟩ := hw
  refine xb_getP (C := R_World) (T := F_World) (N := 16) hx hb 6 0 hts fin_World hown hR hk1 (by decide) rfl (by decide) rfl (hts _ m_7dbedc06) (fun _ h9 => h9) (xb_d D_World_ownerOf 1 rfl) ?_
  obtain ⟨b2, eb2, hw⟩ := hw
  refine xb_some eb2 ?_
  refine lv_aload_n hx hb (xb_d D_World_ownerOf 2 rfl) rfl (lv_at hl 0 rfl) ?_
  refine xb_getP (C := R_World) (T := F_World) (N := 16) hx hb 6 2 hts fin_World hown hR hk1 (by decide) rfl (by decide) rfl (hts _ m_2d976539) (fun _ h9 => h9) (xb_d D_World_ownerOf 3 rfl) ?_
  obtain ⟨b3, eb3, hw⟩ := hw
  refine xb_some eb3 ?_
  refine lv_iload_n hx hb (xb_d D_World_ownerOf 4 rfl) rfl (lv_at hl 1 rfl) ?_
  refine lv_iconst (v := 0) hx hb (xb_d D_World_ownerOf 5 rfl) (by decide) ?_
  obtain ⟨hk4, hw⟩ := hw
  refine xb_call (D := D) (A := A) (σ := σ) (h := h) (d := 2) (mc := 0) (ms := 0) (maxL := 3) (rest := [.ref b2]) (av := [.ref b3, .int x1, .int 0]) (fun T hT X => by obtain ⟨cb, r1, r2, r3⟩ := xb_recv (ci := 1) hR rfl hk4 (by decide); exact xt_invV X hx hown (hts _ m_ad29ee25) (hts _ m_8e233096) (hts _ m_27eed10c) (xt_sigOf (hts _ m_ff1c70ae)) nm_Row_at (by rw [hT]; exact r1) r2 r3 (g := F0 m 10 ls [.int 0, .int x1, .ref b3, .ref b2]) rfl (argsL := [.int x1, .int 0]) (rest := [.ref b2]) rfl rfl (by rw [hb]; exact (xb_d D_World_ownerOf 6 rfl))) (ok_Row_at l hfl D A σ b3 x1 0 h _ hw) (hml.trans hl.1.symm) (by rw [hb]; exact (xb_d D_World_ownerOf 6 rfl)) (Nat.le_of_ble_eq_true rfl) (Nat.le_of_ble_eq_true rfl) (Nat.le_of_ble_eq_true rfl) (show k + 0 ≤ MC by omega) (show n + 0 ≤ MS by omega) (xt_w1 hB.1 m_ff1c70ae) (xt_cdOf hB.1 m_ff1c70ae) (hts _ m_c1bef504) hB hR hS hA (fun vv h5 H locs hq hEh5 hR hS => ?_) (fun XX ax h5 H locs hq hEh5 hex hR hS => ?_)
  · obtain ⟨r6, rfl, hw⟩ := hq
    have hw := hw hEh5
    have hE := hE.tr hEh5
    refine W.eq (g2 := F0 m 13 ls [.int r6, .ref b2]) rfl ?_
    obtain ⟨hk8, hw⟩ := hw
    obtain ⟨hi7, hw⟩ := hw
    refine xb_aald105 hx hb hR hk8 hi7 (xb_d D_World_ownerOf 7 rfl) ?_
    obtain ⟨b9, eb9, hw⟩ := hw
    refine xb_some eb9 ?_
    exact xb_aret hx hb hr (by first | exact Or.inl ⟨_, rfl⟩ | exact Or.inr ⟨_, rfl⟩) hlocks (show k ≤ MC by omega) (show n ≤ MS by omega) hE hR hS (xb_d D_World_ownerOf 8 rfl) hw
  · exact False.elim hq

theorem m_86aae10b : (.fieldLink "StackHost$World" 238 "StackHost$StackModule" "variables" "LStackHost$Row;" : Cond) ∈ xt_tbl := xt_in (xt_t3 (List.mem_of_getElem? (i := 83) (by decide +kernel))) (by decide +kernel)
set_option maxRecDepth 100000 in
def T_World_sameVariable : List (Nat × Instr × Nat) := [(0, .aload_n 0, 1), (1, .getfield 238, 3), (4, .iload_n 1, 1), (5, .iconst 1, 1), (6, .invokevirtual 51, 3), (9, .aload_n 2, 1), (10, .getfield 238, 3), (13, .iload_n 3, 1), (14, .iconst 1, 1), (15, .invokevirtual 51, 3), (18, .if_icmp .ne 28, 3), (21, .aload_n 0, 1), (22, .getfield 238, 3), (25, .iload_n 1, 1), (26, .iconst 2, 1), (27, .invokevirtual 51, 3), (30, .aload_n 2, 1), (31, .getfield 238, 3), (34, .iload_n 3, 1), (35, .iconst 2, 1), (36, .invokevirtual 51, 3), (39, .if_icmp .ne 7, 3), (42, .iconst 1, 1), (43, .goto 4, 3), (46, .iconst 0, 1), (47, .ireturn, 1)]
theorem D_World_sameVariable : ∀ q ∈ T_World_sameVariable, decode b_World_sameVariable q.1 = .ok (q.2.1, q.2.2) := by decide +kernel
def w_World_sameVariable_L47 (Qr : Int32 → xb_H → Prop) (y0 : Int32) (h : xb_H) : Prop :=
    (y0 = 0 ∨ y0 = 1) ∧ Qr y0 h

def w_World_sameVariable_L46 (Qr : Int32 → xb_H → Prop) (h : xb_H) : Prop :=
    w_World_sameVariable_L47 Qr 0 h

def w_World_sameVariable (x0 : Nat) (x1 : Int32) (x2 : Nat) (x3 : Int32) (h : xb_H) (Qr : Int32 → xb_H → Prop) : Prop :=
    xb_k h x0 = 3 ∧ ∃ b2 : Nat, (xb_r h x0 7) = some b2 ∧ xb_k h b2 = 2 ∧ w_Row_at b2 x1 1 h (fun (r5 : Int32) (h4 : xb_H) => xb_ext h h4 → xb_k h4 x2 = 3 ∧ ∃ b7 : Nat, (xb_r h4 x2 7) = some b7 ∧ xb_k h4 b7 = 2 ∧ w_Row_at b7 x3 1 h4 (fun (r10 : Int32) (h9 : xb_H) => xb_ext h4 h9 → ((¬ r5 = r10 → w_World_sameVariable_L46 Qr h9) ∧ (r5 = r10 → ∃ b12 : Nat, (xb_r h9 x0 7) = some b12 ∧ xb_k h9 b12 = 2 ∧ w_Row_at b12 x1 2 h9 (fun (r15 : Int32) (h14 : xb_H) => xb_ext h9 h14 → ∃ b16 : Nat, (xb_r h14 x2 7) = some b16 ∧ xb_k h14 b16 = 2 ∧ w_Row_at b16 x3 2 h14 (fun (r19 : Int32) (h18 : xb_H) => xb_ext h14 h18 → ((¬ r15 = r19 → w_World_sameVariable_L46 Qr h18) ∧ (r15 = r19 → w_World_sameVariable_L47 Qr 1 h18))))))))

set_option maxHeartbeats 4000000 in
set_option maxRecDepth 100000 in
theorem am_World_sameVariable_L47 (l : Launch) (hfl : l.flags = pinnedFlags ++ [noTraceFlag]) (D : va_G) (A : Nat → Prop) (σ MC MS : Nat) (h0 : xb_H) (Qr : Int32 → xb_H → Prop) (y0 : Int32) (h : xb_H) (hw : w_World_sameVariable_L47 Qr y0 h) : xb_am l D A σ 3 MC MS h0 (fun v h => ∃ r, v = some (.int r) ∧ Qr r h) (fun _ _ => False) y_World_sameVariable.cls y_World_sameVariable.name b_World_sameVariable 4 ([] : List ExceptionTableEntry) (some .boolean) 47 [] [.int y0] h 0 0 := by
  unfold w_World_sameVariable_L47 at hw
  intro p e s m args below meth c hC H locs ls k n hE hl hR hS hk hn
  obtain ⟨hx, hb, hown, hlocks, htab, hml, hr, hB, hA, hnm⟩ := id hC
  have hts := hB.1.1.at args
  exact xb_zret hx hb hr hlocks (show k ≤ MC by omega) (show n ≤ MS by omega) hw.1 hE hR hS (xb_d D_World_sameVariable 25 rfl) hw.2

set_option maxHeartbeats 4000000 in
set_option maxRecDepth 100000 in
theorem am_World_sameVariable_L46 (l : Launch) (hfl : l.flags = pinnedFlags ++ [noTraceFlag]) (D : va_G) (A : Nat → Prop) (σ MC MS : Nat) (h0 : xb_H) (Qr : Int32 → xb_H → Prop) (h : xb_H) (hw : w_World_sameVariable_L46 Qr h) : xb_am l D A σ 3 MC MS h0 (fun v h => ∃ r, v = some (.int r) ∧ Qr r h) (fun _ _ => False) y_World_sameVariable.cls y_World_sameVariable.name b_World_sameVariable 4 ([] : List ExceptionTableEntry) (some .boolean) 46 [] [] h 0 0 := by
  unfold w_World_sameVariable_L46 at hw
  intro p e s m args below meth c hC H locs ls k n hE hl hR hS hk hn
  obtain ⟨hx, hb, hown, hlocks, htab, hml, hr, hB, hA, hnm⟩ := id hC
  have hts := hB.1.1.at args
  refine lv_iconst (v := 0) hx hb (xb_d D_World_sameVariable 24 rfl) (by decide) ?_
  exact am_World_sameVariable_L47 l hfl D A σ MC MS h0 Qr 0 h hw p e s m args below meth c hC H locs ls k n hE (lv_sub hl [] rfl) hR hS (by omega) (by omega)

set_option maxHeartbeats 4000000 in
set_option maxRecDepth 100000 in
theorem ok_World_sameVariable (l : Launch) (hfl : l.flags = pinnedFlags ++ [noTraceFlag]) (D : va_G) (A : Nat → Prop) (σ : Nat) (x0 : Nat) (x1 : Int32) (x2 : Nat) (x3 : Int32) (h : xb_H) (Qr : Int32 → xb_H → Prop) (hw : w_World_sameVariable x0 x1 x2 x3 h Qr) : xt_Met l y_World_sameVariable [.code y_World_sameVariable b_World_sameVariable 4 (some .boolean)] (xb_rm 3 0 0) (xb_Pc D A σ h [.ref x0, .int x1, .ref x2, .int x3]) (xb_Qc D A h (fun v h => ∃ r, v = some (.int r) ∧ Qr r h) (fun _ _ => False)) 0 0 A := by
  refine xb_ofAm (cc := b_World_sameVariable) (by decide) (Nat.le_of_ble_eq_true rfl) ?_
  unfold w_World_sameVariable at hw
  show xb_am l D A σ 3 0 0 h (fun v h => ∃ r, v = some (.int r) ∧ Qr r h) (fun _ _ => False) y_World_sameVariable.cls y_World_sameVariable.name b_World_sameVariable 4 ([] : List ExceptionTableEntry) (some .boolean) 0 [(0, .ref x0), (1, .int x1), (2, .ref x2), (3, .int x3)] [] h 0 0
  obtain ⟨MC, hMC⟩ : ∃ x, x = 0 := ⟨_, rfl⟩
  obtain ⟨MS, hMS⟩ : ∃ x, x = 0 := ⟨_, rfl⟩
  rw [show xb_am l D A σ 3 0 0 = xb_am l D A σ 3 MC MS by rw [hMC, hMS]]
  obtain ⟨h0, hh0⟩ : ∃ x, x = h := ⟨_, rfl⟩
  rw [show xb_am l D A σ 3 MC MS h = xb_am l D A σ 3 MC MS h0 by rw [hh0]]
  intro p e s m args below meth c hC H locs ls k n hE hl hR hS hk hn
  obtain ⟨hx, hb, hown, hlocks, htab, hml, hr, hB, hA, hnm⟩ := id hC
  have hts := hB.1.1.at args
  refine lv_aload_n hx hb (xb_d D_World_sameVariable 0 rfl) rfl (lv_at hl 0 rfl) ?_
  obtain ⟨hk1, hw⟩ := hw
  refine xb_getP (C := R_StackModule) (T := F_StackModule) (N := 19) hx hb 2 7 hts fin_StackModule hown hR hk1 (by decide) rfl (by decide) rfl (hts _ m_86aae10b) (fun _ h9 => h9) (xb_d D_World_sameVariable 1 rfl) ?_
  obtain ⟨b2, eb2, hw⟩ := hw
  refine xb_some eb2 ?_
  refine lv_iload_n hx hb (xb_d D_World_sameVariable 2 rfl) rfl (lv_at hl 1 rfl) ?_
  refine lv_iconst (v := 1) hx hb (xb_d D_World_sameVariable 3 rfl) (by decide) ?_
  obtain ⟨hk3, hw⟩ := hw
  refine xb_call (D := D) (A := A) (σ := σ) (h := h) (d := 2) (mc := 0) (ms := 0) (maxL := 3) (rest := []) (av := [.ref b2, .int x1, .int 1]) (fun T hT X => by obtain ⟨cb, r1, r2, r3⟩ := xb_recv (ci := 1) hR rfl hk3 (by decide); exact xt_invV X hx hown (hts _ m_ad29ee25) (hts _ m_8e233096) (hts _ m_27eed10c) (xt_sigOf (hts _ m_ff1c70ae)) nm_Row_at (by rw [hT]; exact r1) r2 r3 (g := F0 m 6 ls [.int 1, .int x1, .ref b2]) rfl (argsL := [.int x1, .int 1]) (rest := []) rfl rfl (by rw [hb]; exact (xb_d D_World_sameVariable 4 rfl))) (ok_Row_at l hfl D A σ b2 x1 1 h _ hw) (hml.trans hl.1.symm) (by rw [hb]; exact (xb_d D_World_sameVariable 4 rfl)) (Nat.le_of_ble_eq_true rfl) (Nat.le_of_ble_eq_true rfl) (Nat.le_of_ble_eq_true rfl) (show k + 0 ≤ MC by omega) (show n + 0 ≤ MS by omega) (xt_w1 hB.1 m_ff1c70ae) (xt_cdOf hB.1 m_ff1c70ae) (hts _ m_c1bef504) hB hR hS hA (fun vv h4 H locs hq hEh4 hR hS => ?_) (fun XX ax h4 H locs hq hEh4 hex hR hS => ?_)
  · obtain ⟨r5, rfl, hw⟩ := hq
    have hw := hw hEh4
    have hE := hE.tr hEh4
    refine W.eq (g2 := F0 m 9 ls [.int r5]) rfl ?_
    refine lv_aload_n hx hb (xb_d D_World_sameVariable 5 rfl) rfl (lv_at hl 2 rfl) ?_
    obtain ⟨hk6, hw⟩ := hw
    refine xb_getP (C := R_StackModule) (T := F_StackModule) (N := 19) hx hb 2 7 hts fin_StackModule hown hR hk6 (by decide) rfl (by decide) rfl (hts _ m_86aae10b) (fun _ h9 => h9) (xb_d D_World_sameVariable 6 rfl) ?_
    obtain ⟨b7, eb7, hw⟩ := hw
    refine xb_some eb7 ?_
    refine lv_iload_n hx hb (xb_d D_World_sameVariable 7 rfl) rfl (lv_at hl 3 rfl) ?_
    refine lv_iconst (v := 1) hx hb (xb_d D_World_sameVariable 8 rfl) (by decide) ?_
    obtain ⟨hk8, hw⟩ := hw
    refine xb_call (D := D) (A := A) (σ := σ) (h := h4) (d := 2) (mc := 0) (ms := 0) (maxL := 3) (rest := [.int r5]) (av := [.ref b7, .int x3, .int 1]) (fun T hT X => by obtain ⟨cb, r1, r2, r3⟩ := xb_recv (ci := 1) hR rfl hk8 (by decide); exact xt_invV X hx hown (hts _ m_ad29ee25) (hts _ m_8e233096) (hts _ m_27eed10c) (xt_sigOf (hts _ m_ff1c70ae)) nm_Row_at (by rw [hT]; exact r1) r2 r3 (g := F0 m 15 ls [.int 1, .int x3, .ref b7, .int r5]) rfl (argsL := [.int x3, .int 1]) (rest := [.int r5]) rfl rfl (by rw [hb]; exact (xb_d D_World_sameVariable 9 rfl))) (ok_Row_at l hfl D A σ b7 x3 1 h4 _ hw) (hml.trans hl.1.symm) (by rw [hb]; exact (xb_d D_World_sameVariable 9 rfl)) (Nat.le_of_ble_eq_true rfl) (Nat.le_of_ble_eq_true rfl) (Nat.le_of_ble_eq_true rfl) (show k + 0 ≤ MC by omega) (show n + 0 ≤ MS by omega) (xt_w1 hB.1 m_ff1c70ae) (xt_cdOf hB.1 m_ff1c70ae) (hts _ m_c1bef504) hB hR hS hA (fun vv h9 H locs hq hEh9 hR hS => ?_) (fun XX ax h9 H locs hq hEh9 hex hR hS => ?_)
    · obtain ⟨r10, rfl, hw⟩ := hq
      have hw := hw hEh9
      have hE := hE.tr hEh9
      refine W.eq (g2 := F0 m 18 ls [.int r10, .int r5]) rfl ?_
      refine lv_icmp_ne (tgt := 46) hx hb (xb_d D_World_sameVariable 10 rfl) rfl (fun hc11 => ?_) (fun hc11 => ?_)
      · have hw := hw.1 hc11
        exact am_World_sameVariable_L46 l hfl D A σ MC MS h0 Qr h9 hw p e s m args below meth c hC H locs ls k n hE (lv_sub hl [] rfl) hR hS (by omega) (by omega)
      · have hw := hw.2 hc11
        refine lv_aload_n hx hb (xb_d D_World_sameVariable 11 rfl) rfl (lv_at hl 0 rfl) ?_
        have hk1 : xb_k h4 x0 = 3 := hEh4.k hk1
        have hk1 : xb_k h9 x0 = 3 := hEh9.k hk1
        refine xb_getP (C := R_StackModule) (T := F_StackModule) (N := 19) hx hb 2 7 hts fin_StackModule hown hR hk1 (by decide) rfl (by decide) rfl (hts _ m_86aae10b) (fun _ h9 => h9) (xb_d D_World_sameVariable 12 rfl) ?_
        obtain ⟨b12, eb12, hw⟩ := hw
        refine xb_some eb12 ?_
        refine lv_iload_n hx hb (xb_d D_World_sameVariable 13 rfl) rfl (lv_at hl 1 rfl) ?_
        refine lv_iconst (v := 2) hx hb (xb_d D_World_sameVariable 14 rfl) (by decide) ?_
        obtain ⟨hk13, hw⟩ := hw
        refine xb_call (D := D) (A := A) (σ := σ) (h := h9) (d := 2) (mc := 0) (ms := 0) (maxL := 3) (rest := []) (av := [.ref b12, .int x1, .int 2]) (fun T hT X => by obtain ⟨cb, r1, r2, r3⟩ := xb_recv (ci := 1) hR rfl hk13 (by decide); exact xt_invV X hx hown (hts _ m_ad29ee25) (hts _ m_8e233096) (hts _ m_27eed10c) (xt_sigOf (hts _ m_ff1c70ae)) nm_Row_at (by rw [hT]; exact r1) r2 r3 (g := F0 m 27 ls [.int 2, .int x1, .ref b12]) rfl (argsL := [.int x1, .int 2]) (rest := []) rfl rfl (by rw [hb]; exact (xb_d D_World_sameVariable 15 rfl))) (ok_Row_at l hfl D A σ b12 x1 2 h9 _ hw) (hml.trans hl.1.symm) (by rw [hb]; exact (xb_d D_World_sameVariable 15 rfl)) (Nat.le_of_ble_eq_true rfl) (Nat.le_of_ble_eq_true rfl) (Nat.le_of_ble_eq_true rfl) (show k + 0 ≤ MC by omega) (show n + 0 ≤ MS by omega) (xt_w1 hB.1 m_ff1c70ae) (xt_cdOf hB.1 m_ff1c70ae) (hts _ m_c1bef504) hB hR hS hA (fun vv h14 H locs hq hEh14 hR hS => ?_) (fun XX ax h14 H locs hq hEh14 hex hR hS => ?_)
        · obtain ⟨r15, rfl, hw⟩ := hq
          have hw := hw hEh14
          have hE := hE.tr hEh14
          refine W.eq (g2 := F0 m 30 ls [.int r15]) rfl ?_
          refine lv_aload_n hx hb (xb_d D_World_sameVariable 16 rfl) rfl (lv_at hl 2 rfl) ?_
          have hk6 : xb_k h9 x2 = 3 := hEh9.k hk6
          have hk6 : xb_k h14 x2 = 3 := hEh14.k hk6
          refine xb_getP (C := R_StackModule) (T := F_StackModule) (N := 19) hx hb 2 7 hts fin_StackModule hown hR hk6 (by decide) rfl (by decide) rfl (hts _ m_86aae10b) (fun _ h9 => h9) (xb_d D_World_sameVariable 17 rfl) ?_
          obtain ⟨b16, eb16, hw⟩ := hw
          refine xb_some eb16 ?_
          refine lv_iload_n hx hb (xb_d D_World_sameVariable 18 rfl) rfl (lv_at hl 3 rfl) ?_
          refine lv_iconst (v := 2) hx hb (xb_d D_World_sameVariable 19 rfl) (by decide) ?_
          obtain ⟨hk17, hw⟩ := hw
          refine xb_call (D := D) (A := A) (σ := σ) (h := h14) (d := 2) (mc := 0) (ms := 0) (maxL := 3) (rest := [.int r15]) (av := [.ref b16, .int x3, .int 2]) (fun T hT X => by obtain ⟨cb, r1, r2, r3⟩ := xb_recv (ci := 1) hR rfl hk17 (by decide); exact xt_invV X hx hown (hts _ m_ad29ee25) (hts _ m_8e233096) (hts _ m_27eed10c) (xt_sigOf (hts _ m_ff1c70ae)) nm_Row_at (by rw [hT]; exact r1) r2 r3 (g := F0 m 36 ls [.int 2, .int x3, .ref b16, .int r15]) rfl (argsL := [.int x3, .int 2]) (rest := [.int r15]) rfl rfl (by rw [hb]; exact (xb_d D_World_sameVariable 20 rfl))) (ok_Row_at l hfl D A σ b16 x3 2 h14 _ hw) (hml.trans hl.1.symm) (by rw [hb]; exact (xb_d D_World_sameVariable 20 rfl)) (Nat.le_of_ble_eq_true rfl) (Nat.le_of_ble_eq_true rfl) (Nat.le_of_ble_eq_true rfl) (show k + 0 ≤ MC by omega) (show n + 0 ≤ MS by omega) (xt_w1 hB.1 m_ff1c70ae) (xt_cdOf hB.1 m_ff1c70ae) (hts _ m_c1bef504) hB hR hS hA (fun vv h18 H locs hq hEh18 hR hS => ?_) (fun XX ax h18 H locs hq hEh18 hex hR hS => ?_)
          · obtain ⟨r19, rfl, hw⟩ := hq
            have hw := hw hEh18
            have hE := hE.tr hEh18
            refine W.eq (g2 := F0 m 39 ls [.int r19, .int r15]) rfl ?_
            refine lv_icmp_ne (tgt := 46) hx hb (xb_d D_World_sameVariable 21 rfl) rfl (fun hc20 => ?_) (fun hc20 => ?_)
            · have hw := hw.1 hc20
              exact am_World_sameVariable_L46 l hfl D A σ MC MS h0 Qr h18 hw p e s m args below meth c hC H locs ls k n hE (lv_sub hl [] rfl) hR hS (by omega) (by omega)
            · have hw := hw.2 hc20
              refine lv_iconst (v := 1) hx hb (xb_d D_World_sameVariable 22 rfl) (by decide) ?_
              refine lv_goto (tgt := 47) hx hb (xb_d D_World_sameVariable 23 rfl) rfl ?_
              exact am_World_sameVariable_L47 l hfl D A σ MC MS h0 Qr 1 h18 hw p e s m args below meth c hC H locs ls k n hE (lv_sub hl [] rfl) hR hS (by omega) (by omega)
          · exact False.elim hq
        · exact False.elim hq
    · exact False.elim hq
  · exact False.elim hq

theorem m_7aa5c58a : (.fieldLink "StackHost$World" 138 "StackHost$StackModule" "code" "[B" : Cond) ∈ xt_tbl := xt_in (xt_t3 (List.mem_of_getElem? (i := 49) (by decide +kernel))) (by decide +kernel)
theorem m_72e9f633 : (.methodLink "StackHost$World" 279 y_StackModule_constantAt : Cond) ∈ xt_tbl := xt_in (xt_t6 (List.mem_of_getElem? (i := 215) (by decide +kernel))) (by decide +kernel)
theorem m_dc97d6c5 : (.instanceMethod y_StackModule_constantAt : Cond) ∈ xt_tbl := xt_in (xt_t6 (List.mem_of_getElem? (i := 216) (by decide +kernel))) (by decide +kernel)
theorem m_351140f1 : (.selects "StackHost$StackModule" y_StackModule_constantAt y_StackModule_constantAt : Cond) ∈ xt_tbl := xt_in (xt_t6 (List.mem_of_getElem? (i := 217) (by decide +kernel))) (by decide +kernel)
theorem m_7a46ed9e : (.code y_StackModule_constantAt b_StackModule_constantAt 3 (some .long) : Cond) ∈ xt_tbl := xt_in (xt_t6 (List.mem_of_getElem? (i := 218) (by decide +kernel))) (by decide +kernel)
theorem m_e12aacbe : (.fieldLink "StackHost$World" 272 "StackHost$Row" "items" "[J" : Cond) ∈ xt_tbl := xt_in (xt_t1 (List.mem_of_getElem? (i := 148) (by decide +kernel))) (by decide +kernel)
theorem m_50e2d678 : (.fieldLink "StackHost$World" 276 "StackHost$StackModule" "notes" "[I" : Cond) ∈ xt_tbl := xt_in (xt_t3 (List.mem_of_getElem? (i := 55) (by decide +kernel))) (by decide +kernel)
theorem nm_StackModule_constantAt : xt_nm y_StackModule_constantAt 1 := ⟨by decide +kernel, by decide +kernel⟩
set_option maxRecDepth 100000 in
def T_World_valueOf : List (Nat × Instr × Nat) := [(0, .aload_n 1, 1), (1, .getfield 138, 3), (4, .iload_n 2, 1), (5, .baload, 1), (6, .bipush 35, 2), (8, .if_icmp .ne 28, 3), (11, .aload_n 0, 1), (12, .getfield 26, 3), (15, .getfield 272, 3), (18, .aload_n 0, 1), (19, .getfield 48, 3), (22, .aload_n 1, 1), (23, .getfield 276, 3), (26, .iload_n 2, 1), (27, .iconst 1, 1), (28, .iadd, 1), (29, .iaload, 1), (30, .iconst 0, 1), (31, .invokevirtual 51, 3), (34, .laload, 1), (35, .lreturn, 1), (36, .aload_n 1, 1), (37, .iload_n 2, 1), (38, .invokevirtual 279, 3), (41, .lreturn, 1)]
theorem D_World_valueOf : ∀ q ∈ T_World_valueOf, decode b_World_valueOf q.1 = .ok (q.2.1, q.2.2) := by decide +kernel
def w_World_valueOf (x0 : Nat) (x1 : Nat) (x2 : Int32) (h : xb_H) (Qr : Int64 → xb_H → Prop) : Prop :=
    xb_k h x1 = 3 ∧ ∃ b2 : Nat, (xb_r h x1 0) = some b2 ∧ xb_k h b2 = 100 ∧ vp_in x2 (xb_n h b2) ∧ ((¬ (xb_i h b2 (Int32.toNatClampNeg x2)) = (35 : Int32) → w_StackModule_constantAt x1 x2 h (fun (r7 : Int64) (h6 : xb_H) => xb_ext h h6 → Qr r7 h6)) ∧ ((xb_i h b2 (Int32.toNatClampNeg x2)) = (35 : Int32) → xb_k h x0 = 7 ∧ ∃ b9 : Nat, (xb_r h x0 3) = some b9 ∧ xb_k h b9 = 2 ∧ ∃ b11 : Nat, (xb_r h b9 0) = some b11 ∧ ∃ b12 : Nat, (xb_r h x0 13) = some b12 ∧ ∃ b13 : Nat, (xb_r h x1 1) = some b13 ∧ xb_k h b13 = 102 ∧ vp_in (x2 + 1) (xb_n h b13) ∧ xb_k h b12 = 2 ∧ w_Row_at b12 (xb_i h b13 (Int32.toNatClampNeg (x2 + 1))) 0 h (fun (r18 : Int32) (h17 : xb_H) => xb_ext h h17 → xb_k h17 b11 = 103 ∧ vp_in r18 (xb_n h17 b11) ∧ Qr (xb_l h17 b11 (Int32.toNatClampNeg r18)) h17)))

set_option maxHeartbeats 4000000 in
set_option maxRecDepth 100000 in
theorem ok_World_valueOf (l : Launch) (hfl : l.flags = pinnedFlags ++ [noTraceFlag]) (D : va_G) (A : Nat → Prop) (σ : Nat) (x0 : Nat) (x1 : Nat) (x2 : Int32) (h : xb_H) (Qr : Int64 → xb_H → Prop) (hw : w_World_valueOf x0 x1 x2 h Qr) : xt_Met l y_World_valueOf [.code y_World_valueOf b_World_valueOf 3 (some .long)] (xb_rm 3 0 0) (xb_Pc D A σ h [.ref x0, .ref x1, .int x2]) (xb_Qc D A h (fun v h => ∃ r, v = some (.long r) ∧ Qr r h) (fun _ _ => False)) 0 0 A := by
  refine xb_ofAm (cc := b_World_valueOf) (by decide) (Nat.le_of_ble_eq_true rfl) ?_
  unfold w_World_valueOf at hw
  show xb_am l D A σ 3 0 0 h (fun v h => ∃ r, v = some (.long r) ∧ Qr r h) (fun _ _ => False) y_World_valueOf.cls y_World_valueOf.name b_World_valueOf 3 ([] : List ExceptionTableEntry) (some .long) 0 [(0, .ref x0), (1, .ref x1), (2, .int x2)] [] h 0 0
  obtain ⟨MC, hMC⟩ : ∃ x, x = 0 := ⟨_, rfl⟩
  obtain ⟨MS, hMS⟩ : ∃ x, x = 0 := ⟨_, rfl⟩
  rw [show xb_am l D A σ 3 0 0 = xb_am l D A σ 3 MC MS by rw [hMC, hMS]]
  obtain ⟨h0, hh0⟩ : ∃ x, x = h := ⟨_, rfl⟩
  rw [show xb_am l D A σ 3 MC MS h = xb_am l D A σ 3 MC MS h0 by rw [hh0]]
  intro p e s m args below meth c hC H locs ls k n hE hl hR hS hk hn
  obtain ⟨hx, hb, hown, hlocks, htab, hml, hr, hB, hA, hnm⟩ := id hC
  have hts := hB.1.1.at args
  refine lv_aload_n hx hb (xb_d D_World_valueOf 0 rfl) rfl (lv_at hl 1 rfl) ?_
  obtain ⟨hk1, hw⟩ := hw
  refine xb_getP (C := R_StackModule) (T := F_StackModule) (N := 19) hx hb 2 0 hts fin_StackModule hown hR hk1 (by decide) rfl (by decide) rfl (hts _ m_7aa5c58a) (fun _ h9 => h9) (xb_d D_World_valueOf 1 rfl) ?_
  obtain ⟨b2, eb2, hw⟩ := hw
  refine xb_some eb2 ?_
  refine lv_iload_n hx hb (xb_d D_World_valueOf 2 rfl) rfl (lv_at hl 2 rfl) ?_
  obtain ⟨hk4, hw⟩ := hw
  obtain ⟨hi3, hw⟩ := hw
  refine xb_bald hx hb hR hk4 hi3 (xb_d D_World_valueOf 3 rfl) ?_
  refine lv_bipush (v := 35) hx hb (xb_d D_World_valueOf 4 rfl) (by decide) ?_
  refine lv_icmp_ne (tgt := 36) hx hb (xb_d D_World_valueOf 5 rfl) rfl (fun hc5 => ?_) (fun hc5 => ?_)
  · have hw := hw.1 hc5
    refine lv_aload_n hx hb (xb_d D_World_valueOf 21 rfl) rfl (lv_at hl 1 rfl) ?_
    refine lv_iload_n hx hb (xb_d D_World_valueOf 22 rfl) rfl (lv_at hl 2 rfl) ?_
    refine xb_call (D := D) (A := A) (σ := σ) (h := h) (d := 2) (mc := 0) (ms := 0) (maxL := 3) (rest := []) (av := [.ref x1, .int x2]) (fun T hT X => by obtain ⟨cb, r1, r2, r3⟩ := xb_recv (ci := 2) hR rfl hk1 (by decide); exact xt_invV X hx hown (hts _ m_72e9f633) (hts _ m_dc97d6c5) (hts _ m_351140f1) (xt_sigOf (hts _ m_7a46ed9e)) nm_StackModule_constantAt (by rw [hT]; exact r1) r2 r3 (g := F0 m 38 ls [.int x2, .ref x1]) rfl (argsL := [.int x2]) (rest := []) rfl rfl (by rw [hb]; exact (xb_d D_World_valueOf 23 rfl))) (ok_StackModule_constantAt l hfl D A σ x1 x2 h _ hw) (hml.trans hl.1.symm) (by rw [hb]; exact (xb_d D_World_valueOf 23 rfl)) (Nat.le_of_ble_eq_true rfl) (Nat.le_of_ble_eq_true rfl) (Nat.le_of_ble_eq_true rfl) (show k + 0 ≤ MC by omega) (show n + 0 ≤ MS by omega) (xt_w1 hB.1 m_7a46ed9e) (xt_cdOf hB.1 m_7a46ed9e) (hts _ m_9c375545) hB hR hS hA (fun vv h6 H locs hq hEh6 hR hS => ?_) (fun XX ax h6 H locs hq hEh6 hex hR hS => ?_)
    · obtain ⟨r7, rfl, hw⟩ := hq
      have hw := hw hEh6
      have hE := hE.tr hEh6
      refine W.eq (g2 := F0 m 41 ls [.long r7]) rfl ?_
      exact xb_lret hx hb hr hlocks (show k ≤ MC by omega) (show n ≤ MS by omega) hE hR hS (xb_d D_World_valueOf 24 rfl) hw
    · exact False.elim hq
  · have hw := hw.2 hc5
    refine lv_aload_n hx hb (xb_d D_World_valueOf 6 rfl) rfl (lv_at hl 0 rfl) ?_
    obtain ⟨hk8, hw⟩ := hw
    refine xb_getP (C := R_World) (T := F_World) (N := 16) hx hb 6 3 hts fin_World hown hR hk8 (by decide) rfl (by decide) rfl (hts _ m_61bedde9) (fun _ h9 => h9) (xb_d D_World_valueOf 7 rfl) ?_
    obtain ⟨b9, eb9, hw⟩ := hw
    refine xb_some eb9 ?_
    obtain ⟨hk10, hw⟩ := hw
    refine xb_getP (C := R_Row) (T := F_Row) (N := 3) hx hb 1 0 hts fin_Row hown hR hk10 (by decide) rfl (by decide) rfl (hts _ m_e12aacbe) (fun _ h9 => h9) (xb_d D_World_valueOf 8 rfl) ?_
    obtain ⟨b11, eb11, hw⟩ := hw
    refine xb_some eb11 ?_
    refine lv_aload_n hx hb (xb_d D_World_valueOf 9 rfl) rfl (lv_at hl 0 rfl) ?_
    refine xb_getP (C := R_World) (T := F_World) (N := 16) hx hb 6 13 hts fin_World hown hR hk8 (by decide) rfl (by decide) rfl (hts _ m_808dc970) (fun _ h9 => h9) (xb_d D_World_valueOf 10 rfl) ?_
    obtain ⟨b12, eb12, hw⟩ := hw
    refine xb_some eb12 ?_
    refine lv_aload_n hx hb (xb_d D_World_valueOf 11 rfl) rfl (lv_at hl 1 rfl) ?_
    refine xb_getP (C := R_StackModule) (T := F_StackModule) (N := 19) hx hb 2 1 hts fin_StackModule hown hR hk1 (by decide) rfl (by decide) rfl (hts _ m_50e2d678) (fun _ h9 => h9) (xb_d D_World_valueOf 12 rfl) ?_
    obtain ⟨b13, eb13, hw⟩ := hw
    refine xb_some eb13 ?_
    refine lv_iload_n hx hb (xb_d D_World_valueOf 13 rfl) rfl (lv_at hl 2 rfl) ?_
    refine lv_iconst (v := 1) hx hb (xb_d D_World_valueOf 14 rfl) (by decide) ?_
    refine lv_iadd hx hb (xb_d D_World_valueOf 15 rfl) ?_
    obtain ⟨hk15, hw⟩ := hw
    obtain ⟨hi14, hw⟩ := hw
    refine xb_iald hx hb hR hk15 hi14 (xb_d D_World_valueOf 16 rfl) ?_
    refine lv_iconst (v := 0) hx hb (xb_d D_World_valueOf 17 rfl) (by decide) ?_
    obtain ⟨hk16, hw⟩ := hw
    refine xb_call (D := D) (A := A) (σ := σ) (h := h) (d := 2) (mc := 0) (ms := 0) (maxL := 3) (rest := [.ref b11]) (av := [.ref b12, .int (xb_i h b13 (Int32.toNatClampNeg (x2 + 1))), .int 0]) (fun T hT X => by obtain ⟨cb, r1, r2, r3⟩ := xb_recv (ci := 1) hR rfl hk16 (by decide); exact xt_invV X hx hown (hts _ m_ad29ee25) (hts _ m_8e233096) (hts _ m_27eed10c) (xt_sigOf (hts _ m_ff1c70ae)) nm_Row_at (by rw [hT]; exact r1) r2 r3 (g := F0 m 31 ls [.int 0, .int (xb_i h b13 (Int32.toNatClampNeg (x2 + 1))), .ref b12, .ref b11]) rfl (argsL := [.int (xb_i h b13 (Int32.toNatClampNeg (x2 + 1))), .int 0]) (rest := [.ref b11]) rfl rfl (by rw [hb]; exact (xb_d D_World_valueOf 18 rfl))) (ok_Row_at l hfl D A σ b12 (xb_i h b13 (Int32.toNatClampNeg (x2 + 1))) 0 h _ hw) (hml.trans hl.1.symm) (by rw [hb]; exact (xb_d D_World_valueOf 18 rfl)) (Nat.le_of_ble_eq_true rfl) (Nat.le_of_ble_eq_true rfl) (Nat.le_of_ble_eq_true rfl) (show k + 0 ≤ MC by omega) (show n + 0 ≤ MS by omega) (xt_w1 hB.1 m_ff1c70ae) (xt_cdOf hB.1 m_ff1c70ae) (hts _ m_c1bef504) hB hR hS hA (fun vv h17 H locs hq hEh17 hR hS => ?_) (fun XX ax h17 H locs hq hEh17 hex hR hS => ?_)
    · obtain ⟨r18, rfl, hw⟩ := hq
      have hw := hw hEh17
      have hE := hE.tr hEh17
      refine W.eq (g2 := F0 m 34 ls [.int r18, .ref b11]) rfl ?_
      obtain ⟨hk20, hw⟩ := hw
      obtain ⟨hi19, hw⟩ := hw
      refine xb_lald hx hb hR hk20 hi19 (xb_d D_World_valueOf 19 rfl) ?_
      exact xb_lret hx hb hr hlocks (show k ≤ MC by omega) (show n ≤ MS by omega) hE hR hS (xb_d D_World_valueOf 20 rfl) hw
    · exact False.elim hq

theorem m_72ab532e : (.methodLink "StackHostLaw" 15 y_H_end : Cond) ∈ xt_tbl := xt_in (xt_t3 (List.mem_of_getElem? (i := 7) (by decide +kernel))) (by decide +kernel)
theorem m_ca508916 : (.instanceMethod y_H_end : Cond) ∈ xt_tbl := xt_in (xt_t3 (List.mem_of_getElem? (i := 8) (by decide +kernel))) (by decide +kernel)
theorem m_a7242f4f : (.selects "StackHost" y_H_end y_H_end : Cond) ∈ xt_tbl := xt_in (xt_t3 (List.mem_of_getElem? (i := 9) (by decide +kernel))) (by decide +kernel)
theorem m_d2420a72 : (.code y_H_end b_H_end 2 none : Cond) ∈ xt_tbl := xt_in (xt_t3 (List.mem_of_getElem? (i := 10) (by decide +kernel))) (by decide +kernel)
theorem m_3beed69a : (.classLink "StackHostLaw" 19 "java/lang/IllegalArgumentException" : Cond) ∈ xt_tbl := xt_in (xt_t3 (List.mem_of_getElem? (i := 6) (by decide +kernel))) (by decide +kernel)
theorem m_b3980edb : (.castable "java/lang/IllegalArgumentException" "java/lang/IllegalArgumentException" : Cond) ∈ xt_tbl := xt_in (xt_t3 (List.mem_of_getElem? (i := 13) (by decide +kernel))) (by decide +kernel)
theorem nm_H_end : xt_nm y_H_end 1 := ⟨by decide +kernel, by decide +kernel⟩
set_option maxRecDepth 100000 in
def T_Law_end : List (Nat × Instr × Nat) := [(0, .aload_n 0, 1), (1, .iload_n 1, 1), (2, .invokevirtual 15, 3), (5, .goto 6, 3), (8, .astore_n 2, 1), (9, .iconst 1, 1), (10, .ireturn, 1), (11, .iconst 0, 1), (12, .ireturn, 1)]
theorem D_Law_end : ∀ q ∈ T_Law_end, decode b_Law_end q.1 = .ok (q.2.1, q.2.2) := by decide +kernel
def w_Law_end (x0 : Nat) (x1 : Int32) (h : xb_H) (bc : Nat) (bs : Nat) (Qr : Int32 → xb_H → Prop) : Prop :=
    xb_k h x0 = 1 ∧ ∃ c4 sc4 : Nat, c4 ≤ bc ∧ sc4 ≤ bs ∧ w_H_end x0 x1 h c4 sc4 (fun (h2 : xb_H) => xb_ext h h2 → Qr 0 h2) (fun (XX : String) (h2 : xb_H) => xb_ext h h2 → (XX = "java/lang/IllegalArgumentException" ∧ Qr 1 h2))

set_option maxHeartbeats 4000000 in
set_option maxRecDepth 100000 in
theorem ok_Law_end (l : Launch) (hfl : l.flags = pinnedFlags ++ [noTraceFlag]) (D : va_G) (A : Nat → Prop) (σ : Nat) (x0 : Nat) (x1 : Int32) (h : xb_H) (bc : Nat) (bs : Nat) (Qr : Int32 → xb_H → Prop) (hw : w_Law_end x0 x1 h bc bs Qr) : xt_Met l y_Law_end [.codeWith y_Law_end b_Law_end 3 (some .int) [(0, 5, 8, 19)]] (xb_rm 3 bc bs) (xb_Pc D A σ h [.ref x0, .int x1]) (xb_Qc D A h (fun v h => ∃ r, v = some (.int r) ∧ Qr r h) (fun _ _ => False)) bc bs A := by
  refine xb_ofAmH (cc := b_Law_end) (by decide) (Nat.le_of_ble_eq_true rfl) ?_
  unfold w_Law_end at hw
  show xb_am l D A σ 3 bc bs h (fun v h => ∃ r, v = some (.int r) ∧ Qr r h) (fun _ _ => False) y_Law_end.cls y_Law_end.name b_Law_end 3 (tableOf [(0, 5, 8, 19)]) (some .int) 0 [(0, .ref x0), (1, .int x1)] [] h bc bs
  obtain ⟨MC, hMC⟩ : ∃ x, x = bc := ⟨_, rfl⟩
  obtain ⟨MS, hMS⟩ : ∃ x, x = bs := ⟨_, rfl⟩
  rw [show xb_am l D A σ 3 bc bs = xb_am l D A σ 3 MC MS by rw [hMC, hMS]]
  obtain ⟨h0, hh0⟩ : ∃ x, x = h := ⟨_, rfl⟩
  rw [show xb_am l D A σ 3 MC MS h = xb_am l D A σ 3 MC MS h0 by rw [hh0]]
  intro p e s m args below meth c hC H locs ls k n hE hl hR hS hk hn
  obtain ⟨hx, hb, hown, hlocks, htab, hml, hr, hB, hA, hnm⟩ := id hC
  have hts := hB.1.1.at args
  refine lv_aload_n hx hb (xb_d D_Law_end 0 rfl) rfl (lv_at hl 0 rfl) ?_
  refine lv_iload_n hx hb (xb_d D_Law_end 1 rfl) rfl (lv_at hl 1 rfl) ?_
  obtain ⟨hk1, hw⟩ := hw
  obtain ⟨c4, sc4, hlc4, hlsc4, hw⟩ := hw
  refine xb_call (D := D) (A := A) (σ := σ) (h := h) (d := 2) (mc := c4) (ms := sc4) (maxL := 2) (rest := []) (av := [.ref x0, .int x1]) (fun T hT X => by obtain ⟨cb, r1, r2, r3⟩ := xb_recv (ci := 0) hR rfl hk1 (by decide); exact xt_invV X hx hown (hts _ m_72ab532e) (hts _ m_ca508916) (hts _ m_a7242f4f) (xt_sigOf (hts _ m_d2420a72)) nm_H_end (by rw [hT]; exact r1) r2 r3 (g := F0 m 2 ls [.int x1, .ref x0]) rfl (argsL := [.int x1]) (rest := []) rfl rfl (by rw [hb]; exact (xb_d D_Law_end 2 rfl))) (ok_H_end l hfl D A σ x0 x1 h c4 sc4 _ _ hw) (hml.trans hl.1.symm) (by rw [hb]; exact (xb_d D_Law_end 2 rfl)) (Nat.le_of_ble_eq_true rfl) (Nat.le_of_ble_eq_true rfl) (Nat.le_of_ble_eq_true rfl) (show k + c4 ≤ MC by omega) (show n + sc4 ≤ MS by omega) (xt_w1 hB.1 m_d2420a72) (xt_cdOf hB.1 m_d2420a72) (hts _ m_ba0734f5) hB hR hS hA (fun vv h2 H locs hq hEh2 hR hS => ?_) (fun XX ax h2 H locs hq hEh2 hex hR hS => ?_)
  · obtain ⟨rfl, hw⟩ := hq
    have hw := hw hEh2
    have hE := hE.tr hEh2
    refine W.eq (g2 := F0 m 5 ls []) rfl ?_
    refine lv_goto (tgt := 11) hx hb (xb_d D_Law_end 3 rfl) rfl ?_
    refine lv_iconst (v := 0) hx hb (xb_d D_Law_end 7 rfl) (by decide) ?_
    exact xb_iret hx hb hr hlocks (show (k + c4) ≤ MC by omega) (show (n + sc4) ≤ MS by omega) hE hR hS (xb_d D_Law_end 8 rfl) hw
  · have hw := hq hEh2
    have hE := hE.tr hEh2
    obtain ⟨rfl, hw⟩ := hw
    refine xt_catch (own := "StackHostLaw") (name := "java/lang/IllegalArgumentException") (Xn := "java/lang/IllegalArgumentException") hown ⟨0, 5, 8, 19⟩ [] htab (by decide) (by decide) (hts _ m_3beed69a) (hts _ m_b3980edb) hex ?_
    refine W.eq (g2 := F0 m 8 ls [.ref ax]) rfl ?_
    refine lv_astore_n hx hb (xb_d D_Law_end 4 rfl) rfl hl (by decide) rfl (fun ls hl => ?_)
    have hl : lv_has ls 3 [(2, .ref ax), (0, .ref x0), (1, .int x1)] := hl
    refine lv_iconst (v := 1) hx hb (xb_d D_Law_end 5 rfl) (by decide) ?_
    exact xb_iret hx hb hr hlocks (show (k + c4) ≤ MC by omega) (show (n + sc4) ≤ MS by omega) hE hR hS (xb_d D_Law_end 6 rfl) hw

