set_option maxRecDepth 100000 in
def T_Whole_zerosAbove : List (Nat × Instr × Nat) := [(0, .lload_n 0, 1), (1, .lstore_n 2, 1), (2, .iconst 0, 1), (3, .istore 4, 2), (5, .bipush 32, 2), (7, .istore 5, 2), (9, .iload 5, 2), (11, .ifCond .le 36, 3), (14, .lload_n 2, 1), (15, .bipush 64, 2), (17, .iload 5, 2), (19, .isub, 1), (20, .lushr, 1), (21, .lconst 0, 1), (22, .lcmp, 1), (23, .ifCond .ne 15, 3), (26, .lload_n 2, 1), (27, .iload 5, 2), (29, .lshl, 1), (30, .lstore_n 2, 1), (31, .iload 4, 2), (33, .iload 5, 2), (35, .iadd, 1), (36, .istore 4, 2), (38, .iload 5, 2), (40, .iconst 1, 1), (41, .ishr, 1), (42, .istore 5, 2), (44, .goto (-35), 3), (47, .lload_n 0, 1), (48, .lconst 0, 1), (49, .lcmp, 1), (50, .ifCond .ne 8, 3), (53, .bipush 64, 2), (55, .goto 5, 3), (58, .iload 4, 2), (60, .ireturn, 1)]
theorem D_Whole_zerosAbove : ∀ q ∈ T_Whole_zerosAbove, decode b_Whole_zerosAbove q.1 = .ok (q.2.1, q.2.2) := by decide +kernel
def w_Whole_zerosAbove_L60 (Qr : Int32 → xb_H → Prop) (y0 : Int32) (h : xb_H) : Prop :=
    Qr y0 h

def w_Whole_zerosAbove_L38 (K9 : Int64 → Int64 → Int32 → Int32 → xb_H → Prop) (Qr : Int32 → xb_H → Prop) (x0 : Int64) (x2 : Int64) (x4 : Int32) (x5 : Int32) (h : xb_H) : Prop :=
    ∀ v1 : Int32, v1 = (x5 >>> (1 &&& 31)) → K9 x0 x2 x4 v1 h

def w_Whole_zerosAbove_L9 (Qr : Int32 → xb_H → Prop) : Nat → Int64 → Int64 → Int32 → Int32 → xb_H → Prop
  | 0, _, _, _, _, _ => False
  | n9 + 1, x0, x2, x4, x5, h =>
    ((x5 ≤ (0 : Int32) → ((¬ x0 = (0 : Int64) → w_Whole_zerosAbove_L60 Qr x4 h) ∧ (x0 = (0 : Int64) → w_Whole_zerosAbove_L60 Qr 64 h))) ∧ (¬ x5 ≤ (0 : Int32) → ((¬ (xb_lushr x2 (64 - x5)) = (0 : Int64) → w_Whole_zerosAbove_L38 (w_Whole_zerosAbove_L9 Qr n9) Qr x0 x2 x4 x5 h) ∧ ((xb_lushr x2 (64 - x5)) = (0 : Int64) → ∀ v4 : Int64, v4 = (xb_lshl x2 x5) → ∀ v5 : Int32, v5 = (x4 + x5) → w_Whole_zerosAbove_L38 (w_Whole_zerosAbove_L9 Qr n9) Qr x0 v4 v5 x5 h))))

def w_Whole_zerosAbove (x0 : Int64) (h : xb_H) (Qr : Int32 → xb_H → Prop) : Prop :=
    (∃ n8 : Nat, w_Whole_zerosAbove_L9 Qr n8 x0 x0 0 32 h)

set_option maxHeartbeats 4000000 in
set_option maxRecDepth 100000 in
theorem am_Whole_zerosAbove_L60 (l : Launch) (hfl : l.flags = pinnedFlags ++ [noTraceFlag]) (D : va_G) (A : Nat → Prop) (σ MC MS : Nat) (h0 : xb_H) (Qr : Int32 → xb_H → Prop) (y0 : Int32) (h : xb_H) (hw : w_Whole_zerosAbove_L60 Qr y0 h) : xb_am l D A σ 2 MC MS h0 (fun v h => ∃ r, v = some (.int r) ∧ Qr r h) (fun _ _ => False) y_Whole_zerosAbove.cls y_Whole_zerosAbove.name b_Whole_zerosAbove 6 ([] : List ExceptionTableEntry) (some .int) 60 [] [.int y0] h 0 0 := by
  unfold w_Whole_zerosAbove_L60 at hw
  intro p e s m args below meth c hC H locs ls k n hE hl hR hS hk hn
  obtain ⟨hx, hb, hown, hlocks, htab, hml, hr, hB, hA, hnm⟩ := id hC
  have hts := hB.1.1.at args
  exact xb_iret hx hb hr hlocks (show k ≤ MC by omega) (show n ≤ MS by omega) hE hR hS (xb_d D_Whole_zerosAbove 36 rfl) hw

set_option maxHeartbeats 4000000 in
set_option maxRecDepth 100000 in
theorem am_Whole_zerosAbove_L38 (l : Launch) (hfl : l.flags = pinnedFlags ++ [noTraceFlag]) (D : va_G) (A : Nat → Prop) (σ MC MS : Nat) (h0 : xb_H) (Qr : Int32 → xb_H → Prop) (K9 : Int64 → Int64 → Int32 → Int32 → xb_H → Prop) (hK9 : ∀ (x0 : Int64) (x2 : Int64) (x4 : Int32) (x5 : Int32) (h : xb_H), K9 x0 x2 x4 x5 h → xb_am l D A σ 2 MC MS h0 (fun v h => ∃ r, v = some (.int r) ∧ Qr r h) (fun _ _ => False) y_Whole_zerosAbove.cls y_Whole_zerosAbove.name b_Whole_zerosAbove 6 ([] : List ExceptionTableEntry) (some .int) 9 [(0, .long x0), (2, .long x2), (4, .int x4), (5, .int x5)] [] h 0 0) (x0 : Int64) (x2 : Int64) (x4 : Int32) (x5 : Int32) (h : xb_H) (hw : w_Whole_zerosAbove_L38 K9 Qr x0 x2 x4 x5 h) : xb_am l D A σ 2 MC MS h0 (fun v h => ∃ r, v = some (.int r) ∧ Qr r h) (fun _ _ => False) y_Whole_zerosAbove.cls y_Whole_zerosAbove.name b_Whole_zerosAbove 6 ([] : List ExceptionTableEntry) (some .int) 38 [(0, .long x0), (2, .long x2), (4, .int x4), (5, .int x5)] [] h 0 0 := by
  unfold w_Whole_zerosAbove_L38 at hw
  intro p e s m args below meth c hC H locs ls k n hE hl hR hS hk hn
  obtain ⟨hx, hb, hown, hlocks, htab, hml, hr, hB, hA, hnm⟩ := id hC
  have hts := hB.1.1.at args
  refine lv_iload hx hb (xb_d D_Whole_zerosAbove 24 rfl) (lv_at hl 3 rfl) ?_
  refine lv_iconst (v := 1) hx hb (xb_d D_Whole_zerosAbove 25 rfl) (by decide) ?_
  refine lv_ishr hx hb (xb_d D_Whole_zerosAbove 26 rfl) ?_
  obtain ⟨v1, ev1⟩ : ∃ x : Int32, x = (x5 >>> (1 &&& 31)) := ⟨_, rfl⟩
  have hw := hw v1 ev1
  refine xt_numi (y := v1) ev1.symm ?_
  refine lv_istore hx hb (xb_d D_Whole_zerosAbove 27 rfl) hl (by decide) rfl (fun ls hl => ?_)
  have hl : lv_has ls 6 [(5, .int v1), (0, .long x0), (2, .long x2), (4, .int x4)] := hl
  refine lv_goto (tgt := 9) hx hb (xb_d D_Whole_zerosAbove 28 rfl) rfl ?_
  exact hK9 x0 x2 x4 v1 h hw p e s m args below meth c hC H locs ls k n hE (lv_sub hl [1, 2, 3, 0] rfl) hR hS (by omega) (by omega)

set_option maxHeartbeats 4000000 in
set_option maxRecDepth 100000 in
theorem am_Whole_zerosAbove_L9 (l : Launch) (hfl : l.flags = pinnedFlags ++ [noTraceFlag]) (D : va_G) (A : Nat → Prop) (σ MC MS : Nat) (h0 : xb_H) (Qr : Int32 → xb_H → Prop) (n9 : Nat) : ∀ (x0 : Int64) (x2 : Int64) (x4 : Int32) (x5 : Int32) (h : xb_H), w_Whole_zerosAbove_L9 Qr n9 x0 x2 x4 x5 h → xb_am l D A σ 2 MC MS h0 (fun v h => ∃ r, v = some (.int r) ∧ Qr r h) (fun _ _ => False) y_Whole_zerosAbove.cls y_Whole_zerosAbove.name b_Whole_zerosAbove 6 ([] : List ExceptionTableEntry) (some .int) 9 [(0, .long x0), (2, .long x2), (4, .int x4), (5, .int x5)] [] h 0 0 := by
  induction n9 with
  | zero => intro x0 x2 x4 x5 h hw; exact False.elim hw
  | succ n9 ih =>
    intro x0 x2 x4 x5 h hw
    unfold w_Whole_zerosAbove_L9 at hw
    intro p e s m args below meth c hC H locs ls k n hE hl hR hS hk hn
    obtain ⟨hx, hb, hown, hlocks, htab, hml, hr, hB, hA, hnm⟩ := id hC
    have hts := hB.1.1.at args
    refine lv_iload hx hb (xb_d D_Whole_zerosAbove 6 rfl) (lv_at hl 3 rfl) ?_
    refine lv_if_le (tgt := 47) hx hb (xb_d D_Whole_zerosAbove 7 rfl) rfl (fun hc1 => ?_) (fun hc1 => ?_)
    · have hw := hw.1 hc1
      refine lv_lload_n hx hb (xb_d D_Whole_zerosAbove 29 rfl) rfl (lv_at hl 0 rfl) ?_
      refine lv_lconst (v := 0) hx hb (xb_d D_Whole_zerosAbove 30 rfl) (by decide) ?_
      refine xb_lc_ne (tgt := 58) hx hb (xb_d D_Whole_zerosAbove 31 rfl) (xb_d D_Whole_zerosAbove 32 rfl) rfl (fun hc2 => ?_) (fun hc2 => ?_)
      · have hw := hw.1 hc2
        refine lv_iload hx hb (xb_d D_Whole_zerosAbove 35 rfl) (lv_at hl 2 rfl) ?_
        exact am_Whole_zerosAbove_L60 l hfl D A σ MC MS h0 Qr x4 h hw p e s m args below meth c hC H locs ls k n hE (lv_sub hl [] rfl) hR hS (by omega) (by omega)
      · have hw := hw.2 hc2
        refine lv_bipush (v := 64) hx hb (xb_d D_Whole_zerosAbove 33 rfl) (by decide) ?_
        refine lv_goto (tgt := 60) hx hb (xb_d D_Whole_zerosAbove 34 rfl) rfl ?_
        exact am_Whole_zerosAbove_L60 l hfl D A σ MC MS h0 Qr 64 h hw p e s m args below meth c hC H locs ls k n hE (lv_sub hl [] rfl) hR hS (by omega) (by omega)
    · have hw := hw.2 hc1
      refine lv_lload_n hx hb (xb_d D_Whole_zerosAbove 8 rfl) rfl (lv_at hl 1 rfl) ?_
      refine lv_bipush (v := 64) hx hb (xb_d D_Whole_zerosAbove 9 rfl) (by decide) ?_
      refine lv_iload hx hb (xb_d D_Whole_zerosAbove 10 rfl) (lv_at hl 3 rfl) ?_
      refine lv_isub hx hb (xb_d D_Whole_zerosAbove 11 rfl) ?_
      refine lv_lushr (v := (xb_lushr x2 (64 - x5))) hx hb (xb_d D_Whole_zerosAbove 12 rfl) rfl ?_
      refine lv_lconst (v := 0) hx hb (xb_d D_Whole_zerosAbove 13 rfl) (by decide) ?_
      refine xb_lc_ne (tgt := 38) hx hb (xb_d D_Whole_zerosAbove 14 rfl) (xb_d D_Whole_zerosAbove 15 rfl) rfl (fun hc3 => ?_) (fun hc3 => ?_)
      · have hw := hw.1 hc3
        exact am_Whole_zerosAbove_L38 l hfl D A σ MC MS h0 Qr (w_Whole_zerosAbove_L9 Qr n9) ih x0 x2 x4 x5 h hw p e s m args below meth c hC H locs ls k n hE (lv_sub hl [0, 1, 2, 3] rfl) hR hS (by omega) (by omega)
      · have hw := hw.2 hc3
        refine lv_lload_n hx hb (xb_d D_Whole_zerosAbove 16 rfl) rfl (lv_at hl 1 rfl) ?_
        refine lv_iload hx hb (xb_d D_Whole_zerosAbove 17 rfl) (lv_at hl 3 rfl) ?_
        refine lv_lshl (v := (xb_lshl x2 x5)) hx hb (xb_d D_Whole_zerosAbove 18 rfl) rfl ?_
        obtain ⟨v4, ev4⟩ : ∃ x : Int64, x = (xb_lshl x2 x5) := ⟨_, rfl⟩
        have hw := hw v4 ev4
        refine xt_numl (y := v4) ev4.symm ?_
        refine lv_lstore_n hx hb (xb_d D_Whole_zerosAbove 19 rfl) rfl hl (by decide) rfl (fun ls hl => ?_)
        have hl : lv_has ls 6 [(2, .long v4), (0, .long x0), (4, .int x4), (5, .int x5)] := hl
        refine lv_iload hx hb (xb_d D_Whole_zerosAbove 20 rfl) (lv_at hl 2 rfl) ?_
        refine lv_iload hx hb (xb_d D_Whole_zerosAbove 21 rfl) (lv_at hl 3 rfl) ?_
        refine lv_iadd hx hb (xb_d D_Whole_zerosAbove 22 rfl) ?_
        obtain ⟨v5, ev5⟩ : ∃ x : Int32, x = (x4 + x5) := ⟨_, rfl⟩
        have hw := hw v5 ev5
        refine xt_numi (y := v5) ev5.symm ?_
        refine lv_istore hx hb (xb_d D_Whole_zerosAbove 23 rfl) hl (by decide) rfl (fun ls hl => ?_)
        have hl : lv_has ls 6 [(4, .int v5), (2, .long v4), (0, .long x0), (5, .int x5)] := hl
        exact am_Whole_zerosAbove_L38 l hfl D A σ MC MS h0 Qr (w_Whole_zerosAbove_L9 Qr n9) ih x0 v4 v5 x5 h hw p e s m args below meth c hC H locs ls k n hE (lv_sub hl [2, 1, 0, 3] rfl) hR hS (by omega) (by omega)

set_option maxHeartbeats 4000000 in
set_option maxRecDepth 100000 in
theorem ok_Whole_zerosAbove (l : Launch) (hfl : l.flags = pinnedFlags ++ [noTraceFlag]) (D : va_G) (A : Nat → Prop) (σ : Nat) (x0 : Int64) (h : xb_H) (Qr : Int32 → xb_H → Prop) (hw : w_Whole_zerosAbove x0 h Qr) : xt_Met l y_Whole_zerosAbove [.code y_Whole_zerosAbove b_Whole_zerosAbove 6 (some .int)] (xb_rm 2 0 0) (xb_Pc D A σ h [.long x0]) (xb_Qc D A h (fun v h => ∃ r, v = some (.int r) ∧ Qr r h) (fun _ _ => False)) 0 0 A := by
  refine xb_ofAm (cc := b_Whole_zerosAbove) (by decide) (Nat.le_of_ble_eq_true rfl) ?_
  unfold w_Whole_zerosAbove at hw
  show xb_am l D A σ 2 0 0 h (fun v h => ∃ r, v = some (.int r) ∧ Qr r h) (fun _ _ => False) y_Whole_zerosAbove.cls y_Whole_zerosAbove.name b_Whole_zerosAbove 6 ([] : List ExceptionTableEntry) (some .int) 0 [(0, .long x0)] [] h 0 0
  obtain ⟨MC, hMC⟩ : ∃ x, x = 0 := ⟨_, rfl⟩
  obtain ⟨MS, hMS⟩ : ∃ x, x = 0 := ⟨_, rfl⟩
  rw [show xb_am l D A σ 2 0 0 = xb_am l D A σ 2 MC MS by rw [hMC, hMS]]
  obtain ⟨h0, hh0⟩ : ∃ x, x = h := ⟨_, rfl⟩
  rw [show xb_am l D A σ 2 MC MS h = xb_am l D A σ 2 MC MS h0 by rw [hh0]]
  intro p e s m args below meth c hC H locs ls k n hE hl hR hS hk hn
  obtain ⟨hx, hb, hown, hlocks, htab, hml, hr, hB, hA, hnm⟩ := id hC
  have hts := hB.1.1.at args
  refine lv_lload_n hx hb (xb_d D_Whole_zerosAbove 0 rfl) rfl (lv_at hl 0 rfl) ?_
  refine lv_lstore_n hx hb (xb_d D_Whole_zerosAbove 1 rfl) rfl hl (by decide) rfl (fun ls hl => ?_)
  have hl : lv_has ls 6 [(2, .long x0), (0, .long x0)] := hl
  refine lv_iconst (v := 0) hx hb (xb_d D_Whole_zerosAbove 2 rfl) (by decide) ?_
  refine lv_istore hx hb (xb_d D_Whole_zerosAbove 3 rfl) hl (by decide) rfl (fun ls hl => ?_)
  have hl : lv_has ls 6 [(4, .int 0), (2, .long x0), (0, .long x0)] := hl
  refine lv_bipush (v := 32) hx hb (xb_d D_Whole_zerosAbove 4 rfl) (by decide) ?_
  refine lv_istore hx hb (xb_d D_Whole_zerosAbove 5 rfl) hl (by decide) rfl (fun ls hl => ?_)
  have hl : lv_has ls 6 [(5, .int 32), (4, .int 0), (2, .long x0), (0, .long x0)] := hl
  obtain ⟨n8, hw⟩ := hw
  exact am_Whole_zerosAbove_L9 l hfl D A σ MC MS h0 Qr n8 x0 x0 0 32 h hw p e s m args below meth c hC H locs ls k n hE (lv_sub hl [3, 2, 1, 0] rfl) hR hS (by omega) (by omega)

theorem m_d8451b78 : (.fieldLink "StackHost$World" 85 "StackHost$World" "faultCode" "I" : Cond) ∈ xt_tbl := xt_in (xt_t1 (List.mem_of_getElem? (i := 182) (by decide +kernel))) (by decide +kernel)
theorem m_06a49ece : (.fieldLink "StackHost$World" 88 "StackHost$World" "faultPlace" "I" : Cond) ∈ xt_tbl := xt_in (xt_t1 (List.mem_of_getElem? (i := 184) (by decide +kernel))) (by decide +kernel)
set_option maxRecDepth 100000 in
def T_World_refuse : List (Nat × Instr × Nat) := [(0, .aload_n 0, 1), (1, .iload_n 1, 1), (2, .putfield 85, 3), (5, .aload_n 0, 1), (6, .iload_n 2, 1), (7, .putfield 88, 3), (10, .iconst (-1), 1), (11, .ireturn, 1)]
theorem D_World_refuse : ∀ q ∈ T_World_refuse, decode b_World_refuse q.1 = .ok (q.2.1, q.2.2) := by decide +kernel
def w_World_refuse (x0 : Nat) (x1 : Int32) (x2 : Int32) (h : xb_H) (Qr : Int32 → xb_H → Prop) : Prop :=
    xb_k h x0 = 7 ∧ ∀ h2 : xb_H, h2 = xb_I h x0 7 x1 → ∀ h3 : xb_H, h3 = xb_I h2 x0 8 x2 → Qr (-1) h3

set_option maxHeartbeats 4000000 in
set_option maxRecDepth 100000 in
theorem ok_World_refuse (l : Launch) (hfl : l.flags = pinnedFlags ++ [noTraceFlag]) (D : va_G) (A : Nat → Prop) (σ : Nat) (x0 : Nat) (x1 : Int32) (x2 : Int32) (h : xb_H) (Qr : Int32 → xb_H → Prop) (hw : w_World_refuse x0 x1 x2 h Qr) : xt_Met l y_World_refuse [.code y_World_refuse b_World_refuse 3 (some .int)] (xb_rm 2 0 0) (xb_Pc D A σ h [.ref x0, .int x1, .int x2]) (xb_Qc D A h (fun v h => ∃ r, v = some (.int r) ∧ Qr r h) (fun _ _ => False)) 0 0 A := by
  refine xb_ofAm (cc := b_World_refuse) (by decide) (Nat.le_of_ble_eq_true rfl) ?_
  unfold w_World_refuse at hw
  show xb_am l D A σ 2 0 0 h (fun v h => ∃ r, v = some (.int r) ∧ Qr r h) (fun _ _ => False) y_World_refuse.cls y_World_refuse.name b_World_refuse 3 ([] : List ExceptionTableEntry) (some .int) 0 [(0, .ref x0), (1, .int x1), (2, .int x2)] [] h 0 0
  obtain ⟨MC, hMC⟩ : ∃ x, x = 0 := ⟨_, rfl⟩
  obtain ⟨MS, hMS⟩ : ∃ x, x = 0 := ⟨_, rfl⟩
  rw [show xb_am l D A σ 2 0 0 = xb_am l D A σ 2 MC MS by rw [hMC, hMS]]
  obtain ⟨h0, hh0⟩ : ∃ x, x = h := ⟨_, rfl⟩
  rw [show xb_am l D A σ 2 MC MS h = xb_am l D A σ 2 MC MS h0 by rw [hh0]]
  intro p e s m args below meth c hC H locs ls k n hE hl hR hS hk hn
  obtain ⟨hx, hb, hown, hlocks, htab, hml, hr, hB, hA, hnm⟩ := id hC
  have hts := hB.1.1.at args
  refine lv_aload_n hx hb (xb_d D_World_refuse 0 rfl) rfl (lv_at hl 0 rfl) ?_
  refine lv_iload_n hx hb (xb_d D_World_refuse 1 rfl) rfl (lv_at hl 1 rfl) ?_
  obtain ⟨hk1, hw⟩ := hw
  refine xb_putI (C := R_World) (T := F_World) (N := 16) (ty := .int) (x := x1) hx hb 6 7 hts fin_World t_World t_World_ok n_World hown hR hS hk1 (by decide) rfl (by decide) rfl (hts _ m_d8451b78) (fun _ h9 => h9) rfl (by decide +kernel) rfl rfl (xb_d D_World_refuse 2 rfl) (fun H locs hR hS => ?_)
  obtain ⟨h2, eh2⟩ : ∃ x : xb_H, x = xb_I h x0 7 x1 := ⟨_, rfl⟩
  rw [← eh2] at hR
  have hw := hw h2 eh2
  have hE : xb_ext h0 h2 := by rw [eh2]; exact hE
  refine lv_aload_n hx hb (xb_d D_World_refuse 3 rfl) rfl (lv_at hl 0 rfl) ?_
  refine lv_iload_n hx hb (xb_d D_World_refuse 4 rfl) rfl (lv_at hl 2 rfl) ?_
  have hk1 : xb_k h2 x0 = 7 := by rw [eh2]; exact hk1
  refine xb_putI (C := R_World) (T := F_World) (N := 16) (ty := .int) (x := x2) hx hb 6 8 hts fin_World t_World t_World_ok n_World hown hR hS hk1 (by decide) rfl (by decide) rfl (hts _ m_06a49ece) (fun _ h9 => h9) rfl (by decide +kernel) rfl rfl (xb_d D_World_refuse 5 rfl) (fun H locs hR hS => ?_)
  obtain ⟨h3, eh3⟩ : ∃ x : xb_H, x = xb_I h2 x0 8 x2 := ⟨_, rfl⟩
  rw [← eh3] at hR
  have hw := hw h3 eh3
  have hE : xb_ext h0 h3 := by rw [eh3]; exact hE
  refine lv_iconst (v := (-1)) hx hb (xb_d D_World_refuse 6 rfl) (by decide) ?_
  exact xb_iret hx hb hr hlocks (show k ≤ MC by omega) (show n ≤ MS by omega) hE hR hS (xb_d D_World_refuse 7 rfl) hw

theorem m_fb5d2326 : (.fieldLink "StackHost$World" 32 "StackHost$World" "words" "LStackHost$Row;" : Cond) ∈ xt_tbl := xt_in (xt_t1 (List.mem_of_getElem? (i := 178) (by decide +kernel))) (by decide +kernel)
theorem m_98336b3d : (.fieldLink "StackHost$World" 91 "StackHost$Row" "size" "I" : Cond) ∈ xt_tbl := xt_in (xt_t1 (List.mem_of_getElem? (i := 153) (by decide +kernel))) (by decide +kernel)
set_option maxRecDepth 100000 in
def T_World_usedPages : List (Nat × Instr × Nat) := [(0, .aload_n 0, 1), (1, .getfield 32, 3), (4, .getfield 91, 3), (7, .sipush 8192, 3), (10, .idiv, 1), (11, .ireturn, 1)]
theorem D_World_usedPages : ∀ q ∈ T_World_usedPages, decode b_World_usedPages q.1 = .ok (q.2.1, q.2.2) := by decide +kernel
def w_World_usedPages (x0 : Nat) (h : xb_H) (Qr : Int32 → xb_H → Prop) : Prop :=
    xb_k h x0 = 7 ∧ ∃ b2 : Nat, (xb_r h x0 5) = some b2 ∧ xb_k h b2 = 2 ∧ Qr ((xb_i h b2 1) / 8192) h

set_option maxHeartbeats 4000000 in
set_option maxRecDepth 100000 in
theorem ok_World_usedPages (l : Launch) (hfl : l.flags = pinnedFlags ++ [noTraceFlag]) (D : va_G) (A : Nat → Prop) (σ : Nat) (x0 : Nat) (h : xb_H) (Qr : Int32 → xb_H → Prop) (hw : w_World_usedPages x0 h Qr) : xt_Met l y_World_usedPages [.code y_World_usedPages b_World_usedPages 1 (some .int)] (xb_rm 2 0 0) (xb_Pc D A σ h [.ref x0]) (xb_Qc D A h (fun v h => ∃ r, v = some (.int r) ∧ Qr r h) (fun _ _ => False)) 0 0 A := by
  refine xb_ofAm (cc := b_World_usedPages) (by decide) (Nat.le_of_ble_eq_true rfl) ?_
  unfold w_World_usedPages at hw
  show xb_am l D A σ 2 0 0 h (fun v h => ∃ r, v = some (.int r) ∧ Qr r h) (fun _ _ => False) y_World_usedPages.cls y_World_usedPages.name b_World_usedPages 1 ([] : List ExceptionTableEntry) (some .int) 0 [(0, .ref x0)] [] h 0 0
  obtain ⟨MC, hMC⟩ : ∃ x, x = 0 := ⟨_, rfl⟩
  obtain ⟨MS, hMS⟩ : ∃ x, x = 0 := ⟨_, rfl⟩
  rw [show xb_am l D A σ 2 0 0 = xb_am l D A σ 2 MC MS by rw [hMC, hMS]]
  obtain ⟨h0, hh0⟩ : ∃ x, x = h := ⟨_, rfl⟩
  rw [show xb_am l D A σ 2 MC MS h = xb_am l D A σ 2 MC MS h0 by rw [hh0]]
  intro p e s m args below meth c hC H locs ls k n hE hl hR hS hk hn
  obtain ⟨hx, hb, hown, hlocks, htab, hml, hr, hB, hA, hnm⟩ := id hC
  have hts := hB.1.1.at args
  refine lv_aload_n hx hb (xb_d D_World_usedPages 0 rfl) rfl (lv_at hl 0 rfl) ?_
  obtain ⟨hk1, hw⟩ := hw
  refine xb_getP (C := R_World) (T := F_World) (N := 16) hx hb 6 5 hts fin_World hown hR hk1 (by decide) rfl (by decide) rfl (hts _ m_fb5d2326) (fun _ h9 => h9) (xb_d D_World_usedPages 1 rfl) ?_
  obtain ⟨b2, eb2, hw⟩ := hw
  refine xb_some eb2 ?_
  obtain ⟨hk3, hw⟩ := hw
  refine xb_getI (C := R_Row) (T := F_Row) (N := 3) hx hb 1 1 hts fin_Row hown hR hk3 (by decide) rfl (by decide) rfl (hts _ m_98336b3d) (fun _ h9 => h9) (xb_d D_World_usedPages 2 rfl) ?_
  refine lv_sipush (v := 8192) hx hb (xb_d D_World_usedPages 3 rfl) (by decide) ?_
  refine lv_idiv hx hb (xb_d D_World_usedPages 4 rfl) (by decide) ?_
  exact xb_iret hx hb hr hlocks (show k ≤ MC by omega) (show n ≤ MS by omega) hE hR hS (xb_d D_World_usedPages 5 rfl) hw

set_option maxRecDepth 100000 in
def T_M_accessBytes : List (Nat × Instr × Nat) := [(0, .iload_n 0, 1), (1, .tableswitch 114 40 62 #[110, 107, 110, 107, 114, 114, 112, 112, 114, 114, 112, 112, 110, 110, 110, 107, 110, 107, 114, 112, 114, 112, 110], 107), (108, .bipush 8, 2), (110, .ireturn, 1), (111, .iconst 4, 1), (112, .ireturn, 1), (113, .iconst 2, 1), (114, .ireturn, 1), (115, .iconst 1, 1), (116, .ireturn, 1)]
theorem D_M_accessBytes : ∀ q ∈ T_M_accessBytes, decode b_M_accessBytes q.1 = .ok (q.2.1, q.2.2) := by decide +kernel
def w_M_accessBytes_L115 (Qr : Int32 → xb_H → Prop) (h : xb_H) : Prop :=
    Qr 1 h

def w_M_accessBytes_L113 (Qr : Int32 → xb_H → Prop) (h : xb_H) : Prop :=
    Qr 2 h

def w_M_accessBytes_L111 (Qr : Int32 → xb_H → Prop) (h : xb_H) : Prop :=
    Qr 4 h

def w_M_accessBytes_L108 (Qr : Int32 → xb_H → Prop) (h : xb_H) : Prop :=
    Qr 8 h

def w_M_accessBytes (x0 : Int32) (h : xb_H) (Qr : Int32 → xb_H → Prop) : Prop :=
    ((x0 = 40 → w_M_accessBytes_L111 Qr h) ∧ (x0 = 41 → w_M_accessBytes_L108 Qr h) ∧ (x0 = 42 → w_M_accessBytes_L111 Qr h) ∧ (x0 = 43 → w_M_accessBytes_L108 Qr h) ∧ (x0 = 44 → w_M_accessBytes_L115 Qr h) ∧ (x0 = 45 → w_M_accessBytes_L115 Qr h) ∧ (x0 = 46 → w_M_accessBytes_L113 Qr h) ∧ (x0 = 47 → w_M_accessBytes_L113 Qr h) ∧ (x0 = 48 → w_M_accessBytes_L115 Qr h) ∧ (x0 = 49 → w_M_accessBytes_L115 Qr h) ∧ (x0 = 50 → w_M_accessBytes_L113 Qr h) ∧ (x0 = 51 → w_M_accessBytes_L113 Qr h) ∧ (x0 = 52 → w_M_accessBytes_L111 Qr h) ∧ (x0 = 53 → w_M_accessBytes_L111 Qr h) ∧ (x0 = 54 → w_M_accessBytes_L111 Qr h) ∧ (x0 = 55 → w_M_accessBytes_L108 Qr h) ∧ (x0 = 56 → w_M_accessBytes_L111 Qr h) ∧ (x0 = 57 → w_M_accessBytes_L108 Qr h) ∧ (x0 = 58 → w_M_accessBytes_L115 Qr h) ∧ (x0 = 59 → w_M_accessBytes_L113 Qr h) ∧ (x0 = 60 → w_M_accessBytes_L115 Qr h) ∧ (x0 = 61 → w_M_accessBytes_L113 Qr h) ∧ (x0 = 62 → w_M_accessBytes_L111 Qr h) ∧ (¬ x0 = 40 → ¬ x0 = 41 → ¬ x0 = 42 → ¬ x0 = 43 → ¬ x0 = 44 → ¬ x0 = 45 → ¬ x0 = 46 → ¬ x0 = 47 → ¬ x0 = 48 → ¬ x0 = 49 → ¬ x0 = 50 → ¬ x0 = 51 → ¬ x0 = 52 → ¬ x0 = 53 → ¬ x0 = 54 → ¬ x0 = 55 → ¬ x0 = 56 → ¬ x0 = 57 → ¬ x0 = 58 → ¬ x0 = 59 → ¬ x0 = 60 → ¬ x0 = 61 → ¬ x0 = 62 → w_M_accessBytes_L115 Qr h))

set_option maxHeartbeats 4000000 in
set_option maxRecDepth 100000 in
theorem am_M_accessBytes_L115 (l : Launch) (hfl : l.flags = pinnedFlags ++ [noTraceFlag]) (D : va_G) (A : Nat → Prop) (σ MC MS : Nat) (h0 : xb_H) (Qr : Int32 → xb_H → Prop) (h : xb_H) (hw : w_M_accessBytes_L115 Qr h) : xb_am l D A σ 2 MC MS h0 (fun v h => ∃ r, v = some (.int r) ∧ Qr r h) (fun _ _ => False) y_M_accessBytes.cls y_M_accessBytes.name b_M_accessBytes 1 ([] : List ExceptionTableEntry) (some .int) 115 [] [] h 0 0 := by
  unfold w_M_accessBytes_L115 at hw
  intro p e s m args below meth c hC H locs ls k n hE hl hR hS hk hn
  obtain ⟨hx, hb, hown, hlocks, htab, hml, hr, hB, hA, hnm⟩ := id hC
  have hts := hB.1.1.at args
  refine lv_iconst (v := 1) hx hb (xb_d D_M_accessBytes 8 rfl) (by decide) ?_
  exact xb_iret hx hb hr hlocks (show k ≤ MC by omega) (show n ≤ MS by omega) hE hR hS (xb_d D_M_accessBytes 9 rfl) hw

set_option maxHeartbeats 4000000 in
set_option maxRecDepth 100000 in
theorem am_M_accessBytes_L113 (l : Launch) (hfl : l.flags = pinnedFlags ++ [noTraceFlag]) (D : va_G) (A : Nat → Prop) (σ MC MS : Nat) (h0 : xb_H) (Qr : Int32 → xb_H → Prop) (h : xb_H) (hw : w_M_accessBytes_L113 Qr h) : xb_am l D A σ 2 MC MS h0 (fun v h => ∃ r, v = some (.int r) ∧ Qr r h) (fun _ _ => False) y_M_accessBytes.cls y_M_accessBytes.name b_M_accessBytes 1 ([] : List ExceptionTableEntry) (some .int) 113 [] [] h 0 0 := by
  unfold w_M_accessBytes_L113 at hw
  intro p e s m args below meth c hC H locs ls k n hE hl hR hS hk hn
  obtain ⟨hx, hb, hown, hlocks, htab, hml, hr, hB, hA, hnm⟩ := id hC
  have hts := hB.1.1.at args
  refine lv_iconst (v := 2) hx hb (xb_d D_M_accessBytes 6 rfl) (by decide) ?_
  exact xb_iret hx hb hr hlocks (show k ≤ MC by omega) (show n ≤ MS by omega) hE hR hS (xb_d D_M_accessBytes 7 rfl) hw

set_option maxHeartbeats 4000000 in
set_option maxRecDepth 100000 in
theorem am_M_accessBytes_L111 (l : Launch) (hfl : l.flags = pinnedFlags ++ [noTraceFlag]) (D : va_G) (A : Nat → Prop) (σ MC MS : Nat) (h0 : xb_H) (Qr : Int32 → xb_H → Prop) (h : xb_H) (hw : w_M_accessBytes_L111 Qr h) : xb_am l D A σ 2 MC MS h0 (fun v h => ∃ r, v = some (.int r) ∧ Qr r h) (fun _ _ => False) y_M_accessBytes.cls y_M_accessBytes.name b_M_accessBytes 1 ([] : List ExceptionTableEntry) (some .int) 111 [] [] h 0 0 := by
  unfold w_M_accessBytes_L111 at hw
  intro p e s m args below meth c hC H locs ls k n hE hl hR hS hk hn
  obtain ⟨hx, hb, hown, hlocks, htab, hml, hr, hB, hA, hnm⟩ := id hC
  have hts := hB.1.1.at args
  refine lv_iconst (v := 4) hx hb (xb_d D_M_accessBytes 4 rfl) (by decide) ?_
  exact xb_iret hx hb hr hlocks (show k ≤ MC by omega) (show n ≤ MS by omega) hE hR hS (xb_d D_M_accessBytes 5 rfl) hw

set_option maxHeartbeats 4000000 in
set_option maxRecDepth 100000 in
theorem am_M_accessBytes_L108 (l : Launch) (hfl : l.flags = pinnedFlags ++ [noTraceFlag]) (D : va_G) (A : Nat → Prop) (σ MC MS : Nat) (h0 : xb_H) (Qr : Int32 → xb_H → Prop) (h : xb_H) (hw : w_M_accessBytes_L108 Qr h) : xb_am l D A σ 2 MC MS h0 (fun v h => ∃ r, v = some (.int r) ∧ Qr r h) (fun _ _ => False) y_M_accessBytes.cls y_M_accessBytes.name b_M_accessBytes 1 ([] : List ExceptionTableEntry) (some .int) 108 [] [] h 0 0 := by
  unfold w_M_accessBytes_L108 at hw
  intro p e s m args below meth c hC H locs ls k n hE hl hR hS hk hn
  obtain ⟨hx, hb, hown, hlocks, htab, hml, hr, hB, hA, hnm⟩ := id hC
  have hts := hB.1.1.at args
  refine lv_bipush (v := 8) hx hb (xb_d D_M_accessBytes 2 rfl) (by decide) ?_
  exact xb_iret hx hb hr hlocks (show k ≤ MC by omega) (show n ≤ MS by omega) hE hR hS (xb_d D_M_accessBytes 3 rfl) hw

set_option maxHeartbeats 4000000 in
set_option maxRecDepth 100000 in
theorem ok_M_accessBytes (l : Launch) (hfl : l.flags = pinnedFlags ++ [noTraceFlag]) (D : va_G) (A : Nat → Prop) (σ : Nat) (x0 : Int32) (h : xb_H) (Qr : Int32 → xb_H → Prop) (hw : w_M_accessBytes x0 h Qr) : xt_Met l y_M_accessBytes [.code y_M_accessBytes b_M_accessBytes 1 (some .int)] (xb_rm 2 0 0) (xb_Pc D A σ h [.int x0]) (xb_Qc D A h (fun v h => ∃ r, v = some (.int r) ∧ Qr r h) (fun _ _ => False)) 0 0 A := by
  refine xb_ofAm (cc := b_M_accessBytes) (by decide) (Nat.le_of_ble_eq_true rfl) ?_
  unfold w_M_accessBytes at hw
  show xb_am l D A σ 2 0 0 h (fun v h => ∃ r, v = some (.int r) ∧ Qr r h) (fun _ _ => False) y_M_accessBytes.cls y_M_accessBytes.name b_M_accessBytes 1 ([] : List ExceptionTableEntry) (some .int) 0 [(0, .int x0)] [] h 0 0
  obtain ⟨MC, hMC⟩ : ∃ x, x = 0 := ⟨_, rfl⟩
  obtain ⟨MS, hMS⟩ : ∃ x, x = 0 := ⟨_, rfl⟩
  rw [show xb_am l D A σ 2 0 0 = xb_am l D A σ 2 MC MS by rw [hMC, hMS]]
  obtain ⟨h0, hh0⟩ : ∃ x, x = h := ⟨_, rfl⟩
  rw [show xb_am l D A σ 2 MC MS h = xb_am l D A σ 2 MC MS h0 by rw [hh0]]
  intro p e s m args below meth c hC H locs ls k n hE hl hR hS hk hn
  obtain ⟨hx, hb, hown, hlocks, htab, hml, hr, hB, hA, hnm⟩ := id hC
  have hts := hB.1.1.at args
  refine lv_iload_n hx hb (xb_d D_M_accessBytes 0 rfl) rfl (lv_at hl 0 rfl) ?_
  by_cases hc1 : x0 = 40
  · have hw := hw.1 hc1
    refine xt_numi hc1 ?_
    refine lv_tableIn (off := 110) (tgt := 111) hx hb (xb_d D_M_accessBytes 1 rfl) (by decide +kernel) (by decide +kernel) (by decide +kernel) (by decide) ?_
    exact am_M_accessBytes_L111 l hfl D A σ MC MS h0 Qr h hw p e s m args below meth c hC H locs ls k n hE (lv_sub hl [] rfl) hR hS (by omega) (by omega)
  have hw := hw.2
  by_cases hc2 : x0 = 41
  · have hw := hw.1 hc2
    refine xt_numi hc2 ?_
    refine lv_tableIn (off := 107) (tgt := 108) hx hb (xb_d D_M_accessBytes 1 rfl) (by decide +kernel) (by decide +kernel) (by decide +kernel) (by decide) ?_
    exact am_M_accessBytes_L108 l hfl D A σ MC MS h0 Qr h hw p e s m args below meth c hC H locs ls k n hE (lv_sub hl [] rfl) hR hS (by omega) (by omega)
  have hw := hw.2
  by_cases hc3 : x0 = 42
  · have hw := hw.1 hc3
    refine xt_numi hc3 ?_
    refine lv_tableIn (off := 110) (tgt := 111) hx hb (xb_d D_M_accessBytes 1 rfl) (by decide +kernel) (by decide +kernel) (by decide +kernel) (by decide) ?_
    exact am_M_accessBytes_L111 l hfl D A σ MC MS h0 Qr h hw p e s m args below meth c hC H locs ls k n hE (lv_sub hl [] rfl) hR hS (by omega) (by omega)
  have hw := hw.2
  by_cases hc4 : x0 = 43
  · have hw := hw.1 hc4
    refine xt_numi hc4 ?_
    refine lv_tableIn (off := 107) (tgt := 108) hx hb (xb_d D_M_accessBytes 1 rfl) (by decide +kernel) (by decide +kernel) (by decide +kernel) (by decide) ?_
    exact am_M_accessBytes_L108 l hfl D A σ MC MS h0 Qr h hw p e s m args below meth c hC H locs ls k n hE (lv_sub hl [] rfl) hR hS (by omega) (by omega)
  have hw := hw.2
  by_cases hc5 : x0 = 44
  · have hw := hw.1 hc5
    refine xt_numi hc5 ?_
    refine lv_tableIn (off := 114) (tgt := 115) hx hb (xb_d D_M_accessBytes 1 rfl) (by decide +kernel) (by decide +kernel) (by decide +kernel) (by decide) ?_
    exact am_M_accessBytes_L115 l hfl D A σ MC MS h0 Qr h hw p e s m args below meth c hC H locs ls k n hE (lv_sub hl [] rfl) hR hS (by omega) (by omega)
  have hw := hw.2
  by_cases hc6 : x0 = 45
  · have hw := hw.1 hc6
    refine xt_numi hc6 ?_
    refine lv_tableIn (off := 114) (tgt := 115) hx hb (xb_d D_M_accessBytes 1 rfl) (by decide +kernel) (by decide +kernel) (by decide +kernel) (by decide) ?_
    exact am_M_accessBytes_L115 l hfl D A σ MC MS h0 Qr h hw p e s m args below meth c hC H locs ls k n hE (lv_sub hl [] rfl) hR hS (by omega) (by omega)
  have hw := hw.2
  by_cases hc7 : x0 = 46
  · have hw := hw.1 hc7
    refine xt_numi hc7 ?_
    refine lv_tableIn (off := 112) (tgt := 113) hx hb (xb_d D_M_accessBytes 1 rfl) (by decide +kernel) (by decide +kernel) (by decide +kernel) (by decide) ?_
    exact am_M_accessBytes_L113 l hfl D A σ MC MS h0 Qr h hw p e s m args below meth c hC H locs ls k n hE (lv_sub hl [] rfl) hR hS (by omega) (by omega)
  have hw := hw.2
  by_cases hc8 : x0 = 47
  · have hw := hw.1 hc8
    refine xt_numi hc8 ?_
    refine lv_tableIn (off := 112) (tgt := 113) hx hb (xb_d D_M_accessBytes 1 rfl) (by decide +kernel) (by decide +kernel) (by decide +kernel) (by decide) ?_
    exact am_M_accessBytes_L113 l hfl D A σ MC MS h0 Qr h hw p e s m args below meth c hC H locs ls k n hE (lv_sub hl [] rfl) hR hS (by omega) (by omega)
  have hw := hw.2
  by_cases hc9 : x0 = 48
  · have hw := hw.1 hc9
    refine xt_numi hc9 ?_
    refine lv_tableIn (off := 114) (tgt := 115) hx hb (xb_d D_M_accessBytes 1 rfl) (by decide +kernel) (by decide +kernel) (by decide +kernel) (by decide) ?_
    exact am_M_accessBytes_L115 l hfl D A σ MC MS h0 Qr h hw p e s m args below meth c hC H locs ls k n hE (lv_sub hl [] rfl) hR hS (by omega) (by omega)
  have hw := hw.2
  by_cases hc10 : x0 = 49
  · have hw := hw.1 hc10
    refine xt_numi hc10 ?_
    refine lv_tableIn (off := 114) (tgt := 115) hx hb (xb_d D_M_accessBytes 1 rfl) (by decide +kernel) (by decide +kernel) (by decide +kernel) (by decide) ?_
    exact am_M_accessBytes_L115 l hfl D A σ MC MS h0 Qr h hw p e s m args below meth c hC H locs ls k n hE (lv_sub hl [] rfl) hR hS (by omega) (by omega)
  have hw := hw.2
  by_cases hc11 : x0 = 50
  · have hw := hw.1 hc11
    refine xt_numi hc11 ?_
    refine lv_tableIn (off := 112) (tgt := 113) hx hb (xb_d D_M_accessBytes 1 rfl) (by decide +kernel) (by decide +kernel) (by decide +kernel) (by decide) ?_
    exact am_M_accessBytes_L113 l hfl D A σ MC MS h0 Qr h hw p e s m args below meth c hC H locs ls k n hE (lv_sub hl [] rfl) hR hS (by omega) (by omega)
  have hw := hw.2
  by_cases hc12 : x0 = 51
  · have hw := hw.1 hc12
    refine xt_numi hc12 ?_
    refine lv_tableIn (off := 112) (tgt := 113) hx hb (xb_d D_M_accessBytes 1 rfl) (by decide +kernel) (by decide +kernel) (by decide +kernel) (by decide) ?_
    exact am_M_accessBytes_L113 l hfl D A σ MC MS h0 Qr h hw p e s m args below meth c hC H locs ls k n hE (lv_sub hl [] rfl) hR hS (by omega) (by omega)
  have hw := hw.2
  by_cases hc13 : x0 = 52
  · have hw := hw.1 hc13
    refine xt_numi hc13 ?_
    refine lv_tableIn (off := 110) (tgt := 111) hx hb (xb_d D_M_accessBytes 1 rfl) (by decide +kernel) (by decide +kernel) (by decide +kernel) (by decide) ?_
    exact am_M_accessBytes_L111 l hfl D A σ MC MS h0 Qr h hw p e s m args below meth c hC H locs ls k n hE (lv_sub hl [] rfl) hR hS (by omega) (by omega)
  have hw := hw.2
  by_cases hc14 : x0 = 53
  · have hw := hw.1 hc14
    refine xt_numi hc14 ?_
    refine lv_tableIn (off := 110) (tgt := 111) hx hb (xb_d D_M_accessBytes 1 rfl) (by decide +kernel) (by decide +kernel) (by decide +kernel) (by decide) ?_
    exact am_M_accessBytes_L111 l hfl D A σ MC MS h0 Qr h hw p e s m args below meth c hC H locs ls k n hE (lv_sub hl [] rfl) hR hS (by omega) (by omega)
  have hw := hw.2
  by_cases hc15 : x0 = 54
  · have hw := hw.1 hc15
    refine xt_numi hc15 ?_
    refine lv_tableIn (off := 110) (tgt := 111) hx hb (xb_d D_M_accessBytes 1 rfl) (by decide +kernel) (by decide +kernel) (by decide +kernel) (by decide) ?_
    exact am_M_accessBytes_L111 l hfl D A σ MC MS h0 Qr h hw p e s m args below meth c hC H locs ls k n hE (lv_sub hl [] rfl) hR hS (by omega) (by omega)
  have hw := hw.2
  by_cases hc16 : x0 = 55
  · have hw := hw.1 hc16
    refine xt_numi hc16 ?_
    refine lv_tableIn (off := 107) (tgt := 108) hx hb (xb_d D_M_accessBytes 1 rfl) (by decide +kernel) (by decide +kernel) (by decide +kernel) (by decide) ?_
    exact am_M_accessBytes_L108 l hfl D A σ MC MS h0 Qr h hw p e s m args below meth c hC H locs ls k n hE (lv_sub hl [] rfl) hR hS (by omega) (by omega)
  have hw := hw.2
  by_cases hc17 : x0 = 56
  · have hw := hw.1 hc17
    refine xt_numi hc17 ?_
    refine lv_tableIn (off := 110) (tgt := 111) hx hb (xb_d D_M_accessBytes 1 rfl) (by decide +kernel) (by decide +kernel) (by decide +kernel) (by decide) ?_
    exact am_M_accessBytes_L111 l hfl D A σ MC MS h0 Qr h hw p e s m args below meth c hC H locs ls k n hE (lv_sub hl [] rfl) hR hS (by omega) (by omega)
  have hw := hw.2
  by_cases hc18 : x0 = 57
  · have hw := hw.1 hc18
    refine xt_numi hc18 ?_
    refine lv_tableIn (off := 107) (tgt := 108) hx hb (xb_d D_M_accessBytes 1 rfl) (by decide +kernel) (by decide +kernel) (by decide +kernel) (by decide) ?_
    exact am_M_accessBytes_L108 l hfl D A σ MC MS h0 Qr h hw p e s m args below meth c hC H locs ls k n hE (lv_sub hl [] rfl) hR hS (by omega) (by omega)
  have hw := hw.2
  by_cases hc19 : x0 = 58
  · have hw := hw.1 hc19
    refine xt_numi hc19 ?_
    refine lv_tableIn (off := 114) (tgt := 115) hx hb (xb_d D_M_accessBytes 1 rfl) (by decide +kernel) (by decide +kernel) (by decide +kernel) (by decide) ?_
    exact am_M_accessBytes_L115 l hfl D A σ MC MS h0 Qr h hw p e s m args below meth c hC H locs ls k n hE (lv_sub hl [] rfl) hR hS (by omega) (by omega)
  have hw := hw.2
  by_cases hc20 : x0 = 59
  · have hw := hw.1 hc20
    refine xt_numi hc20 ?_
    refine lv_tableIn (off := 112) (tgt := 113) hx hb (xb_d D_M_accessBytes 1 rfl) (by decide +kernel) (by decide +kernel) (by decide +kernel) (by decide) ?_
    exact am_M_accessBytes_L113 l hfl D A σ MC MS h0 Qr h hw p e s m args below meth c hC H locs ls k n hE (lv_sub hl [] rfl) hR hS (by omega) (by omega)
  have hw := hw.2
  by_cases hc21 : x0 = 60
  · have hw := hw.1 hc21
    refine xt_numi hc21 ?_
    refine lv_tableIn (off := 114) (tgt := 115) hx hb (xb_d D_M_accessBytes 1 rfl) (by decide +kernel) (by decide +kernel) (by decide +kernel) (by decide) ?_
    exact am_M_accessBytes_L115 l hfl D A σ MC MS h0 Qr h hw p e s m args below meth c hC H locs ls k n hE (lv_sub hl [] rfl) hR hS (by omega) (by omega)
  have hw := hw.2
  by_cases hc22 : x0 = 61
  · have hw := hw.1 hc22
    refine xt_numi hc22 ?_
    refine lv_tableIn (off := 112) (tgt := 113) hx hb (xb_d D_M_accessBytes 1 rfl) (by decide +kernel) (by decide +kernel) (by decide +kernel) (by decide) ?_
    exact am_M_accessBytes_L113 l hfl D A σ MC MS h0 Qr h hw p e s m args below meth c hC H locs ls k n hE (lv_sub hl [] rfl) hR hS (by omega) (by omega)
  have hw := hw.2
  by_cases hc23 : x0 = 62
  · have hw := hw.1 hc23
    refine xt_numi hc23 ?_
    refine lv_tableIn (off := 110) (tgt := 111) hx hb (xb_d D_M_accessBytes 1 rfl) (by decide +kernel) (by decide +kernel) (by decide +kernel) (by decide) ?_
    exact am_M_accessBytes_L111 l hfl D A σ MC MS h0 Qr h hw p e s m args below meth c hC H locs ls k n hE (lv_sub hl [] rfl) hR hS (by omega) (by omega)
  have hw := hw.2
  have hw := hw hc1 hc2 hc3 hc4 hc5 hc6 hc7 hc8 hc9 hc10 hc11 hc12 hc13 hc14 hc15 hc16 hc17 hc18 hc19 hc20 hc21 hc22 hc23
  refine lv_tableOut (tgt := 115) hx hb (xb_d D_M_accessBytes 1 rfl) (by have a0 := xb_nl (40) 40 (by decide) hc1; have a1 := xb_nl (41) 41 (by decide) hc2; have a2 := xb_nl (42) 42 (by decide) hc3; have a3 := xb_nl (43) 43 (by decide) hc4; have a4 := xb_nl (44) 44 (by decide) hc5; have a5 := xb_nl (45) 45 (by decide) hc6; have a6 := xb_nl (46) 46 (by decide) hc7; have a7 := xb_nl (47) 47 (by decide) hc8; have a8 := xb_nl (48) 48 (by decide) hc9; have a9 := xb_nl (49) 49 (by decide) hc10; have a10 := xb_nl (50) 50 (by decide) hc11; have a11 := xb_nl (51) 51 (by decide) hc12; have a12 := xb_nl (52) 52 (by decide) hc13; have a13 := xb_nl (53) 53 (by decide) hc14; have a14 := xb_nl (54) 54 (by decide) hc15; have a15 := xb_nl (55) 55 (by decide) hc16; have a16 := xb_nl (56) 56 (by decide) hc17; have a17 := xb_nl (57) 57 (by decide) hc18; have a18 := xb_nl (58) 58 (by decide) hc19; have a19 := xb_nl (59) 59 (by decide) hc20; have a20 := xb_nl (60) 60 (by decide) hc21; have a21 := xb_nl (61) 61 (by decide) hc22; have a22 := xb_nl (62) 62 (by decide) hc23; omega) (by decide) ?_
  exact am_M_accessBytes_L115 l hfl D A σ MC MS h0 Qr h hw p e s m args below meth c hC H locs ls k n hE (lv_sub hl [] rfl) hR hS (by omega) (by omega)

set_option maxRecDepth 100000 in
def T_M_accessType : List (Nat × Instr × Nat) := [(0, .iload_n 0, 1), (1, .bipush 40, 2), (3, .if_icmp .eq 33, 3), (6, .iload_n 0, 1), (7, .bipush 44, 2), (9, .if_icmp .lt 9, 3), (12, .iload_n 0, 1), (13, .bipush 47, 2), (15, .if_icmp .le 21, 3), (18, .iload_n 0, 1), (19, .bipush 54, 2), (21, .if_icmp .eq 15, 3), (24, .iload_n 0, 1), (25, .bipush 58, 2), (27, .if_icmp .eq 9, 3), (30, .iload_n 0, 1), (31, .bipush 59, 2), (33, .if_icmp .ne 8, 3), (36, .bipush 127, 2), (38, .goto 39, 3), (41, .iload_n 0, 1), (42, .bipush 42, 2), (44, .if_icmp .eq 9, 3), (47, .iload_n 0, 1), (48, .bipush 56, 2), (50, .if_icmp .ne 8, 3), (53, .bipush 125, 2), (55, .goto 22, 3), (58, .iload_n 0, 1), (59, .bipush 43, 2), (61, .if_icmp .eq 9, 3), (64, .iload_n 0, 1), (65, .bipush 57, 2), (67, .if_icmp .ne 8, 3), (70, .bipush 124, 2), (72, .goto 5, 3), (75, .bipush 126, 2), (77, .ireturn, 1)]
theorem D_M_accessType : ∀ q ∈ T_M_accessType, decode b_M_accessType q.1 = .ok (q.2.1, q.2.2) := by decide +kernel
def w_M_accessType_L77 (Qr : Int32 → xb_H → Prop) (y0 : Int32) (h : xb_H) : Prop :=
    Qr y0 h

def w_M_accessType_L70 (Qr : Int32 → xb_H → Prop) (h : xb_H) : Prop :=
    w_M_accessType_L77 Qr 124 h

def w_M_accessType_L53 (Qr : Int32 → xb_H → Prop) (h : xb_H) : Prop :=
    w_M_accessType_L77 Qr 125 h

def w_M_accessType_L36 (Qr : Int32 → xb_H → Prop) (h : xb_H) : Prop :=
    w_M_accessType_L77 Qr 127 h

def w_M_accessType_L18 (Qr : Int32 → xb_H → Prop) (x0 : Int32) (h : xb_H) : Prop :=
    ((x0 = (54 : Int32) → w_M_accessType_L36 Qr h) ∧ (¬ x0 = (54 : Int32) → ((x0 = (58 : Int32) → w_M_accessType_L36 Qr h) ∧ (¬ x0 = (58 : Int32) → ((¬ x0 = (59 : Int32) → ((x0 = (42 : Int32) → w_M_accessType_L53 Qr h) ∧ (¬ x0 = (42 : Int32) → ((¬ x0 = (56 : Int32) → ((x0 = (43 : Int32) → w_M_accessType_L70 Qr h) ∧ (¬ x0 = (43 : Int32) → ((¬ x0 = (57 : Int32) → w_M_accessType_L77 Qr 126 h) ∧ (x0 = (57 : Int32) → w_M_accessType_L70 Qr h))))) ∧ (x0 = (56 : Int32) → w_M_accessType_L53 Qr h))))) ∧ (x0 = (59 : Int32) → w_M_accessType_L36 Qr h))))))

def w_M_accessType (x0 : Int32) (h : xb_H) (Qr : Int32 → xb_H → Prop) : Prop :=
    ((x0 = (40 : Int32) → w_M_accessType_L36 Qr h) ∧ (¬ x0 = (40 : Int32) → ((x0 < (44 : Int32) → w_M_accessType_L18 Qr x0 h) ∧ (¬ x0 < (44 : Int32) → ((x0 ≤ (47 : Int32) → w_M_accessType_L36 Qr h) ∧ (¬ x0 ≤ (47 : Int32) → w_M_accessType_L18 Qr x0 h))))))

set_option maxHeartbeats 4000000 in
set_option maxRecDepth 100000 in
theorem am_M_accessType_L77 (l : Launch) (hfl : l.flags = pinnedFlags ++ [noTraceFlag]) (D : va_G) (A : Nat → Prop) (σ MC MS : Nat) (h0 : xb_H) (Qr : Int32 → xb_H → Prop) (y0 : Int32) (h : xb_H) (hw : w_M_accessType_L77 Qr y0 h) : xb_am l D A σ 2 MC MS h0 (fun v h => ∃ r, v = some (.int r) ∧ Qr r h) (fun _ _ => False) y_M_accessType.cls y_M_accessType.name b_M_accessType 1 ([] : List ExceptionTableEntry) (some .int) 77 [] [.int y0] h 0 0 := by
  unfold w_M_accessType_L77 at hw
  intro p e s m args below meth c hC H locs ls k n hE hl hR hS hk hn
  obtain ⟨hx, hb, hown, hlocks, htab, hml, hr, hB, hA, hnm⟩ := id hC
  have hts := hB.1.1.at args
  exact xb_iret hx hb hr hlocks (show k ≤ MC by omega) (show n ≤ MS by omega) hE hR hS (xb_d D_M_accessType 37 rfl) hw

set_option maxHeartbeats 4000000 in
set_option maxRecDepth 100000 in
theorem am_M_accessType_L70 (l : Launch) (hfl : l.flags = pinnedFlags ++ [noTraceFlag]) (D : va_G) (A : Nat → Prop) (σ MC MS : Nat) (h0 : xb_H) (Qr : Int32 → xb_H → Prop) (h : xb_H) (hw : w_M_accessType_L70 Qr h) : xb_am l D A σ 2 MC MS h0 (fun v h => ∃ r, v = some (.int r) ∧ Qr r h) (fun _ _ => False) y_M_accessType.cls y_M_accessType.name b_M_accessType 1 ([] : List ExceptionTableEntry) (some .int) 70 [] [] h 0 0 := by
  unfold w_M_accessType_L70 at hw
  intro p e s m args below meth c hC H locs ls k n hE hl hR hS hk hn
  obtain ⟨hx, hb, hown, hlocks, htab, hml, hr, hB, hA, hnm⟩ := id hC
  have hts := hB.1.1.at args
  refine lv_bipush (v := 124) hx hb (xb_d D_M_accessType 34 rfl) (by decide) ?_
  refine lv_goto (tgt := 77) hx hb (xb_d D_M_accessType 35 rfl) rfl ?_
  exact am_M_accessType_L77 l hfl D A σ MC MS h0 Qr 124 h hw p e s m args below meth c hC H locs ls k n hE (lv_sub hl [] rfl) hR hS (by omega) (by omega)

set_option maxHeartbeats 4000000 in
set_option maxRecDepth 100000 in
theorem am_M_accessType_L53 (l : Launch) (hfl : l.flags = pinnedFlags ++ [noTraceFlag]) (D : va_G) (A : Nat → Prop) (σ MC MS : Nat) (h0 : xb_H) (Qr : Int32 → xb_H → Prop) (h : xb_H) (hw : w_M_accessType_L53 Qr h) : xb_am l D A σ 2 MC MS h0 (fun v h => ∃ r, v = some (.int r) ∧ Qr r h) (fun _ _ => False) y_M_accessType.cls y_M_accessType.name b_M_accessType 1 ([] : List ExceptionTableEntry) (some .int) 53 [] [] h 0 0 := by
  unfold w_M_accessType_L53 at hw
  intro p e s m args below meth c hC H locs ls k n hE hl hR hS hk hn
  obtain ⟨hx, hb, hown, hlocks, htab, hml, hr, hB, hA, hnm⟩ := id hC
  have hts := hB.1.1.at args
  refine lv_bipush (v := 125) hx hb (xb_d D_M_accessType 26 rfl) (by decide) ?_
  refine lv_goto (tgt := 77) hx hb (xb_d D_M_accessType 27 rfl) rfl ?_
  exact am_M_accessType_L77 l hfl D A σ MC MS h0 Qr 125 h hw p e s m args below meth c hC H locs ls k n hE (lv_sub hl [] rfl) hR hS (by omega) (by omega)

set_option maxHeartbeats 4000000 in
set_option maxRecDepth 100000 in
theorem am_M_accessType_L36 (l : Launch) (hfl : l.flags = pinnedFlags ++ [noTraceFlag]) (D : va_G) (A : Nat → Prop) (σ MC MS : Nat) (h0 : xb_H) (Qr : Int32 → xb_H → Prop) (h : xb_H) (hw : w_M_accessType_L36 Qr h) : xb_am l D A σ 2 MC MS h0 (fun v h => ∃ r, v = some (.int r) ∧ Qr r h) (fun _ _ => False) y_M_accessType.cls y_M_accessType.name b_M_accessType 1 ([] : List ExceptionTableEntry) (some .int) 36 [] [] h 0 0 := by
  unfold w_M_accessType_L36 at hw
  intro p e s m args below meth c hC H locs ls k n hE hl hR hS hk hn
  obtain ⟨hx, hb, hown, hlocks, htab, hml, hr, hB, hA, hnm⟩ := id hC
  have hts := hB.1.1.at args
  refine lv_bipush (v := 127) hx hb (xb_d D_M_accessType 18 rfl) (by decide) ?_
  refine lv_goto (tgt := 77) hx hb (xb_d D_M_accessType 19 rfl) rfl ?_
  exact am_M_accessType_L77 l hfl D A σ MC MS h0 Qr 127 h hw p e s m args below meth c hC H locs ls k n hE (lv_sub hl [] rfl) hR hS (by omega) (by omega)

set_option maxHeartbeats 4000000 in
set_option maxRecDepth 100000 in
theorem am_M_accessType_L18 (l : Launch) (hfl : l.flags = pinnedFlags ++ [noTraceFlag]) (D : va_G) (A : Nat → Prop) (σ MC MS : Nat) (h0 : xb_H) (Qr : Int32 → xb_H → Prop) (x0 : Int32) (h : xb_H) (hw : w_M_accessType_L18 Qr x0 h) : xb_am l D A σ 2 MC MS h0 (fun v h => ∃ r, v = some (.int r) ∧ Qr r h) (fun _ _ => False) y_M_accessType.cls y_M_accessType.name b_M_accessType 1 ([] : List ExceptionTableEntry) (some .int) 18 [(0, .int x0)] [] h 0 0 := by
  unfold w_M_accessType_L18 at hw
  intro p e s m args below meth c hC H locs ls k n hE hl hR hS hk hn
  obtain ⟨hx, hb, hown, hlocks, htab, hml, hr, hB, hA, hnm⟩ := id hC
  have hts := hB.1.1.at args
  refine lv_iload_n hx hb (xb_d D_M_accessType 9 rfl) rfl (lv_at hl 0 rfl) ?_
  refine lv_bipush (v := 54) hx hb (xb_d D_M_accessType 10 rfl) (by decide) ?_
  refine lv_icmp_eq (tgt := 36) hx hb (xb_d D_M_accessType 11 rfl) rfl (fun hc1 => ?_) (fun hc1 => ?_)
  · have hw := hw.1 hc1
    exact am_M_accessType_L36 l hfl D A σ MC MS h0 Qr h hw p e s m args below meth c hC H locs ls k n hE (lv_sub hl [] rfl) hR hS (by omega) (by omega)
  · have hw := hw.2 hc1
    refine lv_iload_n hx hb (xb_d D_M_accessType 12 rfl) rfl (lv_at hl 0 rfl) ?_
    refine lv_bipush (v := 58) hx hb (xb_d D_M_accessType 13 rfl) (by decide) ?_
    refine lv_icmp_eq (tgt := 36) hx hb (xb_d D_M_accessType 14 rfl) rfl (fun hc2 => ?_) (fun hc2 => ?_)
    · have hw := hw.1 hc2
      exact am_M_accessType_L36 l hfl D A σ MC MS h0 Qr h hw p e s m args below meth c hC H locs ls k n hE (lv_sub hl [] rfl) hR hS (by omega) (by omega)
    · have hw := hw.2 hc2
      refine lv_iload_n hx hb (xb_d D_M_accessType 15 rfl) rfl (lv_at hl 0 rfl) ?_
      refine lv_bipush (v := 59) hx hb (xb_d D_M_accessType 16 rfl) (by decide) ?_
      refine lv_icmp_ne (tgt := 41) hx hb (xb_d D_M_accessType 17 rfl) rfl (fun hc3 => ?_) (fun hc3 => ?_)
      · have hw := hw.1 hc3
        refine lv_iload_n hx hb (xb_d D_M_accessType 20 rfl) rfl (lv_at hl 0 rfl) ?_
        refine lv_bipush (v := 42) hx hb (xb_d D_M_accessType 21 rfl) (by decide) ?_
        refine lv_icmp_eq (tgt := 53) hx hb (xb_d D_M_accessType 22 rfl) rfl (fun hc4 => ?_) (fun hc4 => ?_)
        · have hw := hw.1 hc4
          exact am_M_accessType_L53 l hfl D A σ MC MS h0 Qr h hw p e s m args below meth c hC H locs ls k n hE (lv_sub hl [] rfl) hR hS (by omega) (by omega)
        · have hw := hw.2 hc4
          refine lv_iload_n hx hb (xb_d D_M_accessType 23 rfl) rfl (lv_at hl 0 rfl) ?_
          refine lv_bipush (v := 56) hx hb (xb_d D_M_accessType 24 rfl) (by decide) ?_
          refine lv_icmp_ne (tgt := 58) hx hb (xb_d D_M_accessType 25 rfl) rfl (fun hc5 => ?_) (fun hc5 => ?_)
          · have hw := hw.1 hc5
            refine lv_iload_n hx hb (xb_d D_M_accessType 28 rfl) rfl (lv_at hl 0 rfl) ?_
            refine lv_bipush (v := 43) hx hb (xb_d D_M_accessType 29 rfl) (by decide) ?_
            refine lv_icmp_eq (tgt := 70) hx hb (xb_d D_M_accessType 30 rfl) rfl (fun hc6 => ?_) (fun hc6 => ?_)
            · have hw := hw.1 hc6
              exact am_M_accessType_L70 l hfl D A σ MC MS h0 Qr h hw p e s m args below meth c hC H locs ls k n hE (lv_sub hl [] rfl) hR hS (by omega) (by omega)
            · have hw := hw.2 hc6
              refine lv_iload_n hx hb (xb_d D_M_accessType 31 rfl) rfl (lv_at hl 0 rfl) ?_
              refine lv_bipush (v := 57) hx hb (xb_d D_M_accessType 32 rfl) (by decide) ?_
              refine lv_icmp_ne (tgt := 75) hx hb (xb_d D_M_accessType 33 rfl) rfl (fun hc7 => ?_) (fun hc7 => ?_)
              · have hw := hw.1 hc7
                refine lv_bipush (v := 126) hx hb (xb_d D_M_accessType 36 rfl) (by decide) ?_
                exact am_M_accessType_L77 l hfl D A σ MC MS h0 Qr 126 h hw p e s m args below meth c hC H locs ls k n hE (lv_sub hl [] rfl) hR hS (by omega) (by omega)
              · have hw := hw.2 hc7
                exact am_M_accessType_L70 l hfl D A σ MC MS h0 Qr h hw p e s m args below meth c hC H locs ls k n hE (lv_sub hl [] rfl) hR hS (by omega) (by omega)
          · have hw := hw.2 hc5
            exact am_M_accessType_L53 l hfl D A σ MC MS h0 Qr h hw p e s m args below meth c hC H locs ls k n hE (lv_sub hl [] rfl) hR hS (by omega) (by omega)
      · have hw := hw.2 hc3
        exact am_M_accessType_L36 l hfl D A σ MC MS h0 Qr h hw p e s m args below meth c hC H locs ls k n hE (lv_sub hl [] rfl) hR hS (by omega) (by omega)

set_option maxHeartbeats 4000000 in
set_option maxRecDepth 100000 in
theorem ok_M_accessType (l : Launch) (hfl : l.flags = pinnedFlags ++ [noTraceFlag]) (D : va_G) (A : Nat → Prop) (σ : Nat) (x0 : Int32) (h : xb_H) (Qr : Int32 → xb_H → Prop) (hw : w_M_accessType x0 h Qr) : xt_Met l y_M_accessType [.code y_M_accessType b_M_accessType 1 (some .int)] (xb_rm 2 0 0) (xb_Pc D A σ h [.int x0]) (xb_Qc D A h (fun v h => ∃ r, v = some (.int r) ∧ Qr r h) (fun _ _ => False)) 0 0 A := by
  refine xb_ofAm (cc := b_M_accessType) (by decide) (Nat.le_of_ble_eq_true rfl) ?_
  unfold w_M_accessType at hw
  show xb_am l D A σ 2 0 0 h (fun v h => ∃ r, v = some (.int r) ∧ Qr r h) (fun _ _ => False) y_M_accessType.cls y_M_accessType.name b_M_accessType 1 ([] : List ExceptionTableEntry) (some .int) 0 [(0, .int x0)] [] h 0 0
  obtain ⟨MC, hMC⟩ : ∃ x, x = 0 := ⟨_, rfl⟩
  obtain ⟨MS, hMS⟩ : ∃ x, x = 0 := ⟨_, rfl⟩
  rw [show xb_am l D A σ 2 0 0 = xb_am l D A σ 2 MC MS by rw [hMC, hMS]]
  obtain ⟨h0, hh0⟩ : ∃ x, x = h := ⟨_, rfl⟩
  rw [show xb_am l D A σ 2 MC MS h = xb_am l D A σ 2 MC MS h0 by rw [hh0]]
  intro p e s m args below meth c hC H locs ls k n hE hl hR hS hk hn
  obtain ⟨hx, hb, hown, hlocks, htab, hml, hr, hB, hA, hnm⟩ := id hC
  have hts := hB.1.1.at args
  refine lv_iload_n hx hb (xb_d D_M_accessType 0 rfl) rfl (lv_at hl 0 rfl) ?_
  refine lv_bipush (v := 40) hx hb (xb_d D_M_accessType 1 rfl) (by decide) ?_
  refine lv_icmp_eq (tgt := 36) hx hb (xb_d D_M_accessType 2 rfl) rfl (fun hc1 => ?_) (fun hc1 => ?_)
  · have hw := hw.1 hc1
    exact am_M_accessType_L36 l hfl D A σ MC MS h0 Qr h hw p e s m args below meth c hC H locs ls k n hE (lv_sub hl [] rfl) hR hS (by omega) (by omega)
  · have hw := hw.2 hc1
    refine lv_iload_n hx hb (xb_d D_M_accessType 3 rfl) rfl (lv_at hl 0 rfl) ?_
    refine lv_bipush (v := 44) hx hb (xb_d D_M_accessType 4 rfl) (by decide) ?_
    refine lv_icmp_lt (tgt := 18) hx hb (xb_d D_M_accessType 5 rfl) rfl (fun hc2 => ?_) (fun hc2 => ?_)
    · have hw := hw.1 hc2
      exact am_M_accessType_L18 l hfl D A σ MC MS h0 Qr x0 h hw p e s m args below meth c hC H locs ls k n hE (lv_sub hl [0] rfl) hR hS (by omega) (by omega)
    · have hw := hw.2 hc2
      refine lv_iload_n hx hb (xb_d D_M_accessType 6 rfl) rfl (lv_at hl 0 rfl) ?_
      refine lv_bipush (v := 47) hx hb (xb_d D_M_accessType 7 rfl) (by decide) ?_
      refine lv_icmp_le (tgt := 36) hx hb (xb_d D_M_accessType 8 rfl) rfl (fun hc3 => ?_) (fun hc3 => ?_)
      · have hw := hw.1 hc3
        exact am_M_accessType_L36 l hfl D A σ MC MS h0 Qr h hw p e s m args below meth c hC H locs ls k n hE (lv_sub hl [] rfl) hR hS (by omega) (by omega)
      · have hw := hw.2 hc3
        exact am_M_accessType_L18 l hfl D A σ MC MS h0 Qr x0 h hw p e s m args below meth c hC H locs ls k n hE (lv_sub hl [0] rfl) hR hS (by omega) (by omega)

theorem m_6b215119 : (.fieldLink "StackHostModel" 157 "StackHostModel" "types" "[B" : Cond) ∈ xt_tbl := xt_in (xt_t9 (List.mem_of_getElem? (i := 214) (by decide +kernel))) (by decide +kernel)
theorem m_d6ddfcd8 : (.fieldLink "StackHostModel" 607 "StackHostModel" "top" "I" : Cond) ∈ xt_tbl := xt_in (xt_t9 (List.mem_of_getElem? (i := 215) (by decide +kernel))) (by decide +kernel)
theorem m_92d51c6a : (.constantLong "StackHostModel" 517 4294967295 : Cond) ∈ xt_tbl := xt_in (xt_t12 (List.mem_of_getElem? (i := 92) (by decide +kernel))) (by decide +kernel)
theorem m_f82105f7 : (.fieldLink "StackHostModel" 154 "StackHostModel" "values" "[J" : Cond) ∈ xt_tbl := xt_in (xt_t9 (List.mem_of_getElem? (i := 213) (by decide +kernel))) (by decide +kernel)
set_option maxRecDepth 100000 in
def T_M_add : List (Nat × Instr × Nat) := [(0, .aload_n 0, 1), (1, .getfield 154, 3), (4, .aload_n 0, 1), (5, .getfield 607, 3), (8, .iload_n 3, 1), (9, .bipush 127, 2), (11, .if_icmp .eq 9, 3), (14, .iload_n 3, 1), (15, .bipush 125, 2), (17, .if_icmp .ne 11, 3), (20, .lload_n 1, 1), (21, .ldc2_w 517, 3), (24, .land, 1), (25, .goto 4, 3), (28, .lload_n 1, 1), (29, .lastore, 1), (30, .aload_n 0, 1), (31, .getfield 157, 3), (34, .aload_n 0, 1), (35, .getfield 607, 3), (38, .iload_n 3, 1), (39, .i2b, 1), (40, .bastore, 1), (41, .aload_n 0, 1), (42, .dup, 1), (43, .getfield 607, 3), (46, .iconst 1, 1), (47, .iadd, 1), (48, .putfield 607, 3), (51, .return_, 1)]
theorem D_M_add : ∀ q ∈ T_M_add, decode b_M_add q.1 = .ok (q.2.1, q.2.2) := by decide +kernel
def w_M_add_L29 (Qr : xb_H → Prop) (x0 : Nat) (x3 : Int32) (y0 : Int64) (y1 : Int32) (y2 : Nat) (h : xb_H) : Prop :=
    xb_k h y2 = 103 ∧ vp_in y1 (xb_n h y2) ∧ ∀ h3 : xb_H, h3 = xb_L h y2 (Int32.toNatClampNeg y1) y0 → xb_k h3 x0 = 9 ∧ ∃ b5 : Nat, (xb_r h3 x0 75) = some b5 ∧ xb_k h3 b5 = 100 ∧ vp_in (xb_i h3 x0 76) (xb_n h3 b5) ∧ ∀ h8 : xb_H, h8 = xb_I h3 b5 (Int32.toNatClampNeg (xb_i h3 x0 76)) (vp_nar .byte ((Int32.toInt8 x3).toInt32)) → ∀ h9 : xb_H, h9 = xb_I h8 x0 76 ((xb_i h8 x0 76) + 1) → Qr h9

def w_M_add_L20 (Qr : xb_H → Prop) (x0 : Nat) (x1 : Int64) (x3 : Int32) (y0 : Int32) (y1 : Nat) (h : xb_H) : Prop :=
    w_M_add_L29 Qr x0 x3 (x1 &&& 4294967295) y0 y1 h

def w_M_add (x0 : Nat) (x1 : Int64) (x3 : Int32) (h : xb_H) (Qr : xb_H → Prop) : Prop :=
    xb_k h x0 = 9 ∧ ∃ b2 : Nat, (xb_r h x0 74) = some b2 ∧ ((x3 = (127 : Int32) → w_M_add_L20 Qr x0 x1 x3 (xb_i h x0 76) b2 h) ∧ (¬ x3 = (127 : Int32) → ((¬ x3 = (125 : Int32) → w_M_add_L29 Qr x0 x3 x1 (xb_i h x0 76) b2 h) ∧ (x3 = (125 : Int32) → w_M_add_L20 Qr x0 x1 x3 (xb_i h x0 76) b2 h))))

set_option maxHeartbeats 4000000 in
set_option maxRecDepth 100000 in
theorem am_M_add_L29 (l : Launch) (hfl : l.flags = pinnedFlags ++ [noTraceFlag]) (D : va_G) (A : Nat → Prop) (σ MC MS : Nat) (h0 : xb_H) (Qr : xb_H → Prop) (x0 : Nat) (x3 : Int32) (y0 : Int64) (y1 : Int32) (y2 : Nat) (h : xb_H) (hw : w_M_add_L29 Qr x0 x3 y0 y1 y2 h) : xb_am l D A σ 2 MC MS h0 (fun v h => v = none ∧ Qr h) (fun _ _ => False) y_M_add.cls y_M_add.name b_M_add 4 ([] : List ExceptionTableEntry) none 29 [(0, .ref x0), (3, .int x3)] [.long y0, .int y1, .ref y2] h 0 0 := by
  unfold w_M_add_L29 at hw
  intro p e s m args below meth c hC H locs ls k n hE hl hR hS hk hn
  obtain ⟨hx, hb, hown, hlocks, htab, hml, hr, hB, hA, hnm⟩ := id hC
  have hts := hB.1.1.at args
  obtain ⟨hk1, hw⟩ := hw
  obtain ⟨hi2, hw⟩ := hw
  refine xb_last hx hb hR hS hk1 hi2 (xb_d D_M_add 15 rfl) (fun H locs hR hS => ?_)
  obtain ⟨h3, eh3⟩ : ∃ x : xb_H, x = xb_L h y2 (Int32.toNatClampNeg y1) y0 := ⟨_, rfl⟩
  rw [← eh3] at hR
  have hw := hw h3 eh3
  have hE : xb_ext h0 h3 := by rw [eh3]; exact hE
  refine lv_aload_n hx hb (xb_d D_M_add 16 rfl) rfl (lv_at hl 0 rfl) ?_
  obtain ⟨hk4, hw⟩ := hw
  refine xb_getP (C := R_M) (T := F_M) (N := 97) hx hb 8 75 hts fin_M hown hR hk4 (by decide) rfl (by decide) rfl (hts _ m_6b215119) (fun _ h9 => h9) (xb_d D_M_add 17 rfl) ?_
  obtain ⟨b5, eb5, hw⟩ := hw
  refine xb_some eb5 ?_
  refine lv_aload_n hx hb (xb_d D_M_add 18 rfl) rfl (lv_at hl 0 rfl) ?_
  refine xb_getI (C := R_M) (T := F_M) (N := 97) hx hb 8 76 hts fin_M hown hR hk4 (by decide) rfl (by decide) rfl (hts _ m_d6ddfcd8) (fun _ h9 => h9) (xb_d D_M_add 19 rfl) ?_
  refine lv_iload_n hx hb (xb_d D_M_add 20 rfl) rfl (lv_at hl 1 rfl) ?_
  refine lv_i2b hx hb (xb_d D_M_add 21 rfl) rfl ?_
  obtain ⟨hk6, hw⟩ := hw
  obtain ⟨hi7, hw⟩ := hw
  refine xb_bast hx hb hR hS hk6 hi7 (xb_d D_M_add 22 rfl) (fun H locs hR hS => ?_)
  obtain ⟨h8, eh8⟩ : ∃ x : xb_H, x = xb_I h3 b5 (Int32.toNatClampNeg (xb_i h3 x0 76)) (vp_nar .byte ((Int32.toInt8 x3).toInt32)) := ⟨_, rfl⟩
  rw [← eh8] at hR
  have hw := hw h8 eh8
  have hE : xb_ext h0 h8 := by rw [eh8]; exact hE
  refine lv_aload_n hx hb (xb_d D_M_add 23 rfl) rfl (lv_at hl 0 rfl) ?_
  refine lv_dup hx hb (xb_d D_M_add 24 rfl) rfl ?_
  have hk4 : xb_k h8 x0 = 9 := by rw [eh8]; exact hk4
  refine xb_getI (C := R_M) (T := F_M) (N := 97) hx hb 8 76 hts fin_M hown hR hk4 (by decide) rfl (by decide) rfl (hts _ m_d6ddfcd8) (fun _ h9 => h9) (xb_d D_M_add 25 rfl) ?_
  refine lv_iconst (v := 1) hx hb (xb_d D_M_add 26 rfl) (by decide) ?_
  refine lv_iadd hx hb (xb_d D_M_add 27 rfl) ?_
  refine xb_putI (C := R_M) (T := F_M) (N := 97) (ty := .int) (x := ((xb_i h8 x0 76) + 1)) hx hb 8 76 hts fin_M t_M t_M_ok n_M hown hR hS hk4 (by decide) rfl (by decide) rfl (hts _ m_d6ddfcd8) (fun _ h9 => h9) rfl (by decide +kernel) rfl rfl (xb_d D_M_add 28 rfl) (fun H locs hR hS => ?_)
  obtain ⟨h9, eh9⟩ : ∃ x : xb_H, x = xb_I h8 x0 76 ((xb_i h8 x0 76) + 1) := ⟨_, rfl⟩
  rw [← eh9] at hR
  have hw := hw h9 eh9
  have hE : xb_ext h0 h9 := by rw [eh9]; exact hE
  exact xb_vret hx hb hr hlocks (show k ≤ MC by omega) (show n ≤ MS by omega) hE hR hS (xb_d D_M_add 29 rfl) hw

set_option maxHeartbeats 4000000 in
set_option maxRecDepth 100000 in
theorem am_M_add_L20 (l : Launch) (hfl : l.flags = pinnedFlags ++ [noTraceFlag]) (D : va_G) (A : Nat → Prop) (σ MC MS : Nat) (h0 : xb_H) (Qr : xb_H → Prop) (x0 : Nat) (x1 : Int64) (x3 : Int32) (y0 : Int32) (y1 : Nat) (h : xb_H) (hw : w_M_add_L20 Qr x0 x1 x3 y0 y1 h) : xb_am l D A σ 2 MC MS h0 (fun v h => v = none ∧ Qr h) (fun _ _ => False) y_M_add.cls y_M_add.name b_M_add 4 ([] : List ExceptionTableEntry) none 20 [(0, .ref x0), (1, .long x1), (3, .int x3)] [.int y0, .ref y1] h 0 0 := by
  unfold w_M_add_L20 at hw
  intro p e s m args below meth c hC H locs ls k n hE hl hR hS hk hn
  obtain ⟨hx, hb, hown, hlocks, htab, hml, hr, hB, hA, hnm⟩ := id hC
  have hts := hB.1.1.at args
  refine lv_lload_n hx hb (xb_d D_M_add 10 rfl) rfl (lv_at hl 1 rfl) ?_
  refine lv_ldc2 (v := 4294967295) hx hb hown (hts _ m_92d51c6a) (xb_d D_M_add 11 rfl) ?_
  refine lv_land hx hb (xb_d D_M_add 12 rfl) ?_
  refine lv_goto (tgt := 29) hx hb (xb_d D_M_add 13 rfl) rfl ?_
  exact am_M_add_L29 l hfl D A σ MC MS h0 Qr x0 x3 (x1 &&& 4294967295) y0 y1 h hw p e s m args below meth c hC H locs ls k n hE (lv_sub hl [0, 2] rfl) hR hS (by omega) (by omega)

set_option maxHeartbeats 4000000 in
set_option maxRecDepth 100000 in
theorem ok_M_add (l : Launch) (hfl : l.flags = pinnedFlags ++ [noTraceFlag]) (D : va_G) (A : Nat → Prop) (σ : Nat) (x0 : Nat) (x1 : Int64) (x3 : Int32) (h : xb_H) (Qr : xb_H → Prop) (hw : w_M_add x0 x1 x3 h Qr) : xt_Met l y_M_add [.code y_M_add b_M_add 4 none] (xb_rm 2 0 0) (xb_Pc D A σ h [.ref x0, .long x1, .int x3]) (xb_Qc D A h (fun v h => v = none ∧ Qr h) (fun _ _ => False)) 0 0 A := by
  refine xb_ofAm (cc := b_M_add) (by decide) (Nat.le_of_ble_eq_true rfl) ?_
  unfold w_M_add at hw
  show xb_am l D A σ 2 0 0 h (fun v h => v = none ∧ Qr h) (fun _ _ => False) y_M_add.cls y_M_add.name b_M_add 4 ([] : List ExceptionTableEntry) none 0 [(0, .ref x0), (1, .long x1), (3, .int x3)] [] h 0 0
  obtain ⟨MC, hMC⟩ : ∃ x, x = 0 := ⟨_, rfl⟩
  obtain ⟨MS, hMS⟩ : ∃ x, x = 0 := ⟨_, rfl⟩
  rw [show xb_am l D A σ 2 0 0 = xb_am l D A σ 2 MC MS by rw [hMC, hMS]]
  obtain ⟨h0, hh0⟩ : ∃ x, x = h := ⟨_, rfl⟩
  rw [show xb_am l D A σ 2 MC MS h = xb_am l D A σ 2 MC MS h0 by rw [hh0]]
  intro p e s m args below meth c hC H locs ls k n hE hl hR hS hk hn
  obtain ⟨hx, hb, hown, hlocks, htab, hml, hr, hB, hA, hnm⟩ := id hC
  have hts := hB.1.1.at args
  refine lv_aload_n hx hb (xb_d D_M_add 0 rfl) rfl (lv_at hl 0 rfl) ?_
  obtain ⟨hk1, hw⟩ := hw
  refine xb_getP (C := R_M) (T := F_M) (N := 97) hx hb 8 74 hts fin_M hown hR hk1 (by decide) rfl (by decide) rfl (hts _ m_f82105f7) (fun _ h9 => h9) (xb_d D_M_add 1 rfl) ?_
  obtain ⟨b2, eb2, hw⟩ := hw
  refine xb_some eb2 ?_
  refine lv_aload_n hx hb (xb_d D_M_add 2 rfl) rfl (lv_at hl 0 rfl) ?_
  refine xb_getI (C := R_M) (T := F_M) (N := 97) hx hb 8 76 hts fin_M hown hR hk1 (by decide) rfl (by decide) rfl (hts _ m_d6ddfcd8) (fun _ h9 => h9) (xb_d D_M_add 3 rfl) ?_
  refine lv_iload_n hx hb (xb_d D_M_add 4 rfl) rfl (lv_at hl 2 rfl) ?_
  refine lv_bipush (v := 127) hx hb (xb_d D_M_add 5 rfl) (by decide) ?_
  refine lv_icmp_eq (tgt := 20) hx hb (xb_d D_M_add 6 rfl) rfl (fun hc3 => ?_) (fun hc3 => ?_)
  · have hw := hw.1 hc3
    exact am_M_add_L20 l hfl D A σ MC MS h0 Qr x0 x1 x3 (xb_i h x0 76) b2 h hw p e s m args below meth c hC H locs ls k n hE (lv_sub hl [0, 1, 2] rfl) hR hS (by omega) (by omega)
  · have hw := hw.2 hc3
    refine lv_iload_n hx hb (xb_d D_M_add 7 rfl) rfl (lv_at hl 2 rfl) ?_
    refine lv_bipush (v := 125) hx hb (xb_d D_M_add 8 rfl) (by decide) ?_
    refine lv_icmp_ne (tgt := 28) hx hb (xb_d D_M_add 9 rfl) rfl (fun hc4 => ?_) (fun hc4 => ?_)
    · have hw := hw.1 hc4
      refine lv_lload_n hx hb (xb_d D_M_add 14 rfl) rfl (lv_at hl 1 rfl) ?_
      exact am_M_add_L29 l hfl D A σ MC MS h0 Qr x0 x3 x1 (xb_i h x0 76) b2 h hw p e s m args below meth c hC H locs ls k n hE (lv_sub hl [0, 2] rfl) hR hS (by omega) (by omega)
    · have hw := hw.2 hc4
      exact am_M_add_L20 l hfl D A σ MC MS h0 Qr x0 x1 x3 (xb_i h x0 76) b2 h hw p e s m args below meth c hC H locs ls k n hE (lv_sub hl [0, 1, 2] rfl) hR hS (by omega) (by omega)

theorem m_6889d050 : (.fieldLink "StackHostModel" 46 "StackHostModel" "openKind" "[I" : Cond) ∈ xt_tbl := xt_in (xt_t9 (List.mem_of_getElem? (i := 163) (by decide +kernel))) (by decide +kernel)
theorem m_1024c20b : (.fieldLink "StackHostModel" 396 "StackHostModel" "open" "I" : Cond) ∈ xt_tbl := xt_in (xt_t9 (List.mem_of_getElem? (i := 168) (by decide +kernel))) (by decide +kernel)
theorem m_9d087e33 : (.fieldLink "StackHostModel" 49 "StackHostModel" "openLabel" "[I" : Cond) ∈ xt_tbl := xt_in (xt_t9 (List.mem_of_getElem? (i := 164) (by decide +kernel))) (by decide +kernel)
theorem m_b041879a : (.fieldLink "StackHostModel" 52 "StackHostModel" "openEnd" "[I" : Cond) ∈ xt_tbl := xt_in (xt_t9 (List.mem_of_getElem? (i := 165) (by decide +kernel))) (by decide +kernel)
theorem m_fe4642b7 : (.fieldLink "StackHostModel" 55 "StackHostModel" "openHeight" "[I" : Cond) ∈ xt_tbl := xt_in (xt_t9 (List.mem_of_getElem? (i := 166) (by decide +kernel))) (by decide +kernel)
theorem m_01d0a072 : (.fieldLink "StackHostModel" 390 "StackHostModel" "operandCount" "I" : Cond) ∈ xt_tbl := xt_in (xt_t9 (List.mem_of_getElem? (i := 161) (by decide +kernel))) (by decide +kernel)
theorem m_a58a86b4 : (.fieldLink "StackHostModel" 58 "StackHostModel" "openDead" "[Z" : Cond) ∈ xt_tbl := xt_in (xt_t9 (List.mem_of_getElem? (i := 167) (by decide +kernel))) (by decide +kernel)
set_option maxRecDepth 100000 in
def T_M_begin : List (Nat × Instr × Nat) := [(0, .aload_n 0, 1), (1, .getfield 46, 3), (4, .aload_n 0, 1), (5, .getfield 396, 3), (8, .iload_n 1, 1), (9, .iastore, 1), (10, .aload_n 0, 1), (11, .getfield 49, 3), (14, .aload_n 0, 1), (15, .getfield 396, 3), (18, .iload_n 2, 1), (19, .iastore, 1), (20, .aload_n 0, 1), (21, .getfield 52, 3), (24, .aload_n 0, 1), (25, .getfield 396, 3), (28, .iload_n 3, 1), (29, .iastore, 1), (30, .aload_n 0, 1), (31, .getfield 55, 3), (34, .aload_n 0, 1), (35, .getfield 396, 3), (38, .aload_n 0, 1), (39, .getfield 390, 3), (42, .iastore, 1), (43, .aload_n 0, 1), (44, .getfield 58, 3), (47, .aload_n 0, 1), (48, .getfield 396, 3), (51, .iconst 0, 1), (52, .bastore, 1), (53, .aload_n 0, 1), (54, .dup, 1), (55, .getfield 396, 3), (58, .iconst 1, 1), (59, .iadd, 1), (60, .putfield 396, 3), (63, .return_, 1)]
theorem D_M_begin : ∀ q ∈ T_M_begin, decode b_M_begin q.1 = .ok (q.2.1, q.2.2) := by decide +kernel
def w_M_begin (x0 : Nat) (x1 : Int32) (x2 : Int32) (x3 : Int32) (h : xb_H) (Qr : xb_H → Prop) : Prop :=
    xb_k h x0 = 9 ∧ ∃ b2 : Nat, (xb_r h x0 24) = some b2 ∧ xb_k h b2 = 102 ∧ vp_in (xb_i h x0 29) (xb_n h b2) ∧ ∀ h5 : xb_H, h5 = xb_I h b2 (Int32.toNatClampNeg (xb_i h x0 29)) x1 → ∃ b6 : Nat, (xb_r h5 x0 25) = some b6 ∧ xb_k h5 b6 = 102 ∧ vp_in (xb_i h5 x0 29) (xb_n h5 b6) ∧ ∀ h9 : xb_H, h9 = xb_I h5 b6 (Int32.toNatClampNeg (xb_i h5 x0 29)) x2 → ∃ b10 : Nat, (xb_r h9 x0 26) = some b10 ∧ xb_k h9 b10 = 102 ∧ vp_in (xb_i h9 x0 29) (xb_n h9 b10) ∧ ∀ h13 : xb_H, h13 = xb_I h9 b10 (Int32.toNatClampNeg (xb_i h9 x0 29)) x3 → ∃ b14 : Nat, (xb_r h13 x0 27) = some b14 ∧ xb_k h13 b14 = 102 ∧ vp_in (xb_i h13 x0 29) (xb_n h13 b14) ∧ ∀ h17 : xb_H, h17 = xb_I h13 b14 (Int32.toNatClampNeg (xb_i h13 x0 29)) (xb_i h13 x0 22) → ∃ b18 : Nat, (xb_r h17 x0 28) = some b18 ∧ xb_k h17 b18 = 101 ∧ vp_in (xb_i h17 x0 29) (xb_n h17 b18) ∧ ∀ h21 : xb_H, h21 = xb_I h17 b18 (Int32.toNatClampNeg (xb_i h17 x0 29)) (vp_nar .boolean 0) → ∀ h22 : xb_H, h22 = xb_I h21 x0 29 ((xb_i h21 x0 29) + 1) → Qr h22

set_option maxHeartbeats 4000000 in
set_option maxRecDepth 100000 in
theorem ok_M_begin (l : Launch) (hfl : l.flags = pinnedFlags ++ [noTraceFlag]) (D : va_G) (A : Nat → Prop) (σ : Nat) (x0 : Nat) (x1 : Int32) (x2 : Int32) (x3 : Int32) (h : xb_H) (Qr : xb_H → Prop) (hw : w_M_begin x0 x1 x2 x3 h Qr) : xt_Met l y_M_begin [.code y_M_begin b_M_begin 4 none] (xb_rm 2 0 0) (xb_Pc D A σ h [.ref x0, .int x1, .int x2, .int x3]) (xb_Qc D A h (fun v h => v = none ∧ Qr h) (fun _ _ => False)) 0 0 A := by
  refine xb_ofAm (cc := b_M_begin) (by decide) (Nat.le_of_ble_eq_true rfl) ?_
  unfold w_M_begin at hw
  show xb_am l D A σ 2 0 0 h (fun v h => v = none ∧ Qr h) (fun _ _ => False) y_M_begin.cls y_M_begin.name b_M_begin 4 ([] : List ExceptionTableEntry) none 0 [(0, .ref x0), (1, .int x1), (2, .int x2), (3, .int x3)] [] h 0 0
  obtain ⟨MC, hMC⟩ : ∃ x, x = 0 := ⟨_, rfl⟩
  obtain ⟨MS, hMS⟩ : ∃ x, x = 0 := ⟨_, rfl⟩
  rw [show xb_am l D A σ 2 0 0 = xb_am l D A σ 2 MC MS by rw [hMC, hMS]]
  obtain ⟨h0, hh0⟩ : ∃ x, x = h := ⟨_, rfl⟩
  rw [show xb_am l D A σ 2 MC MS h = xb_am l D A σ 2 MC MS h0 by rw [hh0]]
  intro p e s m args below meth c hC H locs ls k n hE hl hR hS hk hn
  obtain ⟨hx, hb, hown, hlocks, htab, hml, hr, hB, hA, hnm⟩ := id hC
  have hts := hB.1.1.at args
  refine lv_aload_n hx hb (xb_d D_M_begin 0 rfl) rfl (lv_at hl 0 rfl) ?_
  obtain ⟨hk1, hw⟩ := hw
  refine xb_getP (C := R_M) (T := F_M) (N := 97) hx hb 8 24 hts fin_M hown hR hk1 (by decide) rfl (by decide) rfl (hts _ m_6889d050) (fun _ h9 => h9) (xb_d D_M_begin 1 rfl) ?_
  obtain ⟨b2, eb2, hw⟩ := hw
  refine xb_some eb2 ?_
  refine lv_aload_n hx hb (xb_d D_M_begin 2 rfl) rfl (lv_at hl 0 rfl) ?_
  refine xb_getI (C := R_M) (T := F_M) (N := 97) hx hb 8 29 hts fin_M hown hR hk1 (by decide) rfl (by decide) rfl (hts _ m_1024c20b) (fun _ h9 => h9) (xb_d D_M_begin 3 rfl) ?_
  refine lv_iload_n hx hb (xb_d D_M_begin 4 rfl) rfl (lv_at hl 1 rfl) ?_
  obtain ⟨hk3, hw⟩ := hw
  obtain ⟨hi4, hw⟩ := hw
  refine xb_iast hx hb hR hS hk3 hi4 (xb_d D_M_begin 5 rfl) (fun H locs hR hS => ?_)
  obtain ⟨h5, eh5⟩ : ∃ x : xb_H, x = xb_I h b2 (Int32.toNatClampNeg (xb_i h x0 29)) x1 := ⟨_, rfl⟩
  rw [← eh5] at hR
  have hw := hw h5 eh5
  have hE : xb_ext h0 h5 := by rw [eh5]; exact hE
  refine lv_aload_n hx hb (xb_d D_M_begin 6 rfl) rfl (lv_at hl 0 rfl) ?_
  have hk1 : xb_k h5 x0 = 9 := by rw [eh5]; exact hk1
  refine xb_getP (C := R_M) (T := F_M) (N := 97) hx hb 8 25 hts fin_M hown hR hk1 (by decide) rfl (by decide) rfl (hts _ m_9d087e33) (fun _ h9 => h9) (xb_d D_M_begin 7 rfl) ?_
  obtain ⟨b6, eb6, hw⟩ := hw
  refine xb_some eb6 ?_
  refine lv_aload_n hx hb (xb_d D_M_begin 8 rfl) rfl (lv_at hl 0 rfl) ?_
  refine xb_getI (C := R_M) (T := F_M) (N := 97) hx hb 8 29 hts fin_M hown hR hk1 (by decide) rfl (by decide) rfl (hts _ m_1024c20b) (fun _ h9 => h9) (xb_d D_M_begin 9 rfl) ?_
  refine lv_iload_n hx hb (xb_d D_M_begin 10 rfl) rfl (lv_at hl 2 rfl) ?_
  obtain ⟨hk7, hw⟩ := hw
  obtain ⟨hi8, hw⟩ := hw
  refine xb_iast hx hb hR hS hk7 hi8 (xb_d D_M_begin 11 rfl) (fun H locs hR hS => ?_)
  obtain ⟨h9, eh9⟩ : ∃ x : xb_H, x = xb_I h5 b6 (Int32.toNatClampNeg (xb_i h5 x0 29)) x2 := ⟨_, rfl⟩
  rw [← eh9] at hR
  have hw := hw h9 eh9
  have hE : xb_ext h0 h9 := by rw [eh9]; exact hE
  refine lv_aload_n hx hb (xb_d D_M_begin 12 rfl) rfl (lv_at hl 0 rfl) ?_
  have hk1 : xb_k h9 x0 = 9 := by rw [eh9]; exact hk1
  refine xb_getP (C := R_M) (T := F_M) (N := 97) hx hb 8 26 hts fin_M hown hR hk1 (by decide) rfl (by decide) rfl (hts _ m_b041879a) (fun _ h9 => h9) (xb_d D_M_begin 13 rfl) ?_
  obtain ⟨b10, eb10, hw⟩ := hw
  refine xb_some eb10 ?_
  refine lv_aload_n hx hb (xb_d D_M_begin 14 rfl) rfl (lv_at hl 0 rfl) ?_
  refine xb_getI (C := R_M) (T := F_M) (N := 97) hx hb 8 29 hts fin_M hown hR hk1 (by decide) rfl (by decide) rfl (hts _ m_1024c20b) (fun _ h9 => h9) (xb_d D_M_begin 15 rfl) ?_
  refine lv_iload_n hx hb (xb_d D_M_begin 16 rfl) rfl (lv_at hl 3 rfl) ?_
  obtain ⟨hk11, hw⟩ := hw
  obtain ⟨hi12, hw⟩ := hw
  refine xb_iast hx hb hR hS hk11 hi12 (xb_d D_M_begin 17 rfl) (fun H locs hR hS => ?_)
  obtain ⟨h13, eh13⟩ : ∃ x : xb_H, x = xb_I h9 b10 (Int32.toNatClampNeg (xb_i h9 x0 29)) x3 := ⟨_, rfl⟩
  rw [← eh13] at hR
  have hw := hw h13 eh13
  have hE : xb_ext h0 h13 := by rw [eh13]; exact hE
  refine lv_aload_n hx hb (xb_d D_M_begin 18 rfl) rfl (lv_at hl 0 rfl) ?_
  have hk1 : xb_k h13 x0 = 9 := by rw [eh13]; exact hk1
  refine xb_getP (C := R_M) (T := F_M) (N := 97) hx hb 8 27 hts fin_M hown hR hk1 (by decide) rfl (by decide) rfl (hts _ m_fe4642b7) (fun _ h9 => h9) (xb_d D_M_begin 19 rfl) ?_
  obtain ⟨b14, eb14, hw⟩ := hw
  refine xb_some eb14 ?_
  refine lv_aload_n hx hb (xb_d D_M_begin 20 rfl) rfl (lv_at hl 0 rfl) ?_
  refine xb_getI (C := R_M) (T := F_M) (N := 97) hx hb 8 29 hts fin_M hown hR hk1 (by decide) rfl (by decide) rfl (hts _ m_1024c20b) (fun _ h9 => h9) (xb_d D_M_begin 21 rfl) ?_
  refine lv_aload_n hx hb (xb_d D_M_begin 22 rfl) rfl (lv_at hl 0 rfl) ?_
  refine xb_getI (C := R_M) (T := F_M) (N := 97) hx hb 8 22 hts fin_M hown hR hk1 (by decide) rfl (by decide) rfl (hts _ m_01d0a072) (fun _ h9 => h9) (xb_d D_M_begin 23 rfl) ?_
  obtain ⟨hk15, hw⟩ := hw
  obtain ⟨hi16, hw⟩ := hw
  refine xb_iast hx hb hR hS hk15 hi16 (xb_d D_M_begin 24 rfl) (fun H locs hR hS => ?_)
  obtain ⟨h17, eh17⟩ : ∃ x : xb_H, x = xb_I h13 b14 (Int32.toNatClampNeg (xb_i h13 x0 29)) (xb_i h13 x0 22) := ⟨_, rfl⟩
  rw [← eh17] at hR
  have hw := hw h17 eh17
  have hE : xb_ext h0 h17 := by rw [eh17]; exact hE
  refine lv_aload_n hx hb (xb_d D_M_begin 25 rfl) rfl (lv_at hl 0 rfl) ?_
  have hk1 : xb_k h17 x0 = 9 := by rw [eh17]; exact hk1
  refine xb_getP (C := R_M) (T := F_M) (N := 97) hx hb 8 28 hts fin_M hown hR hk1 (by decide) rfl (by decide) rfl (hts _ m_a58a86b4) (fun _ h9 => h9) (xb_d D_M_begin 26 rfl) ?_
  obtain ⟨b18, eb18, hw⟩ := hw
  refine xb_some eb18 ?_
  refine lv_aload_n hx hb (xb_d D_M_begin 27 rfl) rfl (lv_at hl 0 rfl) ?_
  refine xb_getI (C := R_M) (T := F_M) (N := 97) hx hb 8 29 hts fin_M hown hR hk1 (by decide) rfl (by decide) rfl (hts _ m_1024c20b) (fun _ h9 => h9) (xb_d D_M_begin 28 rfl) ?_
  refine lv_iconst (v := 0) hx hb (xb_d D_M_begin 29 rfl) (by decide) ?_
  obtain ⟨hk19, hw⟩ := hw
  obtain ⟨hi20, hw⟩ := hw
  refine xb_zast hx hb hR hS hk19 hi20 (xb_d D_M_begin 30 rfl) (fun H locs hR hS => ?_)
  obtain ⟨h21, eh21⟩ : ∃ x : xb_H, x = xb_I h17 b18 (Int32.toNatClampNeg (xb_i h17 x0 29)) (vp_nar .boolean 0) := ⟨_, rfl⟩
  rw [← eh21] at hR
  have hw := hw h21 eh21
  have hE : xb_ext h0 h21 := by rw [eh21]; exact hE
  refine lv_aload_n hx hb (xb_d D_M_begin 31 rfl) rfl (lv_at hl 0 rfl) ?_
  refine lv_dup hx hb (xb_d D_M_begin 32 rfl) rfl ?_
  have hk1 : xb_k h21 x0 = 9 := by rw [eh21]; exact hk1
  refine xb_getI (C := R_M) (T := F_M) (N := 97) hx hb 8 29 hts fin_M hown hR hk1 (by decide) rfl (by decide) rfl (hts _ m_1024c20b) (fun _ h9 => h9) (xb_d D_M_begin 33 rfl) ?_
  refine lv_iconst (v := 1) hx hb (xb_d D_M_begin 34 rfl) (by decide) ?_
  refine lv_iadd hx hb (xb_d D_M_begin 35 rfl) ?_
  refine xb_putI (C := R_M) (T := F_M) (N := 97) (ty := .int) (x := ((xb_i h21 x0 29) + 1)) hx hb 8 29 hts fin_M t_M t_M_ok n_M hown hR hS hk1 (by decide) rfl (by decide) rfl (hts _ m_1024c20b) (fun _ h9 => h9) rfl (by decide +kernel) rfl rfl (xb_d D_M_begin 36 rfl) (fun H locs hR hS => ?_)
  obtain ⟨h22, eh22⟩ : ∃ x : xb_H, x = xb_I h21 x0 29 ((xb_i h21 x0 29) + 1) := ⟨_, rfl⟩
  rw [← eh22] at hR
  have hw := hw h22 eh22
  have hE : xb_ext h0 h22 := by rw [eh22]; exact hE
  exact xb_vret hx hb hr hlocks (show k ≤ MC by omega) (show n ≤ MS by omega) hE hR hS (xb_d D_M_begin 37 rfl) hw

set_option maxRecDepth 100000 in
def T_M_behindLead : List (Nat × Instr × Nat) := [(0, .iload_n 0, 1), (1, .sipush 128, 3), (4, .if_icmp .ge 7, 3), (7, .iconst 0, 1), (8, .goto 58, 3), (11, .iload_n 0, 1), (12, .sipush 194, 3), (15, .if_icmp .lt 14, 3), (18, .iload_n 0, 1), (19, .sipush 224, 3), (22, .if_icmp .ge 7, 3), (25, .iconst 1, 1), (26, .goto 40, 3), (29, .iload_n 0, 1), (30, .sipush 224, 3), (33, .if_icmp .lt 14, 3), (36, .iload_n 0, 1), (37, .sipush 240, 3), (40, .if_icmp .ge 7, 3), (43, .iconst 2, 1), (44, .goto 22, 3), (47, .iload_n 0, 1), (48, .sipush 240, 3), (51, .if_icmp .lt 14, 3), (54, .iload_n 0, 1), (55, .sipush 245, 3), (58, .if_icmp .ge 7, 3), (61, .iconst 3, 1), (62, .goto 4, 3), (65, .iconst (-1), 1), (66, .ireturn, 1)]
theorem D_M_behindLead : ∀ q ∈ T_M_behindLead, decode b_M_behindLead q.1 = .ok (q.2.1, q.2.2) := by decide +kernel
def w_M_behindLead_L66 (Qr : Int32 → xb_H → Prop) (y0 : Int32) (h : xb_H) : Prop :=
    Qr y0 h

def w_M_behindLead_L65 (Qr : Int32 → xb_H → Prop) (h : xb_H) : Prop :=
    w_M_behindLead_L66 Qr (-1) h

def w_M_behindLead_L47 (Qr : Int32 → xb_H → Prop) (x0 : Int32) (h : xb_H) : Prop :=
    ((x0 < (240 : Int32) → w_M_behindLead_L65 Qr h) ∧ (¬ x0 < (240 : Int32) → (((245 : Int32) ≤ x0 → w_M_behindLead_L65 Qr h) ∧ (¬ (245 : Int32) ≤ x0 → w_M_behindLead_L66 Qr 3 h))))

def w_M_behindLead_L29 (Qr : Int32 → xb_H → Prop) (x0 : Int32) (h : xb_H) : Prop :=
    ((x0 < (224 : Int32) → w_M_behindLead_L47 Qr x0 h) ∧ (¬ x0 < (224 : Int32) → (((240 : Int32) ≤ x0 → w_M_behindLead_L47 Qr x0 h) ∧ (¬ (240 : Int32) ≤ x0 → w_M_behindLead_L66 Qr 2 h))))

def w_M_behindLead (x0 : Int32) (h : xb_H) (Qr : Int32 → xb_H → Prop) : Prop :=
    (((128 : Int32) ≤ x0 → ((x0 < (194 : Int32) → w_M_behindLead_L29 Qr x0 h) ∧ (¬ x0 < (194 : Int32) → (((224 : Int32) ≤ x0 → w_M_behindLead_L29 Qr x0 h) ∧ (¬ (224 : Int32) ≤ x0 → w_M_behindLead_L66 Qr 1 h))))) ∧ (¬ (128 : Int32) ≤ x0 → w_M_behindLead_L66 Qr 0 h))

set_option maxHeartbeats 4000000 in
set_option maxRecDepth 100000 in
theorem am_M_behindLead_L66 (l : Launch) (hfl : l.flags = pinnedFlags ++ [noTraceFlag]) (D : va_G) (A : Nat → Prop) (σ MC MS : Nat) (h0 : xb_H) (Qr : Int32 → xb_H → Prop) (y0 : Int32) (h : xb_H) (hw : w_M_behindLead_L66 Qr y0 h) : xb_am l D A σ 2 MC MS h0 (fun v h => ∃ r, v = some (.int r) ∧ Qr r h) (fun _ _ => False) y_M_behindLead.cls y_M_behindLead.name b_M_behindLead 1 ([] : List ExceptionTableEntry) (some .int) 66 [] [.int y0] h 0 0 := by
  unfold w_M_behindLead_L66 at hw
  intro p e s m args below meth c hC H locs ls k n hE hl hR hS hk hn
  obtain ⟨hx, hb, hown, hlocks, htab, hml, hr, hB, hA, hnm⟩ := id hC
  have hts := hB.1.1.at args
  exact xb_iret hx hb hr hlocks (show k ≤ MC by omega) (show n ≤ MS by omega) hE hR hS (xb_d D_M_behindLead 30 rfl) hw

set_option maxHeartbeats 4000000 in
set_option maxRecDepth 100000 in
theorem am_M_behindLead_L65 (l : Launch) (hfl : l.flags = pinnedFlags ++ [noTraceFlag]) (D : va_G) (A : Nat → Prop) (σ MC MS : Nat) (h0 : xb_H) (Qr : Int32 → xb_H → Prop) (h : xb_H) (hw : w_M_behindLead_L65 Qr h) : xb_am l D A σ 2 MC MS h0 (fun v h => ∃ r, v = some (.int r) ∧ Qr r h) (fun _ _ => False) y_M_behindLead.cls y_M_behindLead.name b_M_behindLead 1 ([] : List ExceptionTableEntry) (some .int) 65 [] [] h 0 0 := by
  unfold w_M_behindLead_L65 at hw
  intro p e s m args below meth c hC H locs ls k n hE hl hR hS hk hn
  obtain ⟨hx, hb, hown, hlocks, htab, hml, hr, hB, hA, hnm⟩ := id hC
  have hts := hB.1.1.at args
  refine lv_iconst (v := (-1)) hx hb (xb_d D_M_behindLead 29 rfl) (by decide) ?_
  exact am_M_behindLead_L66 l hfl D A σ MC MS h0 Qr (-1) h hw p e s m args below meth c hC H locs ls k n hE (lv_sub hl [] rfl) hR hS (by omega) (by omega)

set_option maxHeartbeats 4000000 in
set_option maxRecDepth 100000 in
theorem am_M_behindLead_L47 (l : Launch) (hfl : l.flags = pinnedFlags ++ [noTraceFlag]) (D : va_G) (A : Nat → Prop) (σ MC MS : Nat) (h0 : xb_H) (Qr : Int32 → xb_H → Prop) (x0 : Int32) (h : xb_H) (hw : w_M_behindLead_L47 Qr x0 h) : xb_am l D A σ 2 MC MS h0 (fun v h => ∃ r, v = some (.int r) ∧ Qr r h) (fun _ _ => False) y_M_behindLead.cls y_M_behindLead.name b_M_behindLead 1 ([] : List ExceptionTableEntry) (some .int) 47 [(0, .int x0)] [] h 0 0 := by
  unfold w_M_behindLead_L47 at hw
  intro p e s m args below meth c hC H locs ls k n hE hl hR hS hk hn
  obtain ⟨hx, hb, hown, hlocks, htab, hml, hr, hB, hA, hnm⟩ := id hC
  have hts := hB.1.1.at args
  refine lv_iload_n hx hb (xb_d D_M_behindLead 21 rfl) rfl (lv_at hl 0 rfl) ?_
  refine lv_sipush (v := 240) hx hb (xb_d D_M_behindLead 22 rfl) (by decide) ?_
  refine lv_icmp_lt (tgt := 65) hx hb (xb_d D_M_behindLead 23 rfl) rfl (fun hc1 => ?_) (fun hc1 => ?_)
  · have hw := hw.1 hc1
    exact am_M_behindLead_L65 l hfl D A σ MC MS h0 Qr h hw p e s m args below meth c hC H locs ls k n hE (lv_sub hl [] rfl) hR hS (by omega) (by omega)
  · have hw := hw.2 hc1
    refine lv_iload_n hx hb (xb_d D_M_behindLead 24 rfl) rfl (lv_at hl 0 rfl) ?_
    refine lv_sipush (v := 245) hx hb (xb_d D_M_behindLead 25 rfl) (by decide) ?_
    refine lv_icmp_ge (tgt := 65) hx hb (xb_d D_M_behindLead 26 rfl) rfl (fun hc2 => ?_) (fun hc2 => ?_)
    · have hw := hw.1 hc2
      exact am_M_behindLead_L65 l hfl D A σ MC MS h0 Qr h hw p e s m args below meth c hC H locs ls k n hE (lv_sub hl [] rfl) hR hS (by omega) (by omega)
    · have hw := hw.2 hc2
      refine lv_iconst (v := 3) hx hb (xb_d D_M_behindLead 27 rfl) (by decide) ?_
      refine lv_goto (tgt := 66) hx hb (xb_d D_M_behindLead 28 rfl) rfl ?_
      exact am_M_behindLead_L66 l hfl D A σ MC MS h0 Qr 3 h hw p e s m args below meth c hC H locs ls k n hE (lv_sub hl [] rfl) hR hS (by omega) (by omega)

set_option maxHeartbeats 4000000 in
set_option maxRecDepth 100000 in
theorem am_M_behindLead_L29 (l : Launch) (hfl : l.flags = pinnedFlags ++ [noTraceFlag]) (D : va_G) (A : Nat → Prop) (σ MC MS : Nat) (h0 : xb_H) (Qr : Int32 → xb_H → Prop) (x0 : Int32) (h : xb_H) (hw : w_M_behindLead_L29 Qr x0 h) : xb_am l D A σ 2 MC MS h0 (fun v h => ∃ r, v = some (.int r) ∧ Qr r h) (fun _ _ => False) y_M_behindLead.cls y_M_behindLead.name b_M_behindLead 1 ([] : List ExceptionTableEntry) (some .int) 29 [(0, .int x0)] [] h 0 0 := by
  unfold w_M_behindLead_L29 at hw
  intro p e s m args below meth c hC H locs ls k n hE hl hR hS hk hn
  obtain ⟨hx, hb, hown, hlocks, htab, hml, hr, hB, hA, hnm⟩ := id hC
  have hts := hB.1.1.at args
  refine lv_iload_n hx hb (xb_d D_M_behindLead 13 rfl) rfl (lv_at hl 0 rfl) ?_
  refine lv_sipush (v := 224) hx hb (xb_d D_M_behindLead 14 rfl) (by decide) ?_
  refine lv_icmp_lt (tgt := 47) hx hb (xb_d D_M_behindLead 15 rfl) rfl (fun hc1 => ?_) (fun hc1 => ?_)
  · have hw := hw.1 hc1
    exact am_M_behindLead_L47 l hfl D A σ MC MS h0 Qr x0 h hw p e s m args below meth c hC H locs ls k n hE (lv_sub hl [0] rfl) hR hS (by omega) (by omega)
  · have hw := hw.2 hc1
    refine lv_iload_n hx hb (xb_d D_M_behindLead 16 rfl) rfl (lv_at hl 0 rfl) ?_
    refine lv_sipush (v := 240) hx hb (xb_d D_M_behindLead 17 rfl) (by decide) ?_
    refine lv_icmp_ge (tgt := 47) hx hb (xb_d D_M_behindLead 18 rfl) rfl (fun hc2 => ?_) (fun hc2 => ?_)
    · have hw := hw.1 hc2
      exact am_M_behindLead_L47 l hfl D A σ MC MS h0 Qr x0 h hw p e s m args below meth c hC H locs ls k n hE (lv_sub hl [0] rfl) hR hS (by omega) (by omega)
    · have hw := hw.2 hc2
      refine lv_iconst (v := 2) hx hb (xb_d D_M_behindLead 19 rfl) (by decide) ?_
      refine lv_goto (tgt := 66) hx hb (xb_d D_M_behindLead 20 rfl) rfl ?_
      exact am_M_behindLead_L66 l hfl D A σ MC MS h0 Qr 2 h hw p e s m args below meth c hC H locs ls k n hE (lv_sub hl [] rfl) hR hS (by omega) (by omega)

set_option maxHeartbeats 4000000 in
set_option maxRecDepth 100000 in
theorem ok_M_behindLead (l : Launch) (hfl : l.flags = pinnedFlags ++ [noTraceFlag]) (D : va_G) (A : Nat → Prop) (σ : Nat) (x0 : Int32) (h : xb_H) (Qr : Int32 → xb_H → Prop) (hw : w_M_behindLead x0 h Qr) : xt_Met l y_M_behindLead [.code y_M_behindLead b_M_behindLead 1 (some .int)] (xb_rm 2 0 0) (xb_Pc D A σ h [.int x0]) (xb_Qc D A h (fun v h => ∃ r, v = some (.int r) ∧ Qr r h) (fun _ _ => False)) 0 0 A := by
  refine xb_ofAm (cc := b_M_behindLead) (by decide) (Nat.le_of_ble_eq_true rfl) ?_
  unfold w_M_behindLead at hw
  show xb_am l D A σ 2 0 0 h (fun v h => ∃ r, v = some (.int r) ∧ Qr r h) (fun _ _ => False) y_M_behindLead.cls y_M_behindLead.name b_M_behindLead 1 ([] : List ExceptionTableEntry) (some .int) 0 [(0, .int x0)] [] h 0 0
  obtain ⟨MC, hMC⟩ : ∃ x, x = 0 := ⟨_, rfl⟩
  obtain ⟨MS, hMS⟩ : ∃ x, x = 0 := ⟨_, rfl⟩
  rw [show xb_am l D A σ 2 0 0 = xb_am l D A σ 2 MC MS by rw [hMC, hMS]]
  obtain ⟨h0, hh0⟩ : ∃ x, x = h := ⟨_, rfl⟩
  rw [show xb_am l D A σ 2 MC MS h = xb_am l D A σ 2 MC MS h0 by rw [hh0]]
  intro p e s m args below meth c hC H locs ls k n hE hl hR hS hk hn
  obtain ⟨hx, hb, hown, hlocks, htab, hml, hr, hB, hA, hnm⟩ := id hC
  have hts := hB.1.1.at args
  refine lv_iload_n hx hb (xb_d D_M_behindLead 0 rfl) rfl (lv_at hl 0 rfl) ?_
  refine lv_sipush (v := 128) hx hb (xb_d D_M_behindLead 1 rfl) (by decide) ?_
  refine lv_icmp_ge (tgt := 11) hx hb (xb_d D_M_behindLead 2 rfl) rfl (fun hc1 => ?_) (fun hc1 => ?_)
  · have hw := hw.1 hc1
    refine lv_iload_n hx hb (xb_d D_M_behindLead 5 rfl) rfl (lv_at hl 0 rfl) ?_
    refine lv_sipush (v := 194) hx hb (xb_d D_M_behindLead 6 rfl) (by decide) ?_
    refine lv_icmp_lt (tgt := 29) hx hb (xb_d D_M_behindLead 7 rfl) rfl (fun hc2 => ?_) (fun hc2 => ?_)
    · have hw := hw.1 hc2
      exact am_M_behindLead_L29 l hfl D A σ MC MS h0 Qr x0 h hw p e s m args below meth c hC H locs ls k n hE (lv_sub hl [0] rfl) hR hS (by omega) (by omega)
    · have hw := hw.2 hc2
      refine lv_iload_n hx hb (xb_d D_M_behindLead 8 rfl) rfl (lv_at hl 0 rfl) ?_
      refine lv_sipush (v := 224) hx hb (xb_d D_M_behindLead 9 rfl) (by decide) ?_
      refine lv_icmp_ge (tgt := 29) hx hb (xb_d D_M_behindLead 10 rfl) rfl (fun hc3 => ?_) (fun hc3 => ?_)
      · have hw := hw.1 hc3
        exact am_M_behindLead_L29 l hfl D A σ MC MS h0 Qr x0 h hw p e s m args below meth c hC H locs ls k n hE (lv_sub hl [0] rfl) hR hS (by omega) (by omega)
      · have hw := hw.2 hc3
        refine lv_iconst (v := 1) hx hb (xb_d D_M_behindLead 11 rfl) (by decide) ?_
        refine lv_goto (tgt := 66) hx hb (xb_d D_M_behindLead 12 rfl) rfl ?_
        exact am_M_behindLead_L66 l hfl D A σ MC MS h0 Qr 1 h hw p e s m args below meth c hC H locs ls k n hE (lv_sub hl [] rfl) hR hS (by omega) (by omega)
  · have hw := hw.2 hc1
    refine lv_iconst (v := 0) hx hb (xb_d D_M_behindLead 3 rfl) (by decide) ?_
    refine lv_goto (tgt := 66) hx hb (xb_d D_M_behindLead 4 rfl) rfl ?_
    exact am_M_behindLead_L66 l hfl D A σ MC MS h0 Qr 0 h hw p e s m args below meth c hC H locs ls k n hE (lv_sub hl [] rfl) hR hS (by omega) (by omega)

theorem m_afabd6a0 : (.fieldLink "StackHostModel" 189 "StackHostModel" "thrown" "I" : Cond) ∈ xt_tbl := xt_in (xt_t9 (List.mem_of_getElem? (i := 139) (by decide +kernel))) (by decide +kernel)
theorem m_71a5ca12 : (.fieldLink "StackHostModel" 539 "StackHostModel" "underWay" "Z" : Cond) ∈ xt_tbl := xt_in (xt_t9 (List.mem_of_getElem? (i := 201) (by decide +kernel))) (by decide +kernel)
theorem m_f4296656 : (.fieldLink "StackHostModel" 586 "StackHostModel" "begun" "Z" : Cond) ∈ xt_tbl := xt_in (xt_t9 (List.mem_of_getElem? (i := 202) (by decide +kernel))) (by decide +kernel)
theorem m_11712ae1 : (.fieldLink "StackHostModel" 616 "StackHostModel" "calls" "I" : Cond) ∈ xt_tbl := xt_in (xt_t9 (List.mem_of_getElem? (i := 207) (by decide +kernel))) (by decide +kernel)
set_option maxRecDepth 100000 in
def T_M_calls : List (Nat × Instr × Nat) := [(0, .aload_n 0, 1), (1, .iconst 0, 1), (2, .putfield 189, 3), (5, .aload_n 0, 1), (6, .getfield 539, 3), (9, .ifCond .eq 17, 3), (12, .aload_n 0, 1), (13, .getfield 586, 3), (16, .ifCond .eq 10, 3), (19, .aload_n 0, 1), (20, .getfield 616, 3), (23, .goto 4, 3), (26, .iconst 0, 1), (27, .ireturn, 1)]
theorem D_M_calls : ∀ q ∈ T_M_calls, decode b_M_calls q.1 = .ok (q.2.1, q.2.2) := by decide +kernel
def w_M_calls_L27 (Qr : Int32 → xb_H → Prop) (y0 : Int32) (h : xb_H) : Prop :=
    Qr y0 h

def w_M_calls_L26 (Qr : Int32 → xb_H → Prop) (h : xb_H) : Prop :=
    w_M_calls_L27 Qr 0 h

def w_M_calls (x0 : Nat) (h : xb_H) (Qr : Int32 → xb_H → Prop) : Prop :=
    xb_k h x0 = 9 ∧ ∀ h2 : xb_H, h2 = xb_I h x0 0 0 → (((xb_i h2 x0 62) = (0 : Int32) → w_M_calls_L26 Qr h2) ∧ (¬ (xb_i h2 x0 62) = (0 : Int32) → (((xb_i h2 x0 63) = (0 : Int32) → w_M_calls_L26 Qr h2) ∧ (¬ (xb_i h2 x0 63) = (0 : Int32) → w_M_calls_L27 Qr (xb_i h2 x0 68) h2))))

set_option maxHeartbeats 4000000 in
set_option maxRecDepth 100000 in
theorem am_M_calls_L27 (l : Launch) (hfl : l.flags = pinnedFlags ++ [noTraceFlag]) (D : va_G) (A : Nat → Prop) (σ MC MS : Nat) (h0 : xb_H) (Qr : Int32 → xb_H → Prop) (y0 : Int32) (h : xb_H) (hw : w_M_calls_L27 Qr y0 h) : xb_am l D A σ 2 MC MS h0 (fun v h => ∃ r, v = some (.int r) ∧ Qr r h) (fun _ _ => False) y_M_calls.cls y_M_calls.name b_M_calls 1 ([] : List ExceptionTableEntry) (some .int) 27 [] [.int y0] h 0 0 := by
  unfold w_M_calls_L27 at hw
  intro p e s m args below meth c hC H locs ls k n hE hl hR hS hk hn
  obtain ⟨hx, hb, hown, hlocks, htab, hml, hr, hB, hA, hnm⟩ := id hC
  have hts := hB.1.1.at args
  exact xb_iret hx hb hr hlocks (show k ≤ MC by omega) (show n ≤ MS by omega) hE hR hS (xb_d D_M_calls 13 rfl) hw

set_option maxHeartbeats 4000000 in
set_option maxRecDepth 100000 in
theorem am_M_calls_L26 (l : Launch) (hfl : l.flags = pinnedFlags ++ [noTraceFlag]) (D : va_G) (A : Nat → Prop) (σ MC MS : Nat) (h0 : xb_H) (Qr : Int32 → xb_H → Prop) (h : xb_H) (hw : w_M_calls_L26 Qr h) : xb_am l D A σ 2 MC MS h0 (fun v h => ∃ r, v = some (.int r) ∧ Qr r h) (fun _ _ => False) y_M_calls.cls y_M_calls.name b_M_calls 1 ([] : List ExceptionTableEntry) (some .int) 26 [] [] h 0 0 := by
  unfold w_M_calls_L26 at hw
  intro p e s m args below meth c hC H locs ls k n hE hl hR hS hk hn
  obtain ⟨hx, hb, hown, hlocks, htab, hml, hr, hB, hA, hnm⟩ := id hC
  have hts := hB.1.1.at args
  refine lv_iconst (v := 0) hx hb (xb_d D_M_calls 12 rfl) (by decide) ?_
  exact am_M_calls_L27 l hfl D A σ MC MS h0 Qr 0 h hw p e s m args below meth c hC H locs ls k n hE (lv_sub hl [] rfl) hR hS (by omega) (by omega)

set_option maxHeartbeats 4000000 in
set_option maxRecDepth 100000 in
theorem ok_M_calls (l : Launch) (hfl : l.flags = pinnedFlags ++ [noTraceFlag]) (D : va_G) (A : Nat → Prop) (σ : Nat) (x0 : Nat) (h : xb_H) (Qr : Int32 → xb_H → Prop) (hw : w_M_calls x0 h Qr) : xt_Met l y_M_calls [.code y_M_calls b_M_calls 1 (some .int)] (xb_rm 2 0 0) (xb_Pc D A σ h [.ref x0]) (xb_Qc D A h (fun v h => ∃ r, v = some (.int r) ∧ Qr r h) (fun _ _ => False)) 0 0 A := by
  refine xb_ofAm (cc := b_M_calls) (by decide) (Nat.le_of_ble_eq_true rfl) ?_
  unfold w_M_calls at hw
  show xb_am l D A σ 2 0 0 h (fun v h => ∃ r, v = some (.int r) ∧ Qr r h) (fun _ _ => False) y_M_calls.cls y_M_calls.name b_M_calls 1 ([] : List ExceptionTableEntry) (some .int) 0 [(0, .ref x0)] [] h 0 0
  obtain ⟨MC, hMC⟩ : ∃ x, x = 0 := ⟨_, rfl⟩
  obtain ⟨MS, hMS⟩ : ∃ x, x = 0 := ⟨_, rfl⟩
  rw [show xb_am l D A σ 2 0 0 = xb_am l D A σ 2 MC MS by rw [hMC, hMS]]
  obtain ⟨h0, hh0⟩ : ∃ x, x = h := ⟨_, rfl⟩
  rw [show xb_am l D A σ 2 MC MS h = xb_am l D A σ 2 MC MS h0 by rw [hh0]]
  intro p e s m args below meth c hC H locs ls k n hE hl hR hS hk hn
  obtain ⟨hx, hb, hown, hlocks, htab, hml, hr, hB, hA, hnm⟩ := id hC
  have hts := hB.1.1.at args
  refine lv_aload_n hx hb (xb_d D_M_calls 0 rfl) rfl (lv_at hl 0 rfl) ?_
  refine lv_iconst (v := 0) hx hb (xb_d D_M_calls 1 rfl) (by decide) ?_
  obtain ⟨hk1, hw⟩ := hw
  refine xb_putI (C := R_M) (T := F_M) (N := 97) (ty := .int) (x := 0) hx hb 8 0 hts fin_M t_M t_M_ok n_M hown hR hS hk1 (by decide) rfl (by decide) rfl (hts _ m_afabd6a0) (fun _ h9 => h9) rfl (by decide +kernel) rfl rfl (xb_d D_M_calls 2 rfl) (fun H locs hR hS => ?_)
  obtain ⟨h2, eh2⟩ : ∃ x : xb_H, x = xb_I h x0 0 0 := ⟨_, rfl⟩
  rw [← eh2] at hR
  have hw := hw h2 eh2
  have hE : xb_ext h0 h2 := by rw [eh2]; exact hE
  refine lv_aload_n hx hb (xb_d D_M_calls 3 rfl) rfl (lv_at hl 0 rfl) ?_
  have hk1 : xb_k h2 x0 = 9 := by rw [eh2]; exact hk1
  refine xb_getI (C := R_M) (T := F_M) (N := 97) hx hb 8 62 hts fin_M hown hR hk1 (by decide) rfl (by decide) rfl (hts _ m_71a5ca12) (fun _ h9 => h9) (xb_d D_M_calls 4 rfl) ?_
  refine lv_if_eq (tgt := 26) hx hb (xb_d D_M_calls 5 rfl) rfl (fun hc3 => ?_) (fun hc3 => ?_)
  · have hw := hw.1 hc3
    exact am_M_calls_L26 l hfl D A σ MC MS h0 Qr h2 hw p e s m args below meth c hC H locs ls k n hE (lv_sub hl [] rfl) hR hS (by omega) (by omega)
  · have hw := hw.2 hc3
    refine lv_aload_n hx hb (xb_d D_M_calls 6 rfl) rfl (lv_at hl 0 rfl) ?_
    refine xb_getI (C := R_M) (T := F_M) (N := 97) hx hb 8 63 hts fin_M hown hR hk1 (by decide) rfl (by decide) rfl (hts _ m_f4296656) (fun _ h9 => h9) (xb_d D_M_calls 7 rfl) ?_
    refine lv_if_eq (tgt := 26) hx hb (xb_d D_M_calls 8 rfl) rfl (fun hc4 => ?_) (fun hc4 => ?_)
    · have hw := hw.1 hc4
      exact am_M_calls_L26 l hfl D A σ MC MS h0 Qr h2 hw p e s m args below meth c hC H locs ls k n hE (lv_sub hl [] rfl) hR hS (by omega) (by omega)
    · have hw := hw.2 hc4
      refine lv_aload_n hx hb (xb_d D_M_calls 9 rfl) rfl (lv_at hl 0 rfl) ?_
      refine xb_getI (C := R_M) (T := F_M) (N := 97) hx hb 8 68 hts fin_M hown hR hk1 (by decide) rfl (by decide) rfl (hts _ m_11712ae1) (fun _ h9 => h9) (xb_d D_M_calls 10 rfl) ?_
      refine lv_goto (tgt := 27) hx hb (xb_d D_M_calls 11 rfl) rfl ?_
      exact am_M_calls_L27 l hfl D A σ MC MS h0 Qr (xb_i h2 x0 68) h2 hw p e s m args below meth c hC H locs ls k n hE (lv_sub hl [] rfl) hR hS (by omega) (by omega)

theorem m_e2832a78 : (.fieldLink "StackHostModel" 622 "StackHostModel" "outs" "I" : Cond) ∈ xt_tbl := xt_in (xt_t9 (List.mem_of_getElem? (i := 226) (by decide +kernel))) (by decide +kernel)
set_option maxRecDepth 100000 in
def T_M_clear : List (Nat × Instr × Nat) := [(0, .aload_n 0, 1), (1, .iconst 0, 1), (2, .putfield 189, 3), (5, .aload_n 0, 1), (6, .getfield 622, 3), (9, .istore_n 1, 1), (10, .aload_n 0, 1), (11, .iconst 0, 1), (12, .putfield 622, 3), (15, .iload_n 1, 1), (16, .ireturn, 1)]
theorem D_M_clear : ∀ q ∈ T_M_clear, decode b_M_clear q.1 = .ok (q.2.1, q.2.2) := by decide +kernel
def w_M_clear (x0 : Nat) (h : xb_H) (Qr : Int32 → xb_H → Prop) : Prop :=
    xb_k h x0 = 9 ∧ ∀ h2 : xb_H, h2 = xb_I h x0 0 0 → ∀ v3 : Int32, v3 = (xb_i h2 x0 88) → ∀ h4 : xb_H, h4 = xb_I h2 x0 88 0 → Qr v3 h4

set_option maxHeartbeats 4000000 in
set_option maxRecDepth 100000 in
theorem ok_M_clear (l : Launch) (hfl : l.flags = pinnedFlags ++ [noTraceFlag]) (D : va_G) (A : Nat → Prop) (σ : Nat) (x0 : Nat) (h : xb_H) (Qr : Int32 → xb_H → Prop) (hw : w_M_clear x0 h Qr) : xt_Met l y_M_clear [.code y_M_clear b_M_clear 2 (some .int)] (xb_rm 2 0 0) (xb_Pc D A σ h [.ref x0]) (xb_Qc D A h (fun v h => ∃ r, v = some (.int r) ∧ Qr r h) (fun _ _ => False)) 0 0 A := by
  refine xb_ofAm (cc := b_M_clear) (by decide) (Nat.le_of_ble_eq_true rfl) ?_
  unfold w_M_clear at hw
  show xb_am l D A σ 2 0 0 h (fun v h => ∃ r, v = some (.int r) ∧ Qr r h) (fun _ _ => False) y_M_clear.cls y_M_clear.name b_M_clear 2 ([] : List ExceptionTableEntry) (some .int) 0 [(0, .ref x0)] [] h 0 0
  obtain ⟨MC, hMC⟩ : ∃ x, x = 0 := ⟨_, rfl⟩
  obtain ⟨MS, hMS⟩ : ∃ x, x = 0 := ⟨_, rfl⟩
  rw [show xb_am l D A σ 2 0 0 = xb_am l D A σ 2 MC MS by rw [hMC, hMS]]
  obtain ⟨h0, hh0⟩ : ∃ x, x = h := ⟨_, rfl⟩
  rw [show xb_am l D A σ 2 MC MS h = xb_am l D A σ 2 MC MS h0 by rw [hh0]]
  intro p e s m args below meth c hC H locs ls k n hE hl hR hS hk hn
  obtain ⟨hx, hb, hown, hlocks, htab, hml, hr, hB, hA, hnm⟩ := id hC
  have hts := hB.1.1.at args
  refine lv_aload_n hx hb (xb_d D_M_clear 0 rfl) rfl (lv_at hl 0 rfl) ?_
  refine lv_iconst (v := 0) hx hb (xb_d D_M_clear 1 rfl) (by decide) ?_
  obtain ⟨hk1, hw⟩ := hw
  refine xb_putI (C := R_M) (T := F_M) (N := 97) (ty := .int) (x := 0) hx hb 8 0 hts fin_M t_M t_M_ok n_M hown hR hS hk1 (by decide) rfl (by decide) rfl (hts _ m_afabd6a0) (fun _ h9 => h9) rfl (by decide +kernel) rfl rfl (xb_d D_M_clear 2 rfl) (fun H locs hR hS => ?_)
  obtain ⟨h2, eh2⟩ : ∃ x : xb_H, x = xb_I h x0 0 0 := ⟨_, rfl⟩
  rw [← eh2] at hR
  have hw := hw h2 eh2
  have hE : xb_ext h0 h2 := by rw [eh2]; exact hE
  refine lv_aload_n hx hb (xb_d D_M_clear 3 rfl) rfl (lv_at hl 0 rfl) ?_
  have hk1 : xb_k h2 x0 = 9 := by rw [eh2]; exact hk1
  refine xb_getI (C := R_M) (T := F_M) (N := 97) hx hb 8 88 hts fin_M hown hR hk1 (by decide) rfl (by decide) rfl (hts _ m_e2832a78) (fun _ h9 => h9) (xb_d D_M_clear 4 rfl) ?_
  obtain ⟨v3, ev3⟩ : ∃ x : Int32, x = (xb_i h2 x0 88) := ⟨_, rfl⟩
  have hw := hw v3 ev3
  refine xt_numi (y := v3) ev3.symm ?_
  refine lv_istore_n hx hb (xb_d D_M_clear 5 rfl) rfl hl (by decide) rfl (fun ls hl => ?_)
  have hl : lv_has ls 2 [(1, .int v3), (0, .ref x0)] := hl
  refine lv_aload_n hx hb (xb_d D_M_clear 6 rfl) rfl (lv_at hl 1 rfl) ?_
  refine lv_iconst (v := 0) hx hb (xb_d D_M_clear 7 rfl) (by decide) ?_
  refine xb_putI (C := R_M) (T := F_M) (N := 97) (ty := .int) (x := 0) hx hb 8 88 hts fin_M t_M t_M_ok n_M hown hR hS hk1 (by decide) rfl (by decide) rfl (hts _ m_e2832a78) (fun _ h9 => h9) rfl (by decide +kernel) rfl rfl (xb_d D_M_clear 8 rfl) (fun H locs hR hS => ?_)
  obtain ⟨h4, eh4⟩ : ∃ x : xb_H, x = xb_I h2 x0 88 0 := ⟨_, rfl⟩
  rw [← eh4] at hR
  have hw := hw h4 eh4
  have hE : xb_ext h0 h4 := by rw [eh4]; exact hE
  refine lv_iload_n hx hb (xb_d D_M_clear 9 rfl) rfl (lv_at hl 0 rfl) ?_
  exact xb_iret hx hb hr hlocks (show k ≤ MC by omega) (show n ≤ MS by omega) hE hR hS (xb_d D_M_clear 10 rfl) hw

set_option maxRecDepth 100000 in
def T_M_dead : List (Nat × Instr × Nat) := [(0, .aload_n 0, 1), (1, .aload_n 0, 1), (2, .getfield 55, 3), (5, .aload_n 0, 1), (6, .getfield 396, 3), (9, .iconst 1, 1), (10, .isub, 1), (11, .iaload, 1), (12, .putfield 390, 3), (15, .aload_n 0, 1), (16, .getfield 58, 3), (19, .aload_n 0, 1), (20, .getfield 396, 3), (23, .iconst 1, 1), (24, .isub, 1), (25, .iconst 1, 1), (26, .bastore, 1), (27, .return_, 1)]
theorem D_M_dead : ∀ q ∈ T_M_dead, decode b_M_dead q.1 = .ok (q.2.1, q.2.2) := by decide +kernel
def w_M_dead (x0 : Nat) (h : xb_H) (Qr : xb_H → Prop) : Prop :=
    xb_k h x0 = 9 ∧ ∃ b2 : Nat, (xb_r h x0 27) = some b2 ∧ xb_k h b2 = 102 ∧ vp_in ((xb_i h x0 29) - 1) (xb_n h b2) ∧ ∀ h5 : xb_H, h5 = xb_I h x0 22 (xb_i h b2 (Int32.toNatClampNeg ((xb_i h x0 29) - 1))) → ∃ b6 : Nat, (xb_r h5 x0 28) = some b6 ∧ xb_k h5 b6 = 101 ∧ vp_in ((xb_i h5 x0 29) - 1) (xb_n h5 b6) ∧ ∀ h9 : xb_H, h9 = xb_I h5 b6 (Int32.toNatClampNeg ((xb_i h5 x0 29) - 1)) (vp_nar .boolean 1) → Qr h9

set_option maxHeartbeats 4000000 in
set_option maxRecDepth 100000 in
theorem ok_M_dead (l : Launch) (hfl : l.flags = pinnedFlags ++ [noTraceFlag]) (D : va_G) (A : Nat → Prop) (σ : Nat) (x0 : Nat) (h : xb_H) (Qr : xb_H → Prop) (hw : w_M_dead x0 h Qr) : xt_Met l y_M_dead [.code y_M_dead b_M_dead 1 none] (xb_rm 2 0 0) (xb_Pc D A σ h [.ref x0]) (xb_Qc D A h (fun v h => v = none ∧ Qr h) (fun _ _ => False)) 0 0 A := by
  refine xb_ofAm (cc := b_M_dead) (by decide) (Nat.le_of_ble_eq_true rfl) ?_
  unfold w_M_dead at hw
  show xb_am l D A σ 2 0 0 h (fun v h => v = none ∧ Qr h) (fun _ _ => False) y_M_dead.cls y_M_dead.name b_M_dead 1 ([] : List ExceptionTableEntry) none 0 [(0, .ref x0)] [] h 0 0
  obtain ⟨MC, hMC⟩ : ∃ x, x = 0 := ⟨_, rfl⟩
  obtain ⟨MS, hMS⟩ : ∃ x, x = 0 := ⟨_, rfl⟩
  rw [show xb_am l D A σ 2 0 0 = xb_am l D A σ 2 MC MS by rw [hMC, hMS]]
  obtain ⟨h0, hh0⟩ : ∃ x, x = h := ⟨_, rfl⟩
  rw [show xb_am l D A σ 2 MC MS h = xb_am l D A σ 2 MC MS h0 by rw [hh0]]
  intro p e s m args below meth c hC H locs ls k n hE hl hR hS hk hn
  obtain ⟨hx, hb, hown, hlocks, htab, hml, hr, hB, hA, hnm⟩ := id hC
  have hts := hB.1.1.at args
  refine lv_aload_n hx hb (xb_d D_M_dead 0 rfl) rfl (lv_at hl 0 rfl) ?_
  refine lv_aload_n hx hb (xb_d D_M_dead 1 rfl) rfl (lv_at hl 0 rfl) ?_
  obtain ⟨hk1, hw⟩ := hw
  refine xb_getP (C := R_M) (T := F_M) (N := 97) hx hb 8 27 hts fin_M hown hR hk1 (by decide) rfl (by decide) rfl (hts _ m_fe4642b7) (fun _ h9 => h9) (xb_d D_M_dead 2 rfl) ?_
  obtain ⟨b2, eb2, hw⟩ := hw
  refine xb_some eb2 ?_
  refine lv_aload_n hx hb (xb_d D_M_dead 3 rfl) rfl (lv_at hl 0 rfl) ?_
  refine xb_getI (C := R_M) (T := F_M) (N := 97) hx hb 8 29 hts fin_M hown hR hk1 (by decide) rfl (by decide) rfl (hts _ m_1024c20b) (fun _ h9 => h9) (xb_d D_M_dead 4 rfl) ?_
  refine lv_iconst (v := 1) hx hb (xb_d D_M_dead 5 rfl) (by decide) ?_
  refine lv_isub hx hb (xb_d D_M_dead 6 rfl) ?_
  obtain ⟨hk4, hw⟩ := hw
  obtain ⟨hi3, hw⟩ := hw
  refine xb_iald hx hb hR hk4 hi3 (xb_d D_M_dead 7 rfl) ?_
  refine xb_putI (C := R_M) (T := F_M) (N := 97) (ty := .int) (x := (xb_i h b2 (Int32.toNatClampNeg ((xb_i h x0 29) - 1)))) hx hb 8 22 hts fin_M t_M t_M_ok n_M hown hR hS hk1 (by decide) rfl (by decide) rfl (hts _ m_01d0a072) (fun _ h9 => h9) rfl (by decide +kernel) rfl rfl (xb_d D_M_dead 8 rfl) (fun H locs hR hS => ?_)
  obtain ⟨h5, eh5⟩ : ∃ x : xb_H, x = xb_I h x0 22 (xb_i h b2 (Int32.toNatClampNeg ((xb_i h x0 29) - 1))) := ⟨_, rfl⟩
  rw [← eh5] at hR
  have hw := hw h5 eh5
  have hE : xb_ext h0 h5 := by rw [eh5]; exact hE
  refine lv_aload_n hx hb (xb_d D_M_dead 9 rfl) rfl (lv_at hl 0 rfl) ?_
  have hk1 : xb_k h5 x0 = 9 := by rw [eh5]; exact hk1
  refine xb_getP (C := R_M) (T := F_M) (N := 97) hx hb 8 28 hts fin_M hown hR hk1 (by decide) rfl (by decide) rfl (hts _ m_a58a86b4) (fun _ h9 => h9) (xb_d D_M_dead 10 rfl) ?_
  obtain ⟨b6, eb6, hw⟩ := hw
  refine xb_some eb6 ?_
  refine lv_aload_n hx hb (xb_d D_M_dead 11 rfl) rfl (lv_at hl 0 rfl) ?_
  refine xb_getI (C := R_M) (T := F_M) (N := 97) hx hb 8 29 hts fin_M hown hR hk1 (by decide) rfl (by decide) rfl (hts _ m_1024c20b) (fun _ h9 => h9) (xb_d D_M_dead 12 rfl) ?_
  refine lv_iconst (v := 1) hx hb (xb_d D_M_dead 13 rfl) (by decide) ?_
  refine lv_isub hx hb (xb_d D_M_dead 14 rfl) ?_
  refine lv_iconst (v := 1) hx hb (xb_d D_M_dead 15 rfl) (by decide) ?_
  obtain ⟨hk7, hw⟩ := hw
  obtain ⟨hi8, hw⟩ := hw
  refine xb_zast hx hb hR hS hk7 hi8 (xb_d D_M_dead 16 rfl) (fun H locs hR hS => ?_)
  obtain ⟨h9, eh9⟩ : ∃ x : xb_H, x = xb_I h5 b6 (Int32.toNatClampNeg ((xb_i h5 x0 29) - 1)) (vp_nar .boolean 1) := ⟨_, rfl⟩
  rw [← eh9] at hR
  have hw := hw h9 eh9
  have hE : xb_ext h0 h9 := by rw [eh9]; exact hE
  exact xb_vret hx hb hr hlocks (show k ≤ MC by omega) (show n ≤ MS by omega) hE hR hS (xb_d D_M_dead 17 rfl) hw

theorem m_7895fa0a : (.fieldLink "StackHostModel" 265 "StackHostModel" "tapeSize" "I" : Cond) ∈ xt_tbl := xt_in (xt_t9 (List.mem_of_getElem? (i := 141) (by decide +kernel))) (by decide +kernel)
set_option maxRecDepth 100000 in
def T_M_end : List (Nat × Instr × Nat) := [(0, .aload_n 0, 1), (1, .iload_n 1, 1), (2, .ifCond .lt 11, 3), (5, .iload_n 1, 1), (6, .aload_n 0, 1), (7, .getfield 265, 3), (10, .if_icmp .le 7, 3), (13, .iconst 1, 1), (14, .goto 4, 3), (17, .iconst 0, 1), (18, .putfield 189, 3), (21, .aload_n 0, 1), (22, .aload_n 0, 1), (23, .getfield 189, 3), (26, .ifCond .le 10, 3), (29, .aload_n 0, 1), (30, .getfield 265, 3), (33, .goto 4, 3), (36, .iload_n 1, 1), (37, .putfield 265, 3), (40, .return_, 1)]
theorem D_M_end : ∀ q ∈ T_M_end, decode b_M_end q.1 = .ok (q.2.1, q.2.2) := by decide +kernel
def w_M_end_L37 (Qr : xb_H → Prop) (y0 : Int32) (y1 : Nat) (h : xb_H) : Prop :=
    xb_k h y1 = 9 ∧ ∀ h2 : xb_H, h2 = xb_I h y1 2 y0 → Qr h2

def w_M_end_L18 (Qr : xb_H → Prop) (x0 : Nat) (x1 : Int32) (y0 : Int32) (y1 : Nat) (h : xb_H) : Prop :=
    xb_k h y1 = 9 ∧ ∀ h2 : xb_H, h2 = xb_I h y1 0 y0 → xb_k h2 x0 = 9 ∧ (((xb_i h2 x0 0) ≤ (0 : Int32) → w_M_end_L37 Qr x1 x0 h2) ∧ (¬ (xb_i h2 x0 0) ≤ (0 : Int32) → w_M_end_L37 Qr (xb_i h2 x0 2) x0 h2))

def w_M_end_L13 (Qr : xb_H → Prop) (x0 : Nat) (x1 : Int32) (y0 : Nat) (h : xb_H) : Prop :=
    w_M_end_L18 Qr x0 x1 1 y0 h

def w_M_end (x0 : Nat) (x1 : Int32) (h : xb_H) (Qr : xb_H → Prop) : Prop :=
    ((x1 < (0 : Int32) → w_M_end_L13 Qr x0 x1 x0 h) ∧ (¬ x1 < (0 : Int32) → xb_k h x0 = 9 ∧ ((x1 ≤ (xb_i h x0 2) → w_M_end_L18 Qr x0 x1 0 x0 h) ∧ (¬ x1 ≤ (xb_i h x0 2) → w_M_end_L13 Qr x0 x1 x0 h))))

set_option maxHeartbeats 4000000 in
set_option maxRecDepth 100000 in
theorem am_M_end_L37 (l : Launch) (hfl : l.flags = pinnedFlags ++ [noTraceFlag]) (D : va_G) (A : Nat → Prop) (σ MC MS : Nat) (h0 : xb_H) (Qr : xb_H → Prop) (y0 : Int32) (y1 : Nat) (h : xb_H) (hw : w_M_end_L37 Qr y0 y1 h) : xb_am l D A σ 2 MC MS h0 (fun v h => v = none ∧ Qr h) (fun _ _ => False) y_M_end.cls y_M_end.name b_M_end 2 ([] : List ExceptionTableEntry) none 37 [] [.int y0, .ref y1] h 0 0 := by
  unfold w_M_end_L37 at hw
  intro p e s m args below meth c hC H locs ls k n hE hl hR hS hk hn
  obtain ⟨hx, hb, hown, hlocks, htab, hml, hr, hB, hA, hnm⟩ := id hC
  have hts := hB.1.1.at args
  obtain ⟨hk1, hw⟩ := hw
  refine xb_putI (C := R_M) (T := F_M) (N := 97) (ty := .int) (x := y0) hx hb 8 2 hts fin_M t_M t_M_ok n_M hown hR hS hk1 (by decide) rfl (by decide) rfl (hts _ m_7895fa0a) (fun _ h9 => h9) rfl (by decide +kernel) rfl rfl (xb_d D_M_end 19 rfl) (fun H locs hR hS => ?_)
  obtain ⟨h2, eh2⟩ : ∃ x : xb_H, x = xb_I h y1 2 y0 := ⟨_, rfl⟩
  rw [← eh2] at hR
  have hw := hw h2 eh2
  have hE : xb_ext h0 h2 := by rw [eh2]; exact hE
  exact xb_vret hx hb hr hlocks (show k ≤ MC by omega) (show n ≤ MS by omega) hE hR hS (xb_d D_M_end 20 rfl) hw

set_option maxHeartbeats 4000000 in
set_option maxRecDepth 100000 in
theorem am_M_end_L18 (l : Launch) (hfl : l.flags = pinnedFlags ++ [noTraceFlag]) (D : va_G) (A : Nat → Prop) (σ MC MS : Nat) (h0 : xb_H) (Qr : xb_H → Prop) (x0 : Nat) (x1 : Int32) (y0 : Int32) (y1 : Nat) (h : xb_H) (hw : w_M_end_L18 Qr x0 x1 y0 y1 h) : xb_am l D A σ 2 MC MS h0 (fun v h => v = none ∧ Qr h) (fun _ _ => False) y_M_end.cls y_M_end.name b_M_end 2 ([] : List ExceptionTableEntry) none 18 [(0, .ref x0), (1, .int x1)] [.int y0, .ref y1] h 0 0 := by
  unfold w_M_end_L18 at hw
  intro p e s m args below meth c hC H locs ls k n hE hl hR hS hk hn
  obtain ⟨hx, hb, hown, hlocks, htab, hml, hr, hB, hA, hnm⟩ := id hC
  have hts := hB.1.1.at args
  obtain ⟨hk1, hw⟩ := hw
  refine xb_putI (C := R_M) (T := F_M) (N := 97) (ty := .int) (x := y0) hx hb 8 0 hts fin_M t_M t_M_ok n_M hown hR hS hk1 (by decide) rfl (by decide) rfl (hts _ m_afabd6a0) (fun _ h9 => h9) rfl (by decide +kernel) rfl rfl (xb_d D_M_end 10 rfl) (fun H locs hR hS => ?_)
  obtain ⟨h2, eh2⟩ : ∃ x : xb_H, x = xb_I h y1 0 y0 := ⟨_, rfl⟩
  rw [← eh2] at hR
  have hw := hw h2 eh2
  have hE : xb_ext h0 h2 := by rw [eh2]; exact hE
  refine lv_aload_n hx hb (xb_d D_M_end 11 rfl) rfl (lv_at hl 0 rfl) ?_
  refine lv_aload_n hx hb (xb_d D_M_end 12 rfl) rfl (lv_at hl 0 rfl) ?_
  obtain ⟨hk3, hw⟩ := hw
  refine xb_getI (C := R_M) (T := F_M) (N := 97) hx hb 8 0 hts fin_M hown hR hk3 (by decide) rfl (by decide) rfl (hts _ m_afabd6a0) (fun _ h9 => h9) (xb_d D_M_end 13 rfl) ?_
  refine lv_if_le (tgt := 36) hx hb (xb_d D_M_end 14 rfl) rfl (fun hc4 => ?_) (fun hc4 => ?_)
  · have hw := hw.1 hc4
    refine lv_iload_n hx hb (xb_d D_M_end 18 rfl) rfl (lv_at hl 1 rfl) ?_
    exact am_M_end_L37 l hfl D A σ MC MS h0 Qr x1 x0 h2 hw p e s m args below meth c hC H locs ls k n hE (lv_sub hl [] rfl) hR hS (by omega) (by omega)
  · have hw := hw.2 hc4
    refine lv_aload_n hx hb (xb_d D_M_end 15 rfl) rfl (lv_at hl 0 rfl) ?_
    refine xb_getI (C := R_M) (T := F_M) (N := 97) hx hb 8 2 hts fin_M hown hR hk3 (by decide) rfl (by decide) rfl (hts _ m_7895fa0a) (fun _ h9 => h9) (xb_d D_M_end 16 rfl) ?_
    refine lv_goto (tgt := 37) hx hb (xb_d D_M_end 17 rfl) rfl ?_
    exact am_M_end_L37 l hfl D A σ MC MS h0 Qr (xb_i h2 x0 2) x0 h2 hw p e s m args below meth c hC H locs ls k n hE (lv_sub hl [] rfl) hR hS (by omega) (by omega)

set_option maxHeartbeats 4000000 in
set_option maxRecDepth 100000 in
theorem am_M_end_L13 (l : Launch) (hfl : l.flags = pinnedFlags ++ [noTraceFlag]) (D : va_G) (A : Nat → Prop) (σ MC MS : Nat) (h0 : xb_H) (Qr : xb_H → Prop) (x0 : Nat) (x1 : Int32) (y0 : Nat) (h : xb_H) (hw : w_M_end_L13 Qr x0 x1 y0 h) : xb_am l D A σ 2 MC MS h0 (fun v h => v = none ∧ Qr h) (fun _ _ => False) y_M_end.cls y_M_end.name b_M_end 2 ([] : List ExceptionTableEntry) none 13 [(0, .ref x0), (1, .int x1)] [.ref y0] h 0 0 := by
  unfold w_M_end_L13 at hw
  intro p e s m args below meth c hC H locs ls k n hE hl hR hS hk hn
  obtain ⟨hx, hb, hown, hlocks, htab, hml, hr, hB, hA, hnm⟩ := id hC
  have hts := hB.1.1.at args
  refine lv_iconst (v := 1) hx hb (xb_d D_M_end 7 rfl) (by decide) ?_
  refine lv_goto (tgt := 18) hx hb (xb_d D_M_end 8 rfl) rfl ?_
  exact am_M_end_L18 l hfl D A σ MC MS h0 Qr x0 x1 1 y0 h hw p e s m args below meth c hC H locs ls k n hE (lv_sub hl [0, 1] rfl) hR hS (by omega) (by omega)

set_option maxHeartbeats 4000000 in
set_option maxRecDepth 100000 in
theorem ok_M_end (l : Launch) (hfl : l.flags = pinnedFlags ++ [noTraceFlag]) (D : va_G) (A : Nat → Prop) (σ : Nat) (x0 : Nat) (x1 : Int32) (h : xb_H) (Qr : xb_H → Prop) (hw : w_M_end x0 x1 h Qr) : xt_Met l y_M_end [.code y_M_end b_M_end 2 none] (xb_rm 2 0 0) (xb_Pc D A σ h [.ref x0, .int x1]) (xb_Qc D A h (fun v h => v = none ∧ Qr h) (fun _ _ => False)) 0 0 A := by
  refine xb_ofAm (cc := b_M_end) (by decide) (Nat.le_of_ble_eq_true rfl) ?_
  unfold w_M_end at hw
  show xb_am l D A σ 2 0 0 h (fun v h => v = none ∧ Qr h) (fun _ _ => False) y_M_end.cls y_M_end.name b_M_end 2 ([] : List ExceptionTableEntry) none 0 [(0, .ref x0), (1, .int x1)] [] h 0 0
  obtain ⟨MC, hMC⟩ : ∃ x, x = 0 := ⟨_, rfl⟩
  obtain ⟨MS, hMS⟩ : ∃ x, x = 0 := ⟨_, rfl⟩
  rw [show xb_am l D A σ 2 0 0 = xb_am l D A σ 2 MC MS by rw [hMC, hMS]]
  obtain ⟨h0, hh0⟩ : ∃ x, x = h := ⟨_, rfl⟩
  rw [show xb_am l D A σ 2 MC MS h = xb_am l D A σ 2 MC MS h0 by rw [hh0]]
  intro p e s m args below meth c hC H locs ls k n hE hl hR hS hk hn
  obtain ⟨hx, hb, hown, hlocks, htab, hml, hr, hB, hA, hnm⟩ := id hC
  have hts := hB.1.1.at args
  refine lv_aload_n hx hb (xb_d D_M_end 0 rfl) rfl (lv_at hl 0 rfl) ?_
  refine lv_iload_n hx hb (xb_d D_M_end 1 rfl) rfl (lv_at hl 1 rfl) ?_
  refine lv_if_lt (tgt := 13) hx hb (xb_d D_M_end 2 rfl) rfl (fun hc1 => ?_) (fun hc1 => ?_)
  · have hw := hw.1 hc1
    exact am_M_end_L13 l hfl D A σ MC MS h0 Qr x0 x1 x0 h hw p e s m args below meth c hC H locs ls k n hE (lv_sub hl [0, 1] rfl) hR hS (by omega) (by omega)
  · have hw := hw.2 hc1
    refine lv_iload_n hx hb (xb_d D_M_end 3 rfl) rfl (lv_at hl 1 rfl) ?_
    refine lv_aload_n hx hb (xb_d D_M_end 4 rfl) rfl (lv_at hl 0 rfl) ?_
    obtain ⟨hk2, hw⟩ := hw
    refine xb_getI (C := R_M) (T := F_M) (N := 97) hx hb 8 2 hts fin_M hown hR hk2 (by decide) rfl (by decide) rfl (hts _ m_7895fa0a) (fun _ h9 => h9) (xb_d D_M_end 5 rfl) ?_
    refine lv_icmp_le (tgt := 17) hx hb (xb_d D_M_end 6 rfl) rfl (fun hc3 => ?_) (fun hc3 => ?_)
    · have hw := hw.1 hc3
      refine lv_iconst (v := 0) hx hb (xb_d D_M_end 9 rfl) (by decide) ?_
      exact am_M_end_L18 l hfl D A σ MC MS h0 Qr x0 x1 0 x0 h hw p e s m args below meth c hC H locs ls k n hE (lv_sub hl [0, 1] rfl) hR hS (by omega) (by omega)
    · have hw := hw.2 hc3
      exact am_M_end_L13 l hfl D A σ MC MS h0 Qr x0 x1 x0 h hw p e s m args below meth c hC H locs ls k n hE (lv_sub hl [0, 1] rfl) hR hS (by omega) (by omega)

theorem m_ff69da61 : (.fieldLink "StackHostModel" 193 "StackHostModel" "code" "I" : Cond) ∈ xt_tbl := xt_in (xt_t9 (List.mem_of_getElem? (i := 156) (by decide +kernel))) (by decide +kernel)
theorem m_a8fce005 : (.fieldLink "StackHostModel" 196 "StackHostModel" "base" "I" : Cond) ∈ xt_tbl := xt_in (xt_t9 (List.mem_of_getElem? (i := 153) (by decide +kernel))) (by decide +kernel)
theorem m_3fd8f0e3 : (.fieldLink "StackHostModel" 199 "StackHostModel" "place" "I" : Cond) ∈ xt_tbl := xt_in (xt_t9 (List.mem_of_getElem? (i := 157) (by decide +kernel))) (by decide +kernel)
set_option maxRecDepth 100000 in
def T_M_fail : List (Nat × Instr × Nat) := [(0, .aload_n 0, 1), (1, .getfield 193, 3), (4, .ifCond .ne 18, 3), (7, .aload_n 0, 1), (8, .iload_n 1, 1), (9, .putfield 193, 3), (12, .aload_n 0, 1), (13, .iload_n 2, 1), (14, .aload_n 0, 1), (15, .getfield 196, 3), (18, .isub, 1), (19, .putfield 199, 3), (22, .return_, 1)]
theorem D_M_fail : ∀ q ∈ T_M_fail, decode b_M_fail q.1 = .ok (q.2.1, q.2.2) := by decide +kernel
def w_M_fail_L22 (Qr : xb_H → Prop) (h : xb_H) : Prop :=
    Qr h

def w_M_fail (x0 : Nat) (x1 : Int32) (x2 : Int32) (h : xb_H) (Qr : xb_H → Prop) : Prop :=
    xb_k h x0 = 9 ∧ ((¬ (xb_i h x0 17) = (0 : Int32) → w_M_fail_L22 Qr h) ∧ ((xb_i h x0 17) = (0 : Int32) → ∀ h3 : xb_H, h3 = xb_I h x0 17 x1 → ∀ h4 : xb_H, h4 = xb_I h3 x0 18 (x2 - (xb_i h3 x0 14)) → w_M_fail_L22 Qr h4))

set_option maxHeartbeats 4000000 in
set_option maxRecDepth 100000 in
theorem am_M_fail_L22 (l : Launch) (hfl : l.flags = pinnedFlags ++ [noTraceFlag]) (D : va_G) (A : Nat → Prop) (σ MC MS : Nat) (h0 : xb_H) (Qr : xb_H → Prop) (h : xb_H) (hw : w_M_fail_L22 Qr h) : xb_am l D A σ 2 MC MS h0 (fun v h => v = none ∧ Qr h) (fun _ _ => False) y_M_fail.cls y_M_fail.name b_M_fail 3 ([] : List ExceptionTableEntry) none 22 [] [] h 0 0 := by
  unfold w_M_fail_L22 at hw
  intro p e s m args below meth c hC H locs ls k n hE hl hR hS hk hn
  obtain ⟨hx, hb, hown, hlocks, htab, hml, hr, hB, hA, hnm⟩ := id hC
  have hts := hB.1.1.at args
  exact xb_vret hx hb hr hlocks (show k ≤ MC by omega) (show n ≤ MS by omega) hE hR hS (xb_d D_M_fail 12 rfl) hw

set_option maxHeartbeats 4000000 in
set_option maxRecDepth 100000 in
theorem ok_M_fail (l : Launch) (hfl : l.flags = pinnedFlags ++ [noTraceFlag]) (D : va_G) (A : Nat → Prop) (σ : Nat) (x0 : Nat) (x1 : Int32) (x2 : Int32) (h : xb_H) (Qr : xb_H → Prop) (hw : w_M_fail x0 x1 x2 h Qr) : xt_Met l y_M_fail [.code y_M_fail b_M_fail 3 none] (xb_rm 2 0 0) (xb_Pc D A σ h [.ref x0, .int x1, .int x2]) (xb_Qc D A h (fun v h => v = none ∧ Qr h) (fun _ _ => False)) 0 0 A := by
  refine xb_ofAm (cc := b_M_fail) (by decide) (Nat.le_of_ble_eq_true rfl) ?_
  unfold w_M_fail at hw
  show xb_am l D A σ 2 0 0 h (fun v h => v = none ∧ Qr h) (fun _ _ => False) y_M_fail.cls y_M_fail.name b_M_fail 3 ([] : List ExceptionTableEntry) none 0 [(0, .ref x0), (1, .int x1), (2, .int x2)] [] h 0 0
  obtain ⟨MC, hMC⟩ : ∃ x, x = 0 := ⟨_, rfl⟩
  obtain ⟨MS, hMS⟩ : ∃ x, x = 0 := ⟨_, rfl⟩
  rw [show xb_am l D A σ 2 0 0 = xb_am l D A σ 2 MC MS by rw [hMC, hMS]]
  obtain ⟨h0, hh0⟩ : ∃ x, x = h := ⟨_, rfl⟩
  rw [show xb_am l D A σ 2 MC MS h = xb_am l D A σ 2 MC MS h0 by rw [hh0]]
  intro p e s m args below meth c hC H locs ls k n hE hl hR hS hk hn
  obtain ⟨hx, hb, hown, hlocks, htab, hml, hr, hB, hA, hnm⟩ := id hC
  have hts := hB.1.1.at args
  refine lv_aload_n hx hb (xb_d D_M_fail 0 rfl) rfl (lv_at hl 0 rfl) ?_
  obtain ⟨hk1, hw⟩ := hw
  refine xb_getI (C := R_M) (T := F_M) (N := 97) hx hb 8 17 hts fin_M hown hR hk1 (by decide) rfl (by decide) rfl (hts _ m_ff69da61) (fun _ h9 => h9) (xb_d D_M_fail 1 rfl) ?_
  refine lv_if_ne (tgt := 22) hx hb (xb_d D_M_fail 2 rfl) rfl (fun hc2 => ?_) (fun hc2 => ?_)
  · have hw := hw.1 hc2
    exact am_M_fail_L22 l hfl D A σ MC MS h0 Qr h hw p e s m args below meth c hC H locs ls k n hE (lv_sub hl [] rfl) hR hS (by omega) (by omega)
  · have hw := hw.2 hc2
    refine lv_aload_n hx hb (xb_d D_M_fail 3 rfl) rfl (lv_at hl 0 rfl) ?_
    refine lv_iload_n hx hb (xb_d D_M_fail 4 rfl) rfl (lv_at hl 1 rfl) ?_
    refine xb_putI (C := R_M) (T := F_M) (N := 97) (ty := .int) (x := x1) hx hb 8 17 hts fin_M t_M t_M_ok n_M hown hR hS hk1 (by decide) rfl (by decide) rfl (hts _ m_ff69da61) (fun _ h9 => h9) rfl (by decide +kernel) rfl rfl (xb_d D_M_fail 5 rfl) (fun H locs hR hS => ?_)
    obtain ⟨h3, eh3⟩ : ∃ x : xb_H, x = xb_I h x0 17 x1 := ⟨_, rfl⟩
    rw [← eh3] at hR
    have hw := hw h3 eh3
    have hE : xb_ext h0 h3 := by rw [eh3]; exact hE
    refine lv_aload_n hx hb (xb_d D_M_fail 6 rfl) rfl (lv_at hl 0 rfl) ?_
    refine lv_iload_n hx hb (xb_d D_M_fail 7 rfl) rfl (lv_at hl 2 rfl) ?_
    refine lv_aload_n hx hb (xb_d D_M_fail 8 rfl) rfl (lv_at hl 0 rfl) ?_
    have hk1 : xb_k h3 x0 = 9 := by rw [eh3]; exact hk1
    refine xb_getI (C := R_M) (T := F_M) (N := 97) hx hb 8 14 hts fin_M hown hR hk1 (by decide) rfl (by decide) rfl (hts _ m_a8fce005) (fun _ h9 => h9) (xb_d D_M_fail 9 rfl) ?_
    refine lv_isub hx hb (xb_d D_M_fail 10 rfl) ?_
    refine xb_putI (C := R_M) (T := F_M) (N := 97) (ty := .int) (x := (x2 - (xb_i h3 x0 14))) hx hb 8 18 hts fin_M t_M t_M_ok n_M hown hR hS hk1 (by decide) rfl (by decide) rfl (hts _ m_3fd8f0e3) (fun _ h9 => h9) rfl (by decide +kernel) rfl rfl (xb_d D_M_fail 11 rfl) (fun H locs hR hS => ?_)
    obtain ⟨h4, eh4⟩ : ∃ x : xb_H, x = xb_I h3 x0 18 (x2 - (xb_i h3 x0 14)) := ⟨_, rfl⟩
    rw [← eh4] at hR
    have hw := hw h4 eh4
    have hE : xb_ext h0 h4 := by rw [eh4]; exact hE
    exact am_M_fail_L22 l hfl D A σ MC MS h0 Qr h4 hw p e s m args below meth c hC H locs ls k n hE (lv_sub hl [] rfl) hR hS (by omega) (by omega)

theorem m_8367c681 : (.fieldLink "StackHostModel" 179 "StackHostModel" "fault" "[I" : Cond) ∈ xt_tbl := xt_in (xt_t9 (List.mem_of_getElem? (i := 227) (by decide +kernel))) (by decide +kernel)
set_option maxRecDepth 100000 in
def T_M_fault : List (Nat × Instr × Nat) := [(0, .aload_n 0, 1), (1, .iload_n 1, 1), (2, .ifCond .eq 8, 3), (5, .iload_n 1, 1), (6, .iconst 1, 1), (7, .if_icmp .ne 7, 3), (10, .iconst 0, 1), (11, .goto 4, 3), (14, .iconst 1, 1), (15, .putfield 189, 3), (18, .aload_n 0, 1), (19, .getfield 189, 3), (22, .ifCond .le 7, 3), (25, .iconst 0, 1), (26, .goto 9, 3), (29, .aload_n 0, 1), (30, .getfield 179, 3), (33, .iload_n 1, 1), (34, .iaload, 1), (35, .ireturn, 1)]
theorem D_M_fault : ∀ q ∈ T_M_fault, decode b_M_fault q.1 = .ok (q.2.1, q.2.2) := by decide +kernel
def w_M_fault_L35 (Qr : Int32 → xb_H → Prop) (y0 : Int32) (h : xb_H) : Prop :=
    Qr y0 h

def w_M_fault_L15 (Qr : Int32 → xb_H → Prop) (x0 : Nat) (x1 : Int32) (y0 : Int32) (y1 : Nat) (h : xb_H) : Prop :=
    xb_k h y1 = 9 ∧ ∀ h2 : xb_H, h2 = xb_I h y1 0 y0 → xb_k h2 x0 = 9 ∧ (((xb_i h2 x0 0) ≤ (0 : Int32) → ∃ b5 : Nat, (xb_r h2 x0 89) = some b5 ∧ xb_k h2 b5 = 102 ∧ vp_in x1 (xb_n h2 b5) ∧ w_M_fault_L35 Qr (xb_i h2 b5 (Int32.toNatClampNeg x1)) h2) ∧ (¬ (xb_i h2 x0 0) ≤ (0 : Int32) → w_M_fault_L35 Qr 0 h2))

def w_M_fault_L10 (Qr : Int32 → xb_H → Prop) (x0 : Nat) (x1 : Int32) (y0 : Nat) (h : xb_H) : Prop :=
    w_M_fault_L15 Qr x0 x1 0 y0 h

def w_M_fault (x0 : Nat) (x1 : Int32) (h : xb_H) (Qr : Int32 → xb_H → Prop) : Prop :=
    ((x1 = (0 : Int32) → w_M_fault_L10 Qr x0 x1 x0 h) ∧ (¬ x1 = (0 : Int32) → ((¬ x1 = (1 : Int32) → w_M_fault_L15 Qr x0 x1 1 x0 h) ∧ (x1 = (1 : Int32) → w_M_fault_L10 Qr x0 x1 x0 h))))

set_option maxHeartbeats 4000000 in
set_option maxRecDepth 100000 in
theorem am_M_fault_L35 (l : Launch) (hfl : l.flags = pinnedFlags ++ [noTraceFlag]) (D : va_G) (A : Nat → Prop) (σ MC MS : Nat) (h0 : xb_H) (Qr : Int32 → xb_H → Prop) (y0 : Int32) (h : xb_H) (hw : w_M_fault_L35 Qr y0 h) : xb_am l D A σ 2 MC MS h0 (fun v h => ∃ r, v = some (.int r) ∧ Qr r h) (fun _ _ => False) y_M_fault.cls y_M_fault.name b_M_fault 2 ([] : List ExceptionTableEntry) (some .int) 35 [] [.int y0] h 0 0 := by
  unfold w_M_fault_L35 at hw
  intro p e s m args below meth c hC H locs ls k n hE hl hR hS hk hn
  obtain ⟨hx, hb, hown, hlocks, htab, hml, hr, hB, hA, hnm⟩ := id hC
  have hts := hB.1.1.at args
  exact xb_iret hx hb hr hlocks (show k ≤ MC by omega) (show n ≤ MS by omega) hE hR hS (xb_d D_M_fault 19 rfl) hw

set_option maxHeartbeats 4000000 in
set_option maxRecDepth 100000 in
theorem am_M_fault_L15 (l : Launch) (hfl : l.flags = pinnedFlags ++ [noTraceFlag]) (D : va_G) (A : Nat → Prop) (σ MC MS : Nat) (h0 : xb_H) (Qr : Int32 → xb_H → Prop) (x0 : Nat) (x1 : Int32) (y0 : Int32) (y1 : Nat) (h : xb_H) (hw : w_M_fault_L15 Qr x0 x1 y0 y1 h) : xb_am l D A σ 2 MC MS h0 (fun v h => ∃ r, v = some (.int r) ∧ Qr r h) (fun _ _ => False) y_M_fault.cls y_M_fault.name b_M_fault 2 ([] : List ExceptionTableEntry) (some .int) 15 [(0, .ref x0), (1, .int x1)] [.int y0, .ref y1] h 0 0 := by
  unfold w_M_fault_L15 at hw
  intro p e s m args below meth c hC H locs ls k n hE hl hR hS hk hn
  obtain ⟨hx, hb, hown, hlocks, htab, hml, hr, hB, hA, hnm⟩ := id hC
  have hts := hB.1.1.at args
  obtain ⟨hk1, hw⟩ := hw
  refine xb_putI (C := R_M) (T := F_M) (N := 97) (ty := .int) (x := y0) hx hb 8 0 hts fin_M t_M t_M_ok n_M hown hR hS hk1 (by decide) rfl (by decide) rfl (hts _ m_afabd6a0) (fun _ h9 => h9) rfl (by decide +kernel) rfl rfl (xb_d D_M_fault 9 rfl) (fun H locs hR hS => ?_)
  obtain ⟨h2, eh2⟩ : ∃ x : xb_H, x = xb_I h y1 0 y0 := ⟨_, rfl⟩
  rw [← eh2] at hR
  have hw := hw h2 eh2
  have hE : xb_ext h0 h2 := by rw [eh2]; exact hE
  refine lv_aload_n hx hb (xb_d D_M_fault 10 rfl) rfl (lv_at hl 0 rfl) ?_
  obtain ⟨hk3, hw⟩ := hw
  refine xb_getI (C := R_M) (T := F_M) (N := 97) hx hb 8 0 hts fin_M hown hR hk3 (by decide) rfl (by decide) rfl (hts _ m_afabd6a0) (fun _ h9 => h9) (xb_d D_M_fault 11 rfl) ?_
  refine lv_if_le (tgt := 29) hx hb (xb_d D_M_fault 12 rfl) rfl (fun hc4 => ?_) (fun hc4 => ?_)
  · have hw := hw.1 hc4
    refine lv_aload_n hx hb (xb_d D_M_fault 15 rfl) rfl (lv_at hl 0 rfl) ?_
    refine xb_getP (C := R_M) (T := F_M) (N := 97) hx hb 8 89 hts fin_M hown hR hk3 (by decide) rfl (by decide) rfl (hts _ m_8367c681) (fun _ h9 => h9) (xb_d D_M_fault 16 rfl) ?_
    obtain ⟨b5, eb5, hw⟩ := hw
    refine xb_some eb5 ?_
    refine lv_iload_n hx hb (xb_d D_M_fault 17 rfl) rfl (lv_at hl 1 rfl) ?_
    obtain ⟨hk7, hw⟩ := hw
    obtain ⟨hi6, hw⟩ := hw
    refine xb_iald hx hb hR hk7 hi6 (xb_d D_M_fault 18 rfl) ?_
    exact am_M_fault_L35 l hfl D A σ MC MS h0 Qr (xb_i h2 b5 (Int32.toNatClampNeg x1)) h2 hw p e s m args below meth c hC H locs ls k n hE (lv_sub hl [] rfl) hR hS (by omega) (by omega)
  · have hw := hw.2 hc4
    refine lv_iconst (v := 0) hx hb (xb_d D_M_fault 13 rfl) (by decide) ?_
    refine lv_goto (tgt := 35) hx hb (xb_d D_M_fault 14 rfl) rfl ?_
    exact am_M_fault_L35 l hfl D A σ MC MS h0 Qr 0 h2 hw p e s m args below meth c hC H locs ls k n hE (lv_sub hl [] rfl) hR hS (by omega) (by omega)

set_option maxHeartbeats 4000000 in
set_option maxRecDepth 100000 in
theorem am_M_fault_L10 (l : Launch) (hfl : l.flags = pinnedFlags ++ [noTraceFlag]) (D : va_G) (A : Nat → Prop) (σ MC MS : Nat) (h0 : xb_H) (Qr : Int32 → xb_H → Prop) (x0 : Nat) (x1 : Int32) (y0 : Nat) (h : xb_H) (hw : w_M_fault_L10 Qr x0 x1 y0 h) : xb_am l D A σ 2 MC MS h0 (fun v h => ∃ r, v = some (.int r) ∧ Qr r h) (fun _ _ => False) y_M_fault.cls y_M_fault.name b_M_fault 2 ([] : List ExceptionTableEntry) (some .int) 10 [(0, .ref x0), (1, .int x1)] [.ref y0] h 0 0 := by
  unfold w_M_fault_L10 at hw
  intro p e s m args below meth c hC H locs ls k n hE hl hR hS hk hn
  obtain ⟨hx, hb, hown, hlocks, htab, hml, hr, hB, hA, hnm⟩ := id hC
  have hts := hB.1.1.at args
  refine lv_iconst (v := 0) hx hb (xb_d D_M_fault 6 rfl) (by decide) ?_
  refine lv_goto (tgt := 15) hx hb (xb_d D_M_fault 7 rfl) rfl ?_
  exact am_M_fault_L15 l hfl D A σ MC MS h0 Qr x0 x1 0 y0 h hw p e s m args below meth c hC H locs ls k n hE (lv_sub hl [0, 1] rfl) hR hS (by omega) (by omega)

set_option maxHeartbeats 4000000 in
set_option maxRecDepth 100000 in
theorem ok_M_fault (l : Launch) (hfl : l.flags = pinnedFlags ++ [noTraceFlag]) (D : va_G) (A : Nat → Prop) (σ : Nat) (x0 : Nat) (x1 : Int32) (h : xb_H) (Qr : Int32 → xb_H → Prop) (hw : w_M_fault x0 x1 h Qr) : xt_Met l y_M_fault [.code y_M_fault b_M_fault 2 (some .int)] (xb_rm 2 0 0) (xb_Pc D A σ h [.ref x0, .int x1]) (xb_Qc D A h (fun v h => ∃ r, v = some (.int r) ∧ Qr r h) (fun _ _ => False)) 0 0 A := by
  refine xb_ofAm (cc := b_M_fault) (by decide) (Nat.le_of_ble_eq_true rfl) ?_
  unfold w_M_fault at hw
  show xb_am l D A σ 2 0 0 h (fun v h => ∃ r, v = some (.int r) ∧ Qr r h) (fun _ _ => False) y_M_fault.cls y_M_fault.name b_M_fault 2 ([] : List ExceptionTableEntry) (some .int) 0 [(0, .ref x0), (1, .int x1)] [] h 0 0
  obtain ⟨MC, hMC⟩ : ∃ x, x = 0 := ⟨_, rfl⟩
  obtain ⟨MS, hMS⟩ : ∃ x, x = 0 := ⟨_, rfl⟩
  rw [show xb_am l D A σ 2 0 0 = xb_am l D A σ 2 MC MS by rw [hMC, hMS]]
  obtain ⟨h0, hh0⟩ : ∃ x, x = h := ⟨_, rfl⟩
  rw [show xb_am l D A σ 2 MC MS h = xb_am l D A σ 2 MC MS h0 by rw [hh0]]
  intro p e s m args below meth c hC H locs ls k n hE hl hR hS hk hn
  obtain ⟨hx, hb, hown, hlocks, htab, hml, hr, hB, hA, hnm⟩ := id hC
  have hts := hB.1.1.at args
  refine lv_aload_n hx hb (xb_d D_M_fault 0 rfl) rfl (lv_at hl 0 rfl) ?_
  refine lv_iload_n hx hb (xb_d D_M_fault 1 rfl) rfl (lv_at hl 1 rfl) ?_
  refine lv_if_eq (tgt := 10) hx hb (xb_d D_M_fault 2 rfl) rfl (fun hc1 => ?_) (fun hc1 => ?_)
  · have hw := hw.1 hc1
    exact am_M_fault_L10 l hfl D A σ MC MS h0 Qr x0 x1 x0 h hw p e s m args below meth c hC H locs ls k n hE (lv_sub hl [0, 1] rfl) hR hS (by omega) (by omega)
  · have hw := hw.2 hc1
    refine lv_iload_n hx hb (xb_d D_M_fault 3 rfl) rfl (lv_at hl 1 rfl) ?_
    refine lv_iconst (v := 1) hx hb (xb_d D_M_fault 4 rfl) (by decide) ?_
    refine lv_icmp_ne (tgt := 14) hx hb (xb_d D_M_fault 5 rfl) rfl (fun hc2 => ?_) (fun hc2 => ?_)
    · have hw := hw.1 hc2
      refine lv_iconst (v := 1) hx hb (xb_d D_M_fault 8 rfl) (by decide) ?_
      exact am_M_fault_L15 l hfl D A σ MC MS h0 Qr x0 x1 1 x0 h hw p e s m args below meth c hC H locs ls k n hE (lv_sub hl [0, 1] rfl) hR hS (by omega) (by omega)
    · have hw := hw.2 hc2
      exact am_M_fault_L10 l hfl D A σ MC MS h0 Qr x0 x1 x0 h hw p e s m args below meth c hC H locs ls k n hE (lv_sub hl [0, 1] rfl) hR hS (by omega) (by omega)

theorem m_95b40228 : (.fieldLink "StackHostModel" 8 "StackHostModel" "tape" "[B" : Cond) ∈ xt_tbl := xt_in (xt_t9 (List.mem_of_getElem? (i := 140) (by decide +kernel))) (by decide +kernel)
set_option maxRecDepth 100000 in
def T_M_feed : List (Nat × Instr × Nat) := [(0, .aload_n 0, 1), (1, .aload_n 0, 1), (2, .getfield 265, 3), (5, .bipush 20, 2), (7, .iadd, 1), (8, .aload_n 0, 1), (9, .getfield 8, 3), (12, .arraylength, 1), (13, .if_icmp .le 7, 3), (16, .iconst 1, 1), (17, .goto 4, 3), (20, .iconst 0, 1), (21, .putfield 189, 3), (24, .aload_n 0, 1), (25, .getfield 189, 3), (28, .ifCond .le 5, 3), (31, .iconst 0, 1), (32, .ireturn, 1), (33, .iconst 0, 1), (34, .istore 6, 2), (36, .iload 6, 2), (38, .bipush 20, 2), (40, .if_icmp .ge 83, 3), (43, .iload 6, 2), (45, .iconst 4, 1), (46, .if_icmp .ge 7, 3), (49, .iload_n 1, 1), (50, .goto 39, 3), (53, .iload 6, 2), (55, .bipush 8, 2), (57, .if_icmp .ge 7, 3), (60, .iload_n 2, 1), (61, .goto 28, 3), (64, .iload 6, 2), (66, .bipush 12, 2), (68, .if_icmp .ge 7, 3), (71, .iload_n 3, 1), (72, .goto 17, 3), (75, .iload 6, 2), (77, .bipush 16, 2), (79, .if_icmp .ge 8, 3), (82, .iload 4, 2), (84, .goto 5, 3), (87, .iload 5, 2), (89, .istore 7, 2), (91, .aload_n 0, 1), (92, .getfield 8, 3), (95, .aload_n 0, 1), (96, .getfield 265, 3), (99, .iload 6, 2), (101, .iadd, 1), (102, .iload 7, 2), (104, .bipush 24, 2), (106, .bipush 8, 2), (108, .iload 6, 2), (110, .iconst 4, 1), (111, .irem, 1), (112, .imul, 1), (113, .isub, 1), (114, .ishr, 1), (115, .i2b, 1), (116, .bastore, 1), (117, .iinc 6 1, 3), (120, .goto (-84), 3), (123, .aload_n 0, 1), (124, .aload_n 0, 1), (125, .getfield 265, 3), (128, .bipush 20, 2), (130, .iadd, 1), (131, .putfield 265, 3), (134, .aload_n 0, 1), (135, .getfield 265, 3), (138, .ireturn, 1)]
theorem D_M_feed : ∀ q ∈ T_M_feed, decode b_M_feed q.1 = .ok (q.2.1, q.2.2) := by decide +kernel
def w_M_feed_L89 (K36 : Nat → Int32 → Int32 → Int32 → Int32 → Int32 → Int32 → xb_H → Prop) (Qr : Int32 → xb_H → Prop) (x0 : Nat) (x1 : Int32) (x2 : Int32) (x3 : Int32) (x4 : Int32) (x5 : Int32) (x6 : Int32) (y0 : Int32) (h : xb_H) : Prop :=
    xb_k h x0 = 9 ∧ ∃ b2 : Nat, (xb_r h x0 1) = some b2 ∧ xb_k h b2 = 100 ∧ vp_in ((xb_i h x0 2) + x6) (xb_n h b2) ∧ ∀ h5 : xb_H, h5 = xb_I h b2 (Int32.toNatClampNeg ((xb_i h x0 2) + x6)) (vp_nar .byte ((Int32.toInt8 (y0 >>> ((24 - (8 * (x6 - x6 / 4 * 4))) &&& 31))).toInt32)) → K36 x0 x1 x2 x3 x4 x5 (x6 + 1) h5

def w_M_feed_L36 (Qr : Int32 → xb_H → Prop) : Nat → Nat → Int32 → Int32 → Int32 → Int32 → Int32 → Int32 → xb_H → Prop
  | 0, _, _, _, _, _, _, _, _ => False
  | n9 + 1, x0, x1, x2, x3, x4, x5, x6, h =>
    (((20 : Int32) ≤ x6 → xb_k h x0 = 9 ∧ ∀ h3 : xb_H, h3 = xb_I h x0 2 ((xb_i h x0 2) + 20) → Qr (xb_i h3 x0 2) h3) ∧ (¬ (20 : Int32) ≤ x6 → (((4 : Int32) ≤ x6 → (((8 : Int32) ≤ x6 → (((12 : Int32) ≤ x6 → (((16 : Int32) ≤ x6 → w_M_feed_L89 (w_M_feed_L36 Qr n9) Qr x0 x1 x2 x3 x4 x5 x6 x5 h) ∧ (¬ (16 : Int32) ≤ x6 → w_M_feed_L89 (w_M_feed_L36 Qr n9) Qr x0 x1 x2 x3 x4 x5 x6 x4 h))) ∧ (¬ (12 : Int32) ≤ x6 → w_M_feed_L89 (w_M_feed_L36 Qr n9) Qr x0 x1 x2 x3 x4 x5 x6 x3 h))) ∧ (¬ (8 : Int32) ≤ x6 → w_M_feed_L89 (w_M_feed_L36 Qr n9) Qr x0 x1 x2 x3 x4 x5 x6 x2 h))) ∧ (¬ (4 : Int32) ≤ x6 → w_M_feed_L89 (w_M_feed_L36 Qr n9) Qr x0 x1 x2 x3 x4 x5 x6 x1 h))))

def w_M_feed_L21 (Qr : Int32 → xb_H → Prop) (x0 : Nat) (x1 : Int32) (x2 : Int32) (x3 : Int32) (x4 : Int32) (x5 : Int32) (y0 : Int32) (y1 : Nat) (h : xb_H) : Prop :=
    xb_k h y1 = 9 ∧ ∀ h2 : xb_H, h2 = xb_I h y1 0 y0 → xb_k h2 x0 = 9 ∧ (((xb_i h2 x0 0) ≤ (0 : Int32) → (∃ n8 : Nat, w_M_feed_L36 Qr n8 x0 x1 x2 x3 x4 x5 0 h2)) ∧ (¬ (xb_i h2 x0 0) ≤ (0 : Int32) → Qr 0 h2))

def w_M_feed (x0 : Nat) (x1 : Int32) (x2 : Int32) (x3 : Int32) (x4 : Int32) (x5 : Int32) (h : xb_H) (Qr : Int32 → xb_H → Prop) : Prop :=
    xb_k h x0 = 9 ∧ ∃ b2 : Nat, (xb_r h x0 1) = some b2 ∧ xb_k h b2 = 100 ∧ ((((xb_i h x0 2) + 20) ≤ (nI (xb_n h b2)) → w_M_feed_L21 Qr x0 x1 x2 x3 x4 x5 0 x0 h) ∧ (¬ ((xb_i h x0 2) + 20) ≤ (nI (xb_n h b2)) → w_M_feed_L21 Qr x0 x1 x2 x3 x4 x5 1 x0 h))

set_option maxHeartbeats 4000000 in
set_option maxRecDepth 100000 in
theorem am_M_feed_L89 (l : Launch) (hfl : l.flags = pinnedFlags ++ [noTraceFlag]) (D : va_G) (A : Nat → Prop) (σ MC MS : Nat) (h0 : xb_H) (Qr : Int32 → xb_H → Prop) (K36 : Nat → Int32 → Int32 → Int32 → Int32 → Int32 → Int32 → xb_H → Prop) (hK36 : ∀ (x0 : Nat) (x1 : Int32) (x2 : Int32) (x3 : Int32) (x4 : Int32) (x5 : Int32) (x6 : Int32) (h : xb_H), K36 x0 x1 x2 x3 x4 x5 x6 h → xb_am l D A σ 2 MC MS h0 (fun v h => ∃ r, v = some (.int r) ∧ Qr r h) (fun _ _ => False) y_M_feed.cls y_M_feed.name b_M_feed 8 ([] : List ExceptionTableEntry) (some .int) 36 [(0, .ref x0), (1, .int x1), (2, .int x2), (3, .int x3), (4, .int x4), (5, .int x5), (6, .int x6)] [] h 0 0) (x0 : Nat) (x1 : Int32) (x2 : Int32) (x3 : Int32) (x4 : Int32) (x5 : Int32) (x6 : Int32) (y0 : Int32) (h : xb_H) (hw : w_M_feed_L89 K36 Qr x0 x1 x2 x3 x4 x5 x6 y0 h) : xb_am l D A σ 2 MC MS h0 (fun v h => ∃ r, v = some (.int r) ∧ Qr r h) (fun _ _ => False) y_M_feed.cls y_M_feed.name b_M_feed 8 ([] : List ExceptionTableEntry) (some .int) 89 [(0, .ref x0), (1, .int x1), (2, .int x2), (3, .int x3), (4, .int x4), (5, .int x5), (6, .int x6)] [.int y0] h 0 0 := by
  unfold w_M_feed_L89 at hw
  intro p e s m args below meth c hC H locs ls k n hE hl hR hS hk hn
  obtain ⟨hx, hb, hown, hlocks, htab, hml, hr, hB, hA, hnm⟩ := id hC
  have hts := hB.1.1.at args
  refine lv_istore hx hb (xb_d D_M_feed 44 rfl) hl (by decide) rfl (fun ls hl => ?_)
  have hl : lv_has ls 8 [(7, .int y0), (0, .ref x0), (1, .int x1), (2, .int x2), (3, .int x3), (4, .int x4), (5, .int x5), (6, .int x6)] := hl
  refine lv_aload_n hx hb (xb_d D_M_feed 45 rfl) rfl (lv_at hl 1 rfl) ?_
  obtain ⟨hk1, hw⟩ := hw
  refine xb_getP (C := R_M) (T := F_M) (N := 97) hx hb 8 1 hts fin_M hown hR hk1 (by decide) rfl (by decide) rfl (hts _ m_95b40228) (fun _ h9 => h9) (xb_d D_M_feed 46 rfl) ?_
  obtain ⟨b2, eb2, hw⟩ := hw
  refine xb_some eb2 ?_
  refine lv_aload_n hx hb (xb_d D_M_feed 47 rfl) rfl (lv_at hl 1 rfl) ?_
  refine xb_getI (C := R_M) (T := F_M) (N := 97) hx hb 8 2 hts fin_M hown hR hk1 (by decide) rfl (by decide) rfl (hts _ m_7895fa0a) (fun _ h9 => h9) (xb_d D_M_feed 48 rfl) ?_
  refine lv_iload hx hb (xb_d D_M_feed 49 rfl) (lv_at hl 7 rfl) ?_
  refine lv_iadd hx hb (xb_d D_M_feed 50 rfl) ?_
  refine lv_iload hx hb (xb_d D_M_feed 51 rfl) (lv_at hl 0 rfl) ?_
  refine lv_bipush (v := 24) hx hb (xb_d D_M_feed 52 rfl) (by decide) ?_
  refine lv_bipush (v := 8) hx hb (xb_d D_M_feed 53 rfl) (by decide) ?_
  refine lv_iload hx hb (xb_d D_M_feed 54 rfl) (lv_at hl 7 rfl) ?_
  refine lv_iconst (v := 4) hx hb (xb_d D_M_feed 55 rfl) (by decide) ?_
  refine lv_irem hx hb (xb_d D_M_feed 56 rfl) (by decide) ?_
  refine lv_imul hx hb (xb_d D_M_feed 57 rfl) ?_
  refine lv_isub hx hb (xb_d D_M_feed 58 rfl) ?_
  refine lv_ishr hx hb (xb_d D_M_feed 59 rfl) ?_
  refine lv_i2b hx hb (xb_d D_M_feed 60 rfl) rfl ?_
  obtain ⟨hk3, hw⟩ := hw
  obtain ⟨hi4, hw⟩ := hw
  refine xb_bast hx hb hR hS hk3 hi4 (xb_d D_M_feed 61 rfl) (fun H locs hR hS => ?_)
  obtain ⟨h5, eh5⟩ : ∃ x : xb_H, x = xb_I h b2 (Int32.toNatClampNeg ((xb_i h x0 2) + x6)) (vp_nar .byte ((Int32.toInt8 (y0 >>> ((24 - (8 * (x6 - x6 / 4 * 4))) &&& 31))).toInt32)) := ⟨_, rfl⟩
  rw [← eh5] at hR
  have hw := hw h5 eh5
  have hE : xb_ext h0 h5 := by rw [eh5]; exact hE
  refine lv_iinc (v := (x6 + 1)) (k := 7) hx hb (xb_d D_M_feed 62 rfl) hl rfl (by first | rfl | decide) (by decide) rfl (fun ls hl => ?_)
  have hl : lv_has ls 8 [(6, .int (x6 + 1)), (7, .int y0), (0, .ref x0), (1, .int x1), (2, .int x2), (3, .int x3), (4, .int x4), (5, .int x5)] := hl
  refine lv_goto (tgt := 36) hx hb (xb_d D_M_feed 63 rfl) rfl ?_
  exact hK36 x0 x1 x2 x3 x4 x5 (x6 + 1) h5 hw p e s m args below meth c hC H locs ls k n hE (lv_sub hl [2, 3, 4, 5, 6, 7, 0] rfl) hR hS (by omega) (by omega)

set_option maxHeartbeats 4000000 in
set_option maxRecDepth 100000 in
theorem am_M_feed_L36 (l : Launch) (hfl : l.flags = pinnedFlags ++ [noTraceFlag]) (D : va_G) (A : Nat → Prop) (σ MC MS : Nat) (h0 : xb_H) (Qr : Int32 → xb_H → Prop) (n9 : Nat) : ∀ (x0 : Nat) (x1 : Int32) (x2 : Int32) (x3 : Int32) (x4 : Int32) (x5 : Int32) (x6 : Int32) (h : xb_H), w_M_feed_L36 Qr n9 x0 x1 x2 x3 x4 x5 x6 h → xb_am l D A σ 2 MC MS h0 (fun v h => ∃ r, v = some (.int r) ∧ Qr r h) (fun _ _ => False) y_M_feed.cls y_M_feed.name b_M_feed 8 ([] : List ExceptionTableEntry) (some .int) 36 [(0, .ref x0), (1, .int x1), (2, .int x2), (3, .int x3), (4, .int x4), (5, .int x5), (6, .int x6)] [] h 0 0 := by
  induction n9 with
  | zero => intro x0 x1 x2 x3 x4 x5 x6 h hw; exact False.elim hw
  | succ n9 ih =>
    intro x0 x1 x2 x3 x4 x5 x6 h hw
    unfold w_M_feed_L36 at hw
    intro p e s m args below meth c hC H locs ls k n hE hl hR hS hk hn
    obtain ⟨hx, hb, hown, hlocks, htab, hml, hr, hB, hA, hnm⟩ := id hC
    have hts := hB.1.1.at args
    refine lv_iload hx hb (xb_d D_M_feed 20 rfl) (lv_at hl 6 rfl) ?_
    refine lv_bipush (v := 20) hx hb (xb_d D_M_feed 21 rfl) (by decide) ?_
    refine lv_icmp_ge (tgt := 123) hx hb (xb_d D_M_feed 22 rfl) rfl (fun hc1 => ?_) (fun hc1 => ?_)
    · have hw := hw.1 hc1
      refine lv_aload_n hx hb (xb_d D_M_feed 64 rfl) rfl (lv_at hl 0 rfl) ?_
      refine lv_aload_n hx hb (xb_d D_M_feed 65 rfl) rfl (lv_at hl 0 rfl) ?_
      obtain ⟨hk2, hw⟩ := hw
      refine xb_getI (C := R_M) (T := F_M) (N := 97) hx hb 8 2 hts fin_M hown hR hk2 (by decide) rfl (by decide) rfl (hts _ m_7895fa0a) (fun _ h9 => h9) (xb_d D_M_feed 66 rfl) ?_
      refine lv_bipush (v := 20) hx hb (xb_d D_M_feed 67 rfl) (by decide) ?_
      refine lv_iadd hx hb (xb_d D_M_feed 68 rfl) ?_
      refine xb_putI (C := R_M) (T := F_M) (N := 97) (ty := .int) (x := ((xb_i h x0 2) + 20)) hx hb 8 2 hts fin_M t_M t_M_ok n_M hown hR hS hk2 (by decide) rfl (by decide) rfl (hts _ m_7895fa0a) (fun _ h9 => h9) rfl (by decide +kernel) rfl rfl (xb_d D_M_feed 69 rfl) (fun H locs hR hS => ?_)
      obtain ⟨h3, eh3⟩ : ∃ x : xb_H, x = xb_I h x0 2 ((xb_i h x0 2) + 20) := ⟨_, rfl⟩
      rw [← eh3] at hR
      have hw := hw h3 eh3
      have hE : xb_ext h0 h3 := by rw [eh3]; exact hE
      refine lv_aload_n hx hb (xb_d D_M_feed 70 rfl) rfl (lv_at hl 0 rfl) ?_
      have hk2 : xb_k h3 x0 = 9 := by rw [eh3]; exact hk2
      refine xb_getI (C := R_M) (T := F_M) (N := 97) hx hb 8 2 hts fin_M hown hR hk2 (by decide) rfl (by decide) rfl (hts _ m_7895fa0a) (fun _ h9 => h9) (xb_d D_M_feed 71 rfl) ?_
      exact xb_iret hx hb hr hlocks (show k ≤ MC by omega) (show n ≤ MS by omega) hE hR hS (xb_d D_M_feed 72 rfl) hw
    · have hw := hw.2 hc1
      refine lv_iload hx hb (xb_d D_M_feed 23 rfl) (lv_at hl 6 rfl) ?_
      refine lv_iconst (v := 4) hx hb (xb_d D_M_feed 24 rfl) (by decide) ?_
      refine lv_icmp_ge (tgt := 53) hx hb (xb_d D_M_feed 25 rfl) rfl (fun hc4 => ?_) (fun hc4 => ?_)
      · have hw := hw.1 hc4
        refine lv_iload hx hb (xb_d D_M_feed 28 rfl) (lv_at hl 6 rfl) ?_
        refine lv_bipush (v := 8) hx hb (xb_d D_M_feed 29 rfl) (by decide) ?_
        refine lv_icmp_ge (tgt := 64) hx hb (xb_d D_M_feed 30 rfl) rfl (fun hc5 => ?_) (fun hc5 => ?_)
        · have hw := hw.1 hc5
          refine lv_iload hx hb (xb_d D_M_feed 33 rfl) (lv_at hl 6 rfl) ?_
          refine lv_bipush (v := 12) hx hb (xb_d D_M_feed 34 rfl) (by decide) ?_
          refine lv_icmp_ge (tgt := 75) hx hb (xb_d D_M_feed 35 rfl) rfl (fun hc6 => ?_) (fun hc6 => ?_)
          · have hw := hw.1 hc6
            refine lv_iload hx hb (xb_d D_M_feed 38 rfl) (lv_at hl 6 rfl) ?_
            refine lv_bipush (v := 16) hx hb (xb_d D_M_feed 39 rfl) (by decide) ?_
            refine lv_icmp_ge (tgt := 87) hx hb (xb_d D_M_feed 40 rfl) rfl (fun hc7 => ?_) (fun hc7 => ?_)
            · have hw := hw.1 hc7
              refine lv_iload hx hb (xb_d D_M_feed 43 rfl) (lv_at hl 5 rfl) ?_
              exact am_M_feed_L89 l hfl D A σ MC MS h0 Qr (w_M_feed_L36 Qr n9) ih x0 x1 x2 x3 x4 x5 x6 x5 h hw p e s m args below meth c hC H locs ls k n hE (lv_sub hl [0, 1, 2, 3, 4, 5, 6] rfl) hR hS (by omega) (by omega)
            · have hw := hw.2 hc7
              refine lv_iload hx hb (xb_d D_M_feed 41 rfl) (lv_at hl 4 rfl) ?_
              refine lv_goto (tgt := 89) hx hb (xb_d D_M_feed 42 rfl) rfl ?_
              exact am_M_feed_L89 l hfl D A σ MC MS h0 Qr (w_M_feed_L36 Qr n9) ih x0 x1 x2 x3 x4 x5 x6 x4 h hw p e s m args below meth c hC H locs ls k n hE (lv_sub hl [0, 1, 2, 3, 4, 5, 6] rfl) hR hS (by omega) (by omega)
          · have hw := hw.2 hc6
            refine lv_iload_n hx hb (xb_d D_M_feed 36 rfl) rfl (lv_at hl 3 rfl) ?_
            refine lv_goto (tgt := 89) hx hb (xb_d D_M_feed 37 rfl) rfl ?_
            exact am_M_feed_L89 l hfl D A σ MC MS h0 Qr (w_M_feed_L36 Qr n9) ih x0 x1 x2 x3 x4 x5 x6 x3 h hw p e s m args below meth c hC H locs ls k n hE (lv_sub hl [0, 1, 2, 3, 4, 5, 6] rfl) hR hS (by omega) (by omega)
        · have hw := hw.2 hc5
          refine lv_iload_n hx hb (xb_d D_M_feed 31 rfl) rfl (lv_at hl 2 rfl) ?_
          refine lv_goto (tgt := 89) hx hb (xb_d D_M_feed 32 rfl) rfl ?_
          exact am_M_feed_L89 l hfl D A σ MC MS h0 Qr (w_M_feed_L36 Qr n9) ih x0 x1 x2 x3 x4 x5 x6 x2 h hw p e s m args below meth c hC H locs ls k n hE (lv_sub hl [0, 1, 2, 3, 4, 5, 6] rfl) hR hS (by omega) (by omega)
      · have hw := hw.2 hc4
        refine lv_iload_n hx hb (xb_d D_M_feed 26 rfl) rfl (lv_at hl 1 rfl) ?_
        refine lv_goto (tgt := 89) hx hb (xb_d D_M_feed 27 rfl) rfl ?_
        exact am_M_feed_L89 l hfl D A σ MC MS h0 Qr (w_M_feed_L36 Qr n9) ih x0 x1 x2 x3 x4 x5 x6 x1 h hw p e s m args below meth c hC H locs ls k n hE (lv_sub hl [0, 1, 2, 3, 4, 5, 6] rfl) hR hS (by omega) (by omega)

set_option maxHeartbeats 4000000 in
set_option maxRecDepth 100000 in
theorem am_M_feed_L21 (l : Launch) (hfl : l.flags = pinnedFlags ++ [noTraceFlag]) (D : va_G) (A : Nat → Prop) (σ MC MS : Nat) (h0 : xb_H) (Qr : Int32 → xb_H → Prop) (x0 : Nat) (x1 : Int32) (x2 : Int32) (x3 : Int32) (x4 : Int32) (x5 : Int32) (y0 : Int32) (y1 : Nat) (h : xb_H) (hw : w_M_feed_L21 Qr x0 x1 x2 x3 x4 x5 y0 y1 h) : xb_am l D A σ 2 MC MS h0 (fun v h => ∃ r, v = some (.int r) ∧ Qr r h) (fun _ _ => False) y_M_feed.cls y_M_feed.name b_M_feed 8 ([] : List ExceptionTableEntry) (some .int) 21 [(0, .ref x0), (1, .int x1), (2, .int x2), (3, .int x3), (4, .int x4), (5, .int x5)] [.int y0, .ref y1] h 0 0 := by
  unfold w_M_feed_L21 at hw
  intro p e s m args below meth c hC H locs ls k n hE hl hR hS hk hn
  obtain ⟨hx, hb, hown, hlocks, htab, hml, hr, hB, hA, hnm⟩ := id hC
  have hts := hB.1.1.at args
  obtain ⟨hk1, hw⟩ := hw
  refine xb_putI (C := R_M) (T := F_M) (N := 97) (ty := .int) (x := y0) hx hb 8 0 hts fin_M t_M t_M_ok n_M hown hR hS hk1 (by decide) rfl (by decide) rfl (hts _ m_afabd6a0) (fun _ h9 => h9) rfl (by decide +kernel) rfl rfl (xb_d D_M_feed 12 rfl) (fun H locs hR hS => ?_)
  obtain ⟨h2, eh2⟩ : ∃ x : xb_H, x = xb_I h y1 0 y0 := ⟨_, rfl⟩
  rw [← eh2] at hR
  have hw := hw h2 eh2
  have hE : xb_ext h0 h2 := by rw [eh2]; exact hE
  refine lv_aload_n hx hb (xb_d D_M_feed 13 rfl) rfl (lv_at hl 0 rfl) ?_
  obtain ⟨hk3, hw⟩ := hw
  refine xb_getI (C := R_M) (T := F_M) (N := 97) hx hb 8 0 hts fin_M hown hR hk3 (by decide) rfl (by decide) rfl (hts _ m_afabd6a0) (fun _ h9 => h9) (xb_d D_M_feed 14 rfl) ?_
  refine lv_if_le (tgt := 33) hx hb (xb_d D_M_feed 15 rfl) rfl (fun hc4 => ?_) (fun hc4 => ?_)
  · have hw := hw.1 hc4
    refine lv_iconst (v := 0) hx hb (xb_d D_M_feed 18 rfl) (by decide) ?_
    refine lv_istore hx hb (xb_d D_M_feed 19 rfl) hl (by decide) rfl (fun ls hl => ?_)
    have hl : lv_has ls 8 [(6, .int 0), (0, .ref x0), (1, .int x1), (2, .int x2), (3, .int x3), (4, .int x4), (5, .int x5)] := hl
    obtain ⟨n8, hw⟩ := hw
    exact am_M_feed_L36 l hfl D A σ MC MS h0 Qr n8 x0 x1 x2 x3 x4 x5 0 h2 hw p e s m args below meth c hC H locs ls k n hE (lv_sub hl [1, 2, 3, 4, 5, 6, 0] rfl) hR hS (by omega) (by omega)
  · have hw := hw.2 hc4
    refine lv_iconst (v := 0) hx hb (xb_d D_M_feed 16 rfl) (by decide) ?_
    exact xb_iret hx hb hr hlocks (show k ≤ MC by omega) (show n ≤ MS by omega) hE hR hS (xb_d D_M_feed 17 rfl) hw

set_option maxHeartbeats 4000000 in
set_option maxRecDepth 100000 in
theorem ok_M_feed (l : Launch) (hfl : l.flags = pinnedFlags ++ [noTraceFlag]) (D : va_G) (A : Nat → Prop) (σ : Nat) (x0 : Nat) (x1 : Int32) (x2 : Int32) (x3 : Int32) (x4 : Int32) (x5 : Int32) (h : xb_H) (Qr : Int32 → xb_H → Prop) (hw : w_M_feed x0 x1 x2 x3 x4 x5 h Qr) : xt_Met l y_M_feed [.code y_M_feed b_M_feed 8 (some .int)] (xb_rm 2 0 0) (xb_Pc D A σ h [.ref x0, .int x1, .int x2, .int x3, .int x4, .int x5]) (xb_Qc D A h (fun v h => ∃ r, v = some (.int r) ∧ Qr r h) (fun _ _ => False)) 0 0 A := by
  refine xb_ofAm (cc := b_M_feed) (by decide) (Nat.le_of_ble_eq_true rfl) ?_
  unfold w_M_feed at hw
  show xb_am l D A σ 2 0 0 h (fun v h => ∃ r, v = some (.int r) ∧ Qr r h) (fun _ _ => False) y_M_feed.cls y_M_feed.name b_M_feed 8 ([] : List ExceptionTableEntry) (some .int) 0 [(0, .ref x0), (1, .int x1), (2, .int x2), (3, .int x3), (4, .int x4), (5, .int x5)] [] h 0 0
  obtain ⟨MC, hMC⟩ : ∃ x, x = 0 := ⟨_, rfl⟩
  obtain ⟨MS, hMS⟩ : ∃ x, x = 0 := ⟨_, rfl⟩
  rw [show xb_am l D A σ 2 0 0 = xb_am l D A σ 2 MC MS by rw [hMC, hMS]]
  obtain ⟨h0, hh0⟩ : ∃ x, x = h := ⟨_, rfl⟩
  rw [show xb_am l D A σ 2 MC MS h = xb_am l D A σ 2 MC MS h0 by rw [hh0]]
  intro p e s m args below meth c hC H locs ls k n hE hl hR hS hk hn
  obtain ⟨hx, hb, hown, hlocks, htab, hml, hr, hB, hA, hnm⟩ := id hC
  have hts := hB.1.1.at args
  refine lv_aload_n hx hb (xb_d D_M_feed 0 rfl) rfl (lv_at hl 0 rfl) ?_
  refine lv_aload_n hx hb (xb_d D_M_feed 1 rfl) rfl (lv_at hl 0 rfl) ?_
  obtain ⟨hk1, hw⟩ := hw
  refine xb_getI (C := R_M) (T := F_M) (N := 97) hx hb 8 2 hts fin_M hown hR hk1 (by decide) rfl (by decide) rfl (hts _ m_7895fa0a) (fun _ h9 => h9) (xb_d D_M_feed 2 rfl) ?_
  refine lv_bipush (v := 20) hx hb (xb_d D_M_feed 3 rfl) (by decide) ?_
  refine lv_iadd hx hb (xb_d D_M_feed 4 rfl) ?_
  refine lv_aload_n hx hb (xb_d D_M_feed 5 rfl) rfl (lv_at hl 0 rfl) ?_
  refine xb_getP (C := R_M) (T := F_M) (N := 97) hx hb 8 1 hts fin_M hown hR hk1 (by decide) rfl (by decide) rfl (hts _ m_95b40228) (fun _ h9 => h9) (xb_d D_M_feed 6 rfl) ?_
  obtain ⟨b2, eb2, hw⟩ := hw
  refine xb_some eb2 ?_
  obtain ⟨hk3, hw⟩ := hw
  refine xb_alen hx hb hR hk3 (by decide) (xb_d D_M_feed 7 rfl) ?_
  refine lv_icmp_le (tgt := 20) hx hb (xb_d D_M_feed 8 rfl) rfl (fun hc4 => ?_) (fun hc4 => ?_)
  · have hw := hw.1 hc4
    refine lv_iconst (v := 0) hx hb (xb_d D_M_feed 11 rfl) (by decide) ?_
    exact am_M_feed_L21 l hfl D A σ MC MS h0 Qr x0 x1 x2 x3 x4 x5 0 x0 h hw p e s m args below meth c hC H locs ls k n hE (lv_sub hl [0, 1, 2, 3, 4, 5] rfl) hR hS (by omega) (by omega)
  · have hw := hw.2 hc4
    refine lv_iconst (v := 1) hx hb (xb_d D_M_feed 9 rfl) (by decide) ?_
    refine lv_goto (tgt := 21) hx hb (xb_d D_M_feed 10 rfl) rfl ?_
    exact am_M_feed_L21 l hfl D A σ MC MS h0 Qr x0 x1 x2 x3 x4 x5 1 x0 h hw p e s m args below meth c hC H locs ls k n hE (lv_sub hl [0, 1, 2, 3, 4, 5] rfl) hR hS (by omega) (by omega)

theorem m_2efec494 : (.fieldLink "StackHostModel" 17 "StackHostModel" "from" "[I" : Cond) ∈ xt_tbl := xt_in (xt_t9 (List.mem_of_getElem? (i := 145) (by decide +kernel))) (by decide +kernel)
theorem m_6c2d27ad : (.fieldLink "StackHostModel" 202 "StackHostModel" "at" "I" : Cond) ∈ xt_tbl := xt_in (xt_t9 (List.mem_of_getElem? (i := 154) (by decide +kernel))) (by decide +kernel)
theorem m_36d14bfe : (.fieldLink "StackHostModel" 21 "StackHostModel" "size" "[I" : Cond) ∈ xt_tbl := xt_in (xt_t9 (List.mem_of_getElem? (i := 146) (by decide +kernel))) (by decide +kernel)
theorem m_48124c81 : (.fieldLink "StackHostModel" 205 "StackHostModel" "end" "I" : Cond) ∈ xt_tbl := xt_in (xt_t9 (List.mem_of_getElem? (i := 155) (by decide +kernel))) (by decide +kernel)
set_option maxRecDepth 100000 in
def T_M_go : List (Nat × Instr × Nat) := [(0, .aload_n 0, 1), (1, .aload_n 0, 1), (2, .getfield 17, 3), (5, .iload_n 1, 1), (6, .iaload, 1), (7, .putfield 196, 3), (10, .aload_n 0, 1), (11, .iload_n 2, 1), (12, .putfield 202, 3), (15, .aload_n 0, 1), (16, .aload_n 0, 1), (17, .getfield 196, 3), (20, .aload_n 0, 1), (21, .getfield 21, 3), (24, .iload_n 1, 1), (25, .iaload, 1), (26, .iadd, 1), (27, .putfield 205, 3), (30, .return_, 1)]
theorem D_M_go : ∀ q ∈ T_M_go, decode b_M_go q.1 = .ok (q.2.1, q.2.2) := by decide +kernel
def w_M_go (x0 : Nat) (x1 : Int32) (x2 : Int32) (h : xb_H) (Qr : xb_H → Prop) : Prop :=
    xb_k h x0 = 9 ∧ ∃ b2 : Nat, (xb_r h x0 6) = some b2 ∧ xb_k h b2 = 102 ∧ vp_in x1 (xb_n h b2) ∧ ∀ h5 : xb_H, h5 = xb_I h x0 14 (xb_i h b2 (Int32.toNatClampNeg x1)) → ∀ h6 : xb_H, h6 = xb_I h5 x0 15 x2 → ∃ b7 : Nat, (xb_r h6 x0 7) = some b7 ∧ xb_k h6 b7 = 102 ∧ vp_in x1 (xb_n h6 b7) ∧ ∀ h10 : xb_H, h10 = xb_I h6 x0 16 ((xb_i h6 x0 14) + (xb_i h6 b7 (Int32.toNatClampNeg x1))) → Qr h10

set_option maxHeartbeats 4000000 in
set_option maxRecDepth 100000 in
theorem ok_M_go (l : Launch) (hfl : l.flags = pinnedFlags ++ [noTraceFlag]) (D : va_G) (A : Nat → Prop) (σ : Nat) (x0 : Nat) (x1 : Int32) (x2 : Int32) (h : xb_H) (Qr : xb_H → Prop) (hw : w_M_go x0 x1 x2 h Qr) : xt_Met l y_M_go [.code y_M_go b_M_go 3 none] (xb_rm 2 0 0) (xb_Pc D A σ h [.ref x0, .int x1, .int x2]) (xb_Qc D A h (fun v h => v = none ∧ Qr h) (fun _ _ => False)) 0 0 A := by
  refine xb_ofAm (cc := b_M_go) (by decide) (Nat.le_of_ble_eq_true rfl) ?_
  unfold w_M_go at hw
  show xb_am l D A σ 2 0 0 h (fun v h => v = none ∧ Qr h) (fun _ _ => False) y_M_go.cls y_M_go.name b_M_go 3 ([] : List ExceptionTableEntry) none 0 [(0, .ref x0), (1, .int x1), (2, .int x2)] [] h 0 0
  obtain ⟨MC, hMC⟩ : ∃ x, x = 0 := ⟨_, rfl⟩
  obtain ⟨MS, hMS⟩ : ∃ x, x = 0 := ⟨_, rfl⟩
  rw [show xb_am l D A σ 2 0 0 = xb_am l D A σ 2 MC MS by rw [hMC, hMS]]
  obtain ⟨h0, hh0⟩ : ∃ x, x = h := ⟨_, rfl⟩
  rw [show xb_am l D A σ 2 MC MS h = xb_am l D A σ 2 MC MS h0 by rw [hh0]]
  intro p e s m args below meth c hC H locs ls k n hE hl hR hS hk hn
  obtain ⟨hx, hb, hown, hlocks, htab, hml, hr, hB, hA, hnm⟩ := id hC
  have hts := hB.1.1.at args
  refine lv_aload_n hx hb (xb_d D_M_go 0 rfl) rfl (lv_at hl 0 rfl) ?_
  refine lv_aload_n hx hb (xb_d D_M_go 1 rfl) rfl (lv_at hl 0 rfl) ?_
  obtain ⟨hk1, hw⟩ := hw
  refine xb_getP (C := R_M) (T := F_M) (N := 97) hx hb 8 6 hts fin_M hown hR hk1 (by decide) rfl (by decide) rfl (hts _ m_2efec494) (fun _ h9 => h9) (xb_d D_M_go 2 rfl) ?_
  obtain ⟨b2, eb2, hw⟩ := hw
  refine xb_some eb2 ?_
  refine lv_iload_n hx hb (xb_d D_M_go 3 rfl) rfl (lv_at hl 1 rfl) ?_
  obtain ⟨hk4, hw⟩ := hw
  obtain ⟨hi3, hw⟩ := hw
  refine xb_iald hx hb hR hk4 hi3 (xb_d D_M_go 4 rfl) ?_
  refine xb_putI (C := R_M) (T := F_M) (N := 97) (ty := .int) (x := (xb_i h b2 (Int32.toNatClampNeg x1))) hx hb 8 14 hts fin_M t_M t_M_ok n_M hown hR hS hk1 (by decide) rfl (by decide) rfl (hts _ m_a8fce005) (fun _ h9 => h9) rfl (by decide +kernel) rfl rfl (xb_d D_M_go 5 rfl) (fun H locs hR hS => ?_)
  obtain ⟨h5, eh5⟩ : ∃ x : xb_H, x = xb_I h x0 14 (xb_i h b2 (Int32.toNatClampNeg x1)) := ⟨_, rfl⟩
  rw [← eh5] at hR
  have hw := hw h5 eh5
  have hE : xb_ext h0 h5 := by rw [eh5]; exact hE
  refine lv_aload_n hx hb (xb_d D_M_go 6 rfl) rfl (lv_at hl 0 rfl) ?_
  refine lv_iload_n hx hb (xb_d D_M_go 7 rfl) rfl (lv_at hl 2 rfl) ?_
  have hk1 : xb_k h5 x0 = 9 := by rw [eh5]; exact hk1
  refine xb_putI (C := R_M) (T := F_M) (N := 97) (ty := .int) (x := x2) hx hb 8 15 hts fin_M t_M t_M_ok n_M hown hR hS hk1 (by decide) rfl (by decide) rfl (hts _ m_6c2d27ad) (fun _ h9 => h9) rfl (by decide +kernel) rfl rfl (xb_d D_M_go 8 rfl) (fun H locs hR hS => ?_)
  obtain ⟨h6, eh6⟩ : ∃ x : xb_H, x = xb_I h5 x0 15 x2 := ⟨_, rfl⟩
  rw [← eh6] at hR
  have hw := hw h6 eh6
  have hE : xb_ext h0 h6 := by rw [eh6]; exact hE
  refine lv_aload_n hx hb (xb_d D_M_go 9 rfl) rfl (lv_at hl 0 rfl) ?_
  refine lv_aload_n hx hb (xb_d D_M_go 10 rfl) rfl (lv_at hl 0 rfl) ?_
  have hk1 : xb_k h6 x0 = 9 := by rw [eh6]; exact hk1
  refine xb_getI (C := R_M) (T := F_M) (N := 97) hx hb 8 14 hts fin_M hown hR hk1 (by decide) rfl (by decide) rfl (hts _ m_a8fce005) (fun _ h9 => h9) (xb_d D_M_go 11 rfl) ?_
  refine lv_aload_n hx hb (xb_d D_M_go 12 rfl) rfl (lv_at hl 0 rfl) ?_
  refine xb_getP (C := R_M) (T := F_M) (N := 97) hx hb 8 7 hts fin_M hown hR hk1 (by decide) rfl (by decide) rfl (hts _ m_36d14bfe) (fun _ h9 => h9) (xb_d D_M_go 13 rfl) ?_
  obtain ⟨b7, eb7, hw⟩ := hw
  refine xb_some eb7 ?_
  refine lv_iload_n hx hb (xb_d D_M_go 14 rfl) rfl (lv_at hl 1 rfl) ?_
  obtain ⟨hk9, hw⟩ := hw
  obtain ⟨hi8, hw⟩ := hw
  refine xb_iald hx hb hR hk9 hi8 (xb_d D_M_go 15 rfl) ?_
  refine lv_iadd hx hb (xb_d D_M_go 16 rfl) ?_
  refine xb_putI (C := R_M) (T := F_M) (N := 97) (ty := .int) (x := ((xb_i h6 x0 14) + (xb_i h6 b7 (Int32.toNatClampNeg x1)))) hx hb 8 16 hts fin_M t_M t_M_ok n_M hown hR hS hk1 (by decide) rfl (by decide) rfl (hts _ m_48124c81) (fun _ h9 => h9) rfl (by decide +kernel) rfl rfl (xb_d D_M_go 17 rfl) (fun H locs hR hS => ?_)
  obtain ⟨h10, eh10⟩ : ∃ x : xb_H, x = xb_I h6 x0 16 ((xb_i h6 x0 14) + (xb_i h6 b7 (Int32.toNatClampNeg x1))) := ⟨_, rfl⟩
  rw [← eh10] at hR
  have hw := hw h10 eh10
  have hE : xb_ext h0 h10 := by rw [eh10]; exact hE
  exact xb_vret hx hb hr hlocks (show k ≤ MC by omega) (show n ≤ MS by omega) hE hR hS (xb_d D_M_go 18 rfl) hw

