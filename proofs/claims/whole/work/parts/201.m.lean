set_option maxRecDepth 100000 in
def T_Format_isNegative : List (Nat × Instr × Nat) := [(0, .lload_n 1, 1), (1, .aload_n 0, 1), (2, .getfield 18, 3), (5, .land, 1), (6, .lconst 0, 1), (7, .lcmp, 1), (8, .ifCond .eq 7, 3), (11, .iconst 1, 1), (12, .goto 4, 3), (15, .iconst 0, 1), (16, .ireturn, 1)]
theorem D_Format_isNegative : ∀ q ∈ T_Format_isNegative, decode b_Format_isNegative q.1 = .ok (q.2.1, q.2.2) := by decide +kernel
def w_Format_isNegative_L16 (Qr : Int32 → xb_H → Prop) (y0 : Int32) (h : xb_H) : Prop :=
    (y0 = 0 ∨ y0 = 1) ∧ Qr y0 h

def w_Format_isNegative (x0 : Nat) (x1 : Int64) (h : xb_H) (Qr : Int32 → xb_H → Prop) : Prop :=
    xb_k h x0 = 6 ∧ (((x1 &&& (xb_l h x0 2)) = (0 : Int64) → w_Format_isNegative_L16 Qr 0 h) ∧ (¬ (x1 &&& (xb_l h x0 2)) = (0 : Int64) → w_Format_isNegative_L16 Qr 1 h))

set_option maxHeartbeats 4000000 in
set_option maxRecDepth 100000 in
theorem am_Format_isNegative_L16 (l : Launch) (hfl : l.flags = pinnedFlags ++ [noTraceFlag]) (D : va_G) (A : Nat → Prop) (σ MC MS : Nat) (h0 : xb_H) (Qr : Int32 → xb_H → Prop) (y0 : Int32) (h : xb_H) (hw : w_Format_isNegative_L16 Qr y0 h) : xb_am l D A σ 2 MC MS h0 (fun v h => ∃ r, v = some (.int r) ∧ Qr r h) (fun _ _ => False) y_Format_isNegative.cls y_Format_isNegative.name b_Format_isNegative 3 ([] : List ExceptionTableEntry) (some .boolean) 16 [] [.int y0] h 0 0 := by
  unfold w_Format_isNegative_L16 at hw
  intro p e s m args below meth c hC H locs ls k n hE hl hR hS hk hn
  obtain ⟨hx, hb, hown, hlocks, htab, hml, hr, hB, hA, hnm⟩ := id hC
  have hts := hB.1.1.at args
  exact xb_zret hx hb hr hlocks (show k ≤ MC by omega) (show n ≤ MS by omega) hw.1 hE hR hS (xb_d D_Format_isNegative 10 rfl) hw.2

set_option maxHeartbeats 4000000 in
set_option maxRecDepth 100000 in
theorem ok_Format_isNegative (l : Launch) (hfl : l.flags = pinnedFlags ++ [noTraceFlag]) (D : va_G) (A : Nat → Prop) (σ : Nat) (x0 : Nat) (x1 : Int64) (h : xb_H) (Qr : Int32 → xb_H → Prop) (hw : w_Format_isNegative x0 x1 h Qr) : xt_Met l y_Format_isNegative [.code y_Format_isNegative b_Format_isNegative 3 (some .boolean)] (xb_rm 2 0 0) (xb_Pc D A σ h [.ref x0, .long x1]) (xb_Qc D A h (fun v h => ∃ r, v = some (.int r) ∧ Qr r h) (fun _ _ => False)) 0 0 A := by
  refine xb_ofAm (cc := b_Format_isNegative) (by decide) (Nat.le_of_ble_eq_true rfl) ?_
  unfold w_Format_isNegative at hw
  show xb_am l D A σ 2 0 0 h (fun v h => ∃ r, v = some (.int r) ∧ Qr r h) (fun _ _ => False) y_Format_isNegative.cls y_Format_isNegative.name b_Format_isNegative 3 ([] : List ExceptionTableEntry) (some .boolean) 0 [(0, .ref x0), (1, .long x1)] [] h 0 0
  obtain ⟨MC, hMC⟩ : ∃ x, x = 0 := ⟨_, rfl⟩
  obtain ⟨MS, hMS⟩ : ∃ x, x = 0 := ⟨_, rfl⟩
  rw [show xb_am l D A σ 2 0 0 = xb_am l D A σ 2 MC MS by rw [hMC, hMS]]
  obtain ⟨h0, hh0⟩ : ∃ x, x = h := ⟨_, rfl⟩
  rw [show xb_am l D A σ 2 MC MS h = xb_am l D A σ 2 MC MS h0 by rw [hh0]]
  intro p e s m args below meth c hC H locs ls k n hE hl hR hS hk hn
  obtain ⟨hx, hb, hown, hlocks, htab, hml, hr, hB, hA, hnm⟩ := id hC
  have hts := hB.1.1.at args
  refine lv_lload_n hx hb (xb_d D_Format_isNegative 0 rfl) rfl (lv_at hl 1 rfl) ?_
  refine lv_aload_n hx hb (xb_d D_Format_isNegative 1 rfl) rfl (lv_at hl 0 rfl) ?_
  obtain ⟨hk1, hw⟩ := hw
  refine xb_getL (C := R_Format) (T := F_Format) (N := 5) hx hb 5 2 hts fin_Format hown hR hk1 (by decide) rfl (by decide) rfl (hts _ m_e3160854) (fun _ h9 => h9) (xb_d D_Format_isNegative 2 rfl) ?_
  refine lv_land hx hb (xb_d D_Format_isNegative 3 rfl) ?_
  refine lv_lconst (v := 0) hx hb (xb_d D_Format_isNegative 4 rfl) (by decide) ?_
  refine xb_lc_eq (tgt := 15) hx hb (xb_d D_Format_isNegative 5 rfl) (xb_d D_Format_isNegative 6 rfl) rfl (fun hc2 => ?_) (fun hc2 => ?_)
  · have hw := hw.1 hc2
    refine lv_iconst (v := 0) hx hb (xb_d D_Format_isNegative 9 rfl) (by decide) ?_
    exact am_Format_isNegative_L16 l hfl D A σ MC MS h0 Qr 0 h hw p e s m args below meth c hC H locs ls k n hE (lv_sub hl [] rfl) hR hS (by omega) (by omega)
  · have hw := hw.2 hc2
    refine lv_iconst (v := 1) hx hb (xb_d D_Format_isNegative 7 rfl) (by decide) ?_
    refine lv_goto (tgt := 16) hx hb (xb_d D_Format_isNegative 8 rfl) rfl ?_
    exact am_Format_isNegative_L16 l hfl D A σ MC MS h0 Qr 1 h hw p e s m args below meth c hC H locs ls k n hE (lv_sub hl [] rfl) hR hS (by omega) (by omega)

set_option maxRecDepth 100000 in
def T_Format_isZero : List (Nat × Instr × Nat) := [(0, .lload_n 1, 1), (1, .aload_n 0, 1), (2, .getfield 18, 3), (5, .lconst 1, 1), (6, .lsub, 1), (7, .land, 1), (8, .lconst 0, 1), (9, .lcmp, 1), (10, .ifCond .ne 7, 3), (13, .iconst 1, 1), (14, .goto 4, 3), (17, .iconst 0, 1), (18, .ireturn, 1)]
theorem D_Format_isZero : ∀ q ∈ T_Format_isZero, decode b_Format_isZero q.1 = .ok (q.2.1, q.2.2) := by decide +kernel
def w_Format_isZero_L18 (Qr : Int32 → xb_H → Prop) (y0 : Int32) (h : xb_H) : Prop :=
    (y0 = 0 ∨ y0 = 1) ∧ Qr y0 h

def w_Format_isZero (x0 : Nat) (x1 : Int64) (h : xb_H) (Qr : Int32 → xb_H → Prop) : Prop :=
    xb_k h x0 = 6 ∧ ((¬ (x1 &&& ((xb_l h x0 2) - 1)) = (0 : Int64) → w_Format_isZero_L18 Qr 0 h) ∧ ((x1 &&& ((xb_l h x0 2) - 1)) = (0 : Int64) → w_Format_isZero_L18 Qr 1 h))

set_option maxHeartbeats 4000000 in
set_option maxRecDepth 100000 in
theorem am_Format_isZero_L18 (l : Launch) (hfl : l.flags = pinnedFlags ++ [noTraceFlag]) (D : va_G) (A : Nat → Prop) (σ MC MS : Nat) (h0 : xb_H) (Qr : Int32 → xb_H → Prop) (y0 : Int32) (h : xb_H) (hw : w_Format_isZero_L18 Qr y0 h) : xb_am l D A σ 2 MC MS h0 (fun v h => ∃ r, v = some (.int r) ∧ Qr r h) (fun _ _ => False) y_Format_isZero.cls y_Format_isZero.name b_Format_isZero 3 ([] : List ExceptionTableEntry) (some .boolean) 18 [] [.int y0] h 0 0 := by
  unfold w_Format_isZero_L18 at hw
  intro p e s m args below meth c hC H locs ls k n hE hl hR hS hk hn
  obtain ⟨hx, hb, hown, hlocks, htab, hml, hr, hB, hA, hnm⟩ := id hC
  have hts := hB.1.1.at args
  exact xb_zret hx hb hr hlocks (show k ≤ MC by omega) (show n ≤ MS by omega) hw.1 hE hR hS (xb_d D_Format_isZero 12 rfl) hw.2

set_option maxHeartbeats 4000000 in
set_option maxRecDepth 100000 in
theorem ok_Format_isZero (l : Launch) (hfl : l.flags = pinnedFlags ++ [noTraceFlag]) (D : va_G) (A : Nat → Prop) (σ : Nat) (x0 : Nat) (x1 : Int64) (h : xb_H) (Qr : Int32 → xb_H → Prop) (hw : w_Format_isZero x0 x1 h Qr) : xt_Met l y_Format_isZero [.code y_Format_isZero b_Format_isZero 3 (some .boolean)] (xb_rm 2 0 0) (xb_Pc D A σ h [.ref x0, .long x1]) (xb_Qc D A h (fun v h => ∃ r, v = some (.int r) ∧ Qr r h) (fun _ _ => False)) 0 0 A := by
  refine xb_ofAm (cc := b_Format_isZero) (by decide) (Nat.le_of_ble_eq_true rfl) ?_
  unfold w_Format_isZero at hw
  show xb_am l D A σ 2 0 0 h (fun v h => ∃ r, v = some (.int r) ∧ Qr r h) (fun _ _ => False) y_Format_isZero.cls y_Format_isZero.name b_Format_isZero 3 ([] : List ExceptionTableEntry) (some .boolean) 0 [(0, .ref x0), (1, .long x1)] [] h 0 0
  obtain ⟨MC, hMC⟩ : ∃ x, x = 0 := ⟨_, rfl⟩
  obtain ⟨MS, hMS⟩ : ∃ x, x = 0 := ⟨_, rfl⟩
  rw [show xb_am l D A σ 2 0 0 = xb_am l D A σ 2 MC MS by rw [hMC, hMS]]
  obtain ⟨h0, hh0⟩ : ∃ x, x = h := ⟨_, rfl⟩
  rw [show xb_am l D A σ 2 MC MS h = xb_am l D A σ 2 MC MS h0 by rw [hh0]]
  intro p e s m args below meth c hC H locs ls k n hE hl hR hS hk hn
  obtain ⟨hx, hb, hown, hlocks, htab, hml, hr, hB, hA, hnm⟩ := id hC
  have hts := hB.1.1.at args
  refine lv_lload_n hx hb (xb_d D_Format_isZero 0 rfl) rfl (lv_at hl 1 rfl) ?_
  refine lv_aload_n hx hb (xb_d D_Format_isZero 1 rfl) rfl (lv_at hl 0 rfl) ?_
  obtain ⟨hk1, hw⟩ := hw
  refine xb_getL (C := R_Format) (T := F_Format) (N := 5) hx hb 5 2 hts fin_Format hown hR hk1 (by decide) rfl (by decide) rfl (hts _ m_e3160854) (fun _ h9 => h9) (xb_d D_Format_isZero 2 rfl) ?_
  refine lv_lconst (v := 1) hx hb (xb_d D_Format_isZero 3 rfl) (by decide) ?_
  refine lv_lsub hx hb (xb_d D_Format_isZero 4 rfl) ?_
  refine lv_land hx hb (xb_d D_Format_isZero 5 rfl) ?_
  refine lv_lconst (v := 0) hx hb (xb_d D_Format_isZero 6 rfl) (by decide) ?_
  refine xb_lc_ne (tgt := 17) hx hb (xb_d D_Format_isZero 7 rfl) (xb_d D_Format_isZero 8 rfl) rfl (fun hc2 => ?_) (fun hc2 => ?_)
  · have hw := hw.1 hc2
    refine lv_iconst (v := 0) hx hb (xb_d D_Format_isZero 11 rfl) (by decide) ?_
    exact am_Format_isZero_L18 l hfl D A σ MC MS h0 Qr 0 h hw p e s m args below meth c hC H locs ls k n hE (lv_sub hl [] rfl) hR hS (by omega) (by omega)
  · have hw := hw.2 hc2
    refine lv_iconst (v := 1) hx hb (xb_d D_Format_isZero 9 rfl) (by decide) ?_
    refine lv_goto (tgt := 18) hx hb (xb_d D_Format_isZero 10 rfl) rfl ?_
    exact am_Format_isZero_L18 l hfl D A σ MC MS h0 Qr 1 h hw p e s m args below meth c hC H locs ls k n hE (lv_sub hl [] rfl) hR hS (by omega) (by omega)

set_option maxRecDepth 100000 in
def T_Format_lowered : List (Nat × Instr × Nat) := [(0, .iload_n 2, 1), (1, .bipush 62, 2), (3, .if_icmp .le 5, 3), (6, .lconst 1, 1), (7, .lreturn, 1), (8, .lload_n 0, 1), (9, .lconst 1, 1), (10, .iload_n 2, 1), (11, .lshl, 1), (12, .lconst 1, 1), (13, .lsub, 1), (14, .land, 1), (15, .lstore_n 3, 1), (16, .lload_n 0, 1), (17, .iload_n 2, 1), (18, .lushr, 1), (19, .lload_n 3, 1), (20, .lconst 0, 1), (21, .lcmp, 1), (22, .ifCond .eq 7, 3), (25, .iconst 1, 1), (26, .goto 4, 3), (29, .iconst 0, 1), (30, .i2l, 1), (31, .lor, 1), (32, .lreturn, 1)]
theorem D_Format_lowered : ∀ q ∈ T_Format_lowered, decode b_Format_lowered q.1 = .ok (q.2.1, q.2.2) := by decide +kernel
def w_Format_lowered_L30 (Qr : Int64 → xb_H → Prop) (y0 : Int32) (y1 : Int64) (h : xb_H) : Prop :=
    Qr (y1 ||| (Int32.toInt64 y0)) h

def w_Format_lowered (x0 : Int64) (x2 : Int32) (h : xb_H) (Qr : Int64 → xb_H → Prop) : Prop :=
    ((x2 ≤ (62 : Int32) → ∀ v2 : Int64, v2 = (x0 &&& ((xb_lshl 1 x2) - 1)) → ((v2 = (0 : Int64) → w_Format_lowered_L30 Qr 0 (xb_lushr x0 x2) h) ∧ (¬ v2 = (0 : Int64) → w_Format_lowered_L30 Qr 1 (xb_lushr x0 x2) h))) ∧ (¬ x2 ≤ (62 : Int32) → Qr 1 h))

set_option maxHeartbeats 4000000 in
set_option maxRecDepth 100000 in
theorem am_Format_lowered_L30 (l : Launch) (hfl : l.flags = pinnedFlags ++ [noTraceFlag]) (D : va_G) (A : Nat → Prop) (σ MC MS : Nat) (h0 : xb_H) (Qr : Int64 → xb_H → Prop) (y0 : Int32) (y1 : Int64) (h : xb_H) (hw : w_Format_lowered_L30 Qr y0 y1 h) : xb_am l D A σ 2 MC MS h0 (fun v h => ∃ r, v = some (.long r) ∧ Qr r h) (fun _ _ => False) y_Format_lowered.cls y_Format_lowered.name b_Format_lowered 5 ([] : List ExceptionTableEntry) (some .long) 30 [] [.int y0, .long y1] h 0 0 := by
  unfold w_Format_lowered_L30 at hw
  intro p e s m args below meth c hC H locs ls k n hE hl hR hS hk hn
  obtain ⟨hx, hb, hown, hlocks, htab, hml, hr, hB, hA, hnm⟩ := id hC
  have hts := hB.1.1.at args
  refine lv_i2l hx hb (xb_d D_Format_lowered 23 rfl) rfl ?_
  refine lv_lor hx hb (xb_d D_Format_lowered 24 rfl) ?_
  exact xb_lret hx hb hr hlocks (show k ≤ MC by omega) (show n ≤ MS by omega) hE hR hS (xb_d D_Format_lowered 25 rfl) hw

set_option maxHeartbeats 4000000 in
set_option maxRecDepth 100000 in
theorem ok_Format_lowered (l : Launch) (hfl : l.flags = pinnedFlags ++ [noTraceFlag]) (D : va_G) (A : Nat → Prop) (σ : Nat) (x0 : Int64) (x2 : Int32) (h : xb_H) (Qr : Int64 → xb_H → Prop) (hw : w_Format_lowered x0 x2 h Qr) : xt_Met l y_Format_lowered [.code y_Format_lowered b_Format_lowered 5 (some .long)] (xb_rm 2 0 0) (xb_Pc D A σ h [.long x0, .int x2]) (xb_Qc D A h (fun v h => ∃ r, v = some (.long r) ∧ Qr r h) (fun _ _ => False)) 0 0 A := by
  refine xb_ofAm (cc := b_Format_lowered) (by decide) (Nat.le_of_ble_eq_true rfl) ?_
  unfold w_Format_lowered at hw
  show xb_am l D A σ 2 0 0 h (fun v h => ∃ r, v = some (.long r) ∧ Qr r h) (fun _ _ => False) y_Format_lowered.cls y_Format_lowered.name b_Format_lowered 5 ([] : List ExceptionTableEntry) (some .long) 0 [(0, .long x0), (2, .int x2)] [] h 0 0
  obtain ⟨MC, hMC⟩ : ∃ x, x = 0 := ⟨_, rfl⟩
  obtain ⟨MS, hMS⟩ : ∃ x, x = 0 := ⟨_, rfl⟩
  rw [show xb_am l D A σ 2 0 0 = xb_am l D A σ 2 MC MS by rw [hMC, hMS]]
  obtain ⟨h0, hh0⟩ : ∃ x, x = h := ⟨_, rfl⟩
  rw [show xb_am l D A σ 2 MC MS h = xb_am l D A σ 2 MC MS h0 by rw [hh0]]
  intro p e s m args below meth c hC H locs ls k n hE hl hR hS hk hn
  obtain ⟨hx, hb, hown, hlocks, htab, hml, hr, hB, hA, hnm⟩ := id hC
  have hts := hB.1.1.at args
  refine lv_iload_n hx hb (xb_d D_Format_lowered 0 rfl) rfl (lv_at hl 1 rfl) ?_
  refine lv_bipush (v := 62) hx hb (xb_d D_Format_lowered 1 rfl) (by decide) ?_
  refine lv_icmp_le (tgt := 8) hx hb (xb_d D_Format_lowered 2 rfl) rfl (fun hc1 => ?_) (fun hc1 => ?_)
  · have hw := hw.1 hc1
    refine lv_lload_n hx hb (xb_d D_Format_lowered 5 rfl) rfl (lv_at hl 0 rfl) ?_
    refine lv_lconst (v := 1) hx hb (xb_d D_Format_lowered 6 rfl) (by decide) ?_
    refine lv_iload_n hx hb (xb_d D_Format_lowered 7 rfl) rfl (lv_at hl 1 rfl) ?_
    refine lv_lshl (v := (xb_lshl 1 x2)) hx hb (xb_d D_Format_lowered 8 rfl) rfl ?_
    refine lv_lconst (v := 1) hx hb (xb_d D_Format_lowered 9 rfl) (by decide) ?_
    refine lv_lsub hx hb (xb_d D_Format_lowered 10 rfl) ?_
    refine lv_land hx hb (xb_d D_Format_lowered 11 rfl) ?_
    obtain ⟨v2, ev2⟩ : ∃ x : Int64, x = (x0 &&& ((xb_lshl 1 x2) - 1)) := ⟨_, rfl⟩
    have hw := hw v2 ev2
    refine xt_numl (y := v2) ev2.symm ?_
    refine lv_lstore_n hx hb (xb_d D_Format_lowered 12 rfl) rfl hl (by decide) rfl (fun ls hl => ?_)
    have hl : lv_has ls 5 [(3, .long v2), (0, .long x0), (2, .int x2)] := hl
    refine lv_lload_n hx hb (xb_d D_Format_lowered 13 rfl) rfl (lv_at hl 1 rfl) ?_
    refine lv_iload_n hx hb (xb_d D_Format_lowered 14 rfl) rfl (lv_at hl 2 rfl) ?_
    refine lv_lushr (v := (xb_lushr x0 x2)) hx hb (xb_d D_Format_lowered 15 rfl) rfl ?_
    refine lv_lload_n hx hb (xb_d D_Format_lowered 16 rfl) rfl (lv_at hl 0 rfl) ?_
    refine lv_lconst (v := 0) hx hb (xb_d D_Format_lowered 17 rfl) (by decide) ?_
    refine xb_lc_eq (tgt := 29) hx hb (xb_d D_Format_lowered 18 rfl) (xb_d D_Format_lowered 19 rfl) rfl (fun hc3 => ?_) (fun hc3 => ?_)
    · have hw := hw.1 hc3
      refine lv_iconst (v := 0) hx hb (xb_d D_Format_lowered 22 rfl) (by decide) ?_
      exact am_Format_lowered_L30 l hfl D A σ MC MS h0 Qr 0 (xb_lushr x0 x2) h hw p e s m args below meth c hC H locs ls k n hE (lv_sub hl [] rfl) hR hS (by omega) (by omega)
    · have hw := hw.2 hc3
      refine lv_iconst (v := 1) hx hb (xb_d D_Format_lowered 20 rfl) (by decide) ?_
      refine lv_goto (tgt := 30) hx hb (xb_d D_Format_lowered 21 rfl) rfl ?_
      exact am_Format_lowered_L30 l hfl D A σ MC MS h0 Qr 1 (xb_lushr x0 x2) h hw p e s m args below meth c hC H locs ls k n hE (lv_sub hl [] rfl) hR hS (by omega) (by omega)
  · have hw := hw.2 hc1
    refine lv_lconst (v := 1) hx hb (xb_d D_Format_lowered 3 rfl) (by decide) ?_
    exact xb_lret hx hb hr hlocks (show k ≤ MC by omega) (show n ≤ MS by omega) hE hR hS (xb_d D_Format_lowered 4 rfl) hw

set_option maxRecDepth 100000 in
def T_Format_magnitude : List (Nat × Instr × Nat) := [(0, .lload_n 1, 1), (1, .aload_n 0, 1), (2, .getfield 18, 3), (5, .lconst 1, 1), (6, .lsub, 1), (7, .land, 1), (8, .lreturn, 1)]
theorem D_Format_magnitude : ∀ q ∈ T_Format_magnitude, decode b_Format_magnitude q.1 = .ok (q.2.1, q.2.2) := by decide +kernel
def w_Format_magnitude (x0 : Nat) (x1 : Int64) (h : xb_H) (Qr : Int64 → xb_H → Prop) : Prop :=
    xb_k h x0 = 6 ∧ Qr (x1 &&& ((xb_l h x0 2) - 1)) h

set_option maxHeartbeats 4000000 in
set_option maxRecDepth 100000 in
theorem ok_Format_magnitude (l : Launch) (hfl : l.flags = pinnedFlags ++ [noTraceFlag]) (D : va_G) (A : Nat → Prop) (σ : Nat) (x0 : Nat) (x1 : Int64) (h : xb_H) (Qr : Int64 → xb_H → Prop) (hw : w_Format_magnitude x0 x1 h Qr) : xt_Met l y_Format_magnitude [.code y_Format_magnitude b_Format_magnitude 3 (some .long)] (xb_rm 2 0 0) (xb_Pc D A σ h [.ref x0, .long x1]) (xb_Qc D A h (fun v h => ∃ r, v = some (.long r) ∧ Qr r h) (fun _ _ => False)) 0 0 A := by
  refine xb_ofAm (cc := b_Format_magnitude) (by decide) (Nat.le_of_ble_eq_true rfl) ?_
  unfold w_Format_magnitude at hw
  show xb_am l D A σ 2 0 0 h (fun v h => ∃ r, v = some (.long r) ∧ Qr r h) (fun _ _ => False) y_Format_magnitude.cls y_Format_magnitude.name b_Format_magnitude 3 ([] : List ExceptionTableEntry) (some .long) 0 [(0, .ref x0), (1, .long x1)] [] h 0 0
  obtain ⟨MC, hMC⟩ : ∃ x, x = 0 := ⟨_, rfl⟩
  obtain ⟨MS, hMS⟩ : ∃ x, x = 0 := ⟨_, rfl⟩
  rw [show xb_am l D A σ 2 0 0 = xb_am l D A σ 2 MC MS by rw [hMC, hMS]]
  obtain ⟨h0, hh0⟩ : ∃ x, x = h := ⟨_, rfl⟩
  rw [show xb_am l D A σ 2 MC MS h = xb_am l D A σ 2 MC MS h0 by rw [hh0]]
  intro p e s m args below meth c hC H locs ls k n hE hl hR hS hk hn
  obtain ⟨hx, hb, hown, hlocks, htab, hml, hr, hB, hA, hnm⟩ := id hC
  have hts := hB.1.1.at args
  refine lv_lload_n hx hb (xb_d D_Format_magnitude 0 rfl) rfl (lv_at hl 1 rfl) ?_
  refine lv_aload_n hx hb (xb_d D_Format_magnitude 1 rfl) rfl (lv_at hl 0 rfl) ?_
  obtain ⟨hk1, hw⟩ := hw
  refine xb_getL (C := R_Format) (T := F_Format) (N := 5) hx hb 5 2 hts fin_Format hown hR hk1 (by decide) rfl (by decide) rfl (hts _ m_e3160854) (fun _ h9 => h9) (xb_d D_Format_magnitude 2 rfl) ?_
  refine lv_lconst (v := 1) hx hb (xb_d D_Format_magnitude 3 rfl) (by decide) ?_
  refine lv_lsub hx hb (xb_d D_Format_magnitude 4 rfl) ?_
  refine lv_land hx hb (xb_d D_Format_magnitude 5 rfl) ?_
  exact xb_lret hx hb hr hlocks (show k ≤ MC by omega) (show n ≤ MS by omega) hE hR hS (xb_d D_Format_magnitude 6 rfl) hw

set_option maxRecDepth 100000 in
def T_Format_power : List (Nat × Instr × Nat) := [(0, .lload_n 1, 1), (1, .aload_n 0, 1), (2, .getfield 18, 3), (5, .lconst 1, 1), (6, .lsub, 1), (7, .land, 1), (8, .aload_n 0, 1), (9, .getfield 9, 3), (12, .iconst 1, 1), (13, .isub, 1), (14, .lushr, 1), (15, .l2i, 1), (16, .aload_n 0, 1), (17, .getfield 15, 3), (20, .isub, 1), (21, .ireturn, 1)]
theorem D_Format_power : ∀ q ∈ T_Format_power, decode b_Format_power q.1 = .ok (q.2.1, q.2.2) := by decide +kernel
def w_Format_power (x0 : Nat) (x1 : Int64) (h : xb_H) (Qr : Int32 → xb_H → Prop) : Prop :=
    xb_k h x0 = 6 ∧ Qr ((Int64.toInt32 (xb_lushr (x1 &&& ((xb_l h x0 2) - 1)) ((xb_i h x0 0) - 1))) - (xb_i h x0 1)) h

set_option maxHeartbeats 4000000 in
set_option maxRecDepth 100000 in
theorem ok_Format_power (l : Launch) (hfl : l.flags = pinnedFlags ++ [noTraceFlag]) (D : va_G) (A : Nat → Prop) (σ : Nat) (x0 : Nat) (x1 : Int64) (h : xb_H) (Qr : Int32 → xb_H → Prop) (hw : w_Format_power x0 x1 h Qr) : xt_Met l y_Format_power [.code y_Format_power b_Format_power 3 (some .int)] (xb_rm 2 0 0) (xb_Pc D A σ h [.ref x0, .long x1]) (xb_Qc D A h (fun v h => ∃ r, v = some (.int r) ∧ Qr r h) (fun _ _ => False)) 0 0 A := by
  refine xb_ofAm (cc := b_Format_power) (by decide) (Nat.le_of_ble_eq_true rfl) ?_
  unfold w_Format_power at hw
  show xb_am l D A σ 2 0 0 h (fun v h => ∃ r, v = some (.int r) ∧ Qr r h) (fun _ _ => False) y_Format_power.cls y_Format_power.name b_Format_power 3 ([] : List ExceptionTableEntry) (some .int) 0 [(0, .ref x0), (1, .long x1)] [] h 0 0
  obtain ⟨MC, hMC⟩ : ∃ x, x = 0 := ⟨_, rfl⟩
  obtain ⟨MS, hMS⟩ : ∃ x, x = 0 := ⟨_, rfl⟩
  rw [show xb_am l D A σ 2 0 0 = xb_am l D A σ 2 MC MS by rw [hMC, hMS]]
  obtain ⟨h0, hh0⟩ : ∃ x, x = h := ⟨_, rfl⟩
  rw [show xb_am l D A σ 2 MC MS h = xb_am l D A σ 2 MC MS h0 by rw [hh0]]
  intro p e s m args below meth c hC H locs ls k n hE hl hR hS hk hn
  obtain ⟨hx, hb, hown, hlocks, htab, hml, hr, hB, hA, hnm⟩ := id hC
  have hts := hB.1.1.at args
  refine lv_lload_n hx hb (xb_d D_Format_power 0 rfl) rfl (lv_at hl 1 rfl) ?_
  refine lv_aload_n hx hb (xb_d D_Format_power 1 rfl) rfl (lv_at hl 0 rfl) ?_
  obtain ⟨hk1, hw⟩ := hw
  refine xb_getL (C := R_Format) (T := F_Format) (N := 5) hx hb 5 2 hts fin_Format hown hR hk1 (by decide) rfl (by decide) rfl (hts _ m_e3160854) (fun _ h9 => h9) (xb_d D_Format_power 2 rfl) ?_
  refine lv_lconst (v := 1) hx hb (xb_d D_Format_power 3 rfl) (by decide) ?_
  refine lv_lsub hx hb (xb_d D_Format_power 4 rfl) ?_
  refine lv_land hx hb (xb_d D_Format_power 5 rfl) ?_
  refine lv_aload_n hx hb (xb_d D_Format_power 6 rfl) rfl (lv_at hl 0 rfl) ?_
  refine xb_getI (C := R_Format) (T := F_Format) (N := 5) hx hb 5 0 hts fin_Format hown hR hk1 (by decide) rfl (by decide) rfl (hts _ m_019aecde) (fun _ h9 => h9) (xb_d D_Format_power 7 rfl) ?_
  refine lv_iconst (v := 1) hx hb (xb_d D_Format_power 8 rfl) (by decide) ?_
  refine lv_isub hx hb (xb_d D_Format_power 9 rfl) ?_
  refine lv_lushr (v := (xb_lushr (x1 &&& ((xb_l h x0 2) - 1)) ((xb_i h x0 0) - 1))) hx hb (xb_d D_Format_power 10 rfl) rfl ?_
  refine lv_l2i hx hb (xb_d D_Format_power 11 rfl) rfl ?_
  refine lv_aload_n hx hb (xb_d D_Format_power 12 rfl) rfl (lv_at hl 0 rfl) ?_
  refine xb_getI (C := R_Format) (T := F_Format) (N := 5) hx hb 5 1 hts fin_Format hown hR hk1 (by decide) rfl (by decide) rfl (hts _ m_a74735c5) (fun _ h9 => h9) (xb_d D_Format_power 13 rfl) ?_
  refine lv_isub hx hb (xb_d D_Format_power 14 rfl) ?_
  exact xb_iret hx hb hr hlocks (show k ≤ MC by omega) (show n ≤ MS by omega) hE hR hS (xb_d D_Format_power 15 rfl) hw

set_option maxRecDepth 100000 in
def T_Format_signed : List (Nat × Instr × Nat) := [(0, .iload_n 1, 1), (1, .ifCond .eq 12, 3), (4, .lload_n 2, 1), (5, .aload_n 0, 1), (6, .getfield 18, 3), (9, .lor, 1), (10, .goto 4, 3), (13, .lload_n 2, 1), (14, .lreturn, 1)]
theorem D_Format_signed : ∀ q ∈ T_Format_signed, decode b_Format_signed q.1 = .ok (q.2.1, q.2.2) := by decide +kernel
def w_Format_signed_L14 (Qr : Int64 → xb_H → Prop) (y0 : Int64) (h : xb_H) : Prop :=
    Qr y0 h

def w_Format_signed (x0 : Nat) (x1 : Int32) (x2 : Int64) (h : xb_H) (Qr : Int64 → xb_H → Prop) : Prop :=
    ((x1 = (0 : Int32) → w_Format_signed_L14 Qr x2 h) ∧ (¬ x1 = (0 : Int32) → xb_k h x0 = 6 ∧ w_Format_signed_L14 Qr (x2 ||| (xb_l h x0 2)) h))

set_option maxHeartbeats 4000000 in
set_option maxRecDepth 100000 in
theorem am_Format_signed_L14 (l : Launch) (hfl : l.flags = pinnedFlags ++ [noTraceFlag]) (D : va_G) (A : Nat → Prop) (σ MC MS : Nat) (h0 : xb_H) (Qr : Int64 → xb_H → Prop) (y0 : Int64) (h : xb_H) (hw : w_Format_signed_L14 Qr y0 h) : xb_am l D A σ 2 MC MS h0 (fun v h => ∃ r, v = some (.long r) ∧ Qr r h) (fun _ _ => False) y_Format_signed.cls y_Format_signed.name b_Format_signed 4 ([] : List ExceptionTableEntry) (some .long) 14 [] [.long y0] h 0 0 := by
  unfold w_Format_signed_L14 at hw
  intro p e s m args below meth c hC H locs ls k n hE hl hR hS hk hn
  obtain ⟨hx, hb, hown, hlocks, htab, hml, hr, hB, hA, hnm⟩ := id hC
  have hts := hB.1.1.at args
  exact xb_lret hx hb hr hlocks (show k ≤ MC by omega) (show n ≤ MS by omega) hE hR hS (xb_d D_Format_signed 8 rfl) hw

set_option maxHeartbeats 4000000 in
set_option maxRecDepth 100000 in
theorem ok_Format_signed (l : Launch) (hfl : l.flags = pinnedFlags ++ [noTraceFlag]) (D : va_G) (A : Nat → Prop) (σ : Nat) (x0 : Nat) (x1 : Int32) (x2 : Int64) (h : xb_H) (Qr : Int64 → xb_H → Prop) (hw : w_Format_signed x0 x1 x2 h Qr) : xt_Met l y_Format_signed [.code y_Format_signed b_Format_signed 4 (some .long)] (xb_rm 2 0 0) (xb_Pc D A σ h [.ref x0, .int x1, .long x2]) (xb_Qc D A h (fun v h => ∃ r, v = some (.long r) ∧ Qr r h) (fun _ _ => False)) 0 0 A := by
  refine xb_ofAm (cc := b_Format_signed) (by decide) (Nat.le_of_ble_eq_true rfl) ?_
  unfold w_Format_signed at hw
  show xb_am l D A σ 2 0 0 h (fun v h => ∃ r, v = some (.long r) ∧ Qr r h) (fun _ _ => False) y_Format_signed.cls y_Format_signed.name b_Format_signed 4 ([] : List ExceptionTableEntry) (some .long) 0 [(0, .ref x0), (1, .int x1), (2, .long x2)] [] h 0 0
  obtain ⟨MC, hMC⟩ : ∃ x, x = 0 := ⟨_, rfl⟩
  obtain ⟨MS, hMS⟩ : ∃ x, x = 0 := ⟨_, rfl⟩
  rw [show xb_am l D A σ 2 0 0 = xb_am l D A σ 2 MC MS by rw [hMC, hMS]]
  obtain ⟨h0, hh0⟩ : ∃ x, x = h := ⟨_, rfl⟩
  rw [show xb_am l D A σ 2 MC MS h = xb_am l D A σ 2 MC MS h0 by rw [hh0]]
  intro p e s m args below meth c hC H locs ls k n hE hl hR hS hk hn
  obtain ⟨hx, hb, hown, hlocks, htab, hml, hr, hB, hA, hnm⟩ := id hC
  have hts := hB.1.1.at args
  refine lv_iload_n hx hb (xb_d D_Format_signed 0 rfl) rfl (lv_at hl 1 rfl) ?_
  refine lv_if_eq (tgt := 13) hx hb (xb_d D_Format_signed 1 rfl) rfl (fun hc1 => ?_) (fun hc1 => ?_)
  · have hw := hw.1 hc1
    refine lv_lload_n hx hb (xb_d D_Format_signed 7 rfl) rfl (lv_at hl 2 rfl) ?_
    exact am_Format_signed_L14 l hfl D A σ MC MS h0 Qr x2 h hw p e s m args below meth c hC H locs ls k n hE (lv_sub hl [] rfl) hR hS (by omega) (by omega)
  · have hw := hw.2 hc1
    refine lv_lload_n hx hb (xb_d D_Format_signed 2 rfl) rfl (lv_at hl 2 rfl) ?_
    refine lv_aload_n hx hb (xb_d D_Format_signed 3 rfl) rfl (lv_at hl 0 rfl) ?_
    obtain ⟨hk2, hw⟩ := hw
    refine xb_getL (C := R_Format) (T := F_Format) (N := 5) hx hb 5 2 hts fin_Format hown hR hk2 (by decide) rfl (by decide) rfl (hts _ m_e3160854) (fun _ h9 => h9) (xb_d D_Format_signed 4 rfl) ?_
    refine lv_lor hx hb (xb_d D_Format_signed 5 rfl) ?_
    refine lv_goto (tgt := 14) hx hb (xb_d D_Format_signed 6 rfl) rfl ?_
    exact am_Format_signed_L14 l hfl D A σ MC MS h0 Qr (x2 ||| (xb_l h x0 2)) h hw p e s m args below meth c hC H locs ls k n hE (lv_sub hl [] rfl) hR hS (by omega) (by omega)

theorem m_192b1ea9 : (.fieldLink "StackHost$Instance" 38 "StackHost$Instance" "importedFunctions" "[J" : Cond) ∈ xt_tbl := xt_in (xt_t7 (List.mem_of_getElem? (i := 8) (by decide +kernel))) (by decide +kernel)
theorem m_f477301c : (.fieldLink "StackHost$Instance" 50 "StackHost$Instance" "firstFunction" "I" : Cond) ∈ xt_tbl := xt_in (xt_t7 (List.mem_of_getElem? (i := 10) (by decide +kernel))) (by decide +kernel)
set_option maxRecDepth 100000 in
def T_Instance_functionId : List (Nat × Instr × Nat) := [(0, .aload_n 0, 1), (1, .getfield 38, 3), (4, .arraylength, 1), (5, .istore_n 2, 1), (6, .iload_n 1, 1), (7, .iload_n 2, 1), (8, .if_icmp .ge 13, 3), (11, .aload_n 0, 1), (12, .getfield 38, 3), (15, .iload_n 1, 1), (16, .laload, 1), (17, .l2i, 1), (18, .goto 11, 3), (21, .aload_n 0, 1), (22, .getfield 50, 3), (25, .iload_n 1, 1), (26, .iadd, 1), (27, .iload_n 2, 1), (28, .isub, 1), (29, .ireturn, 1)]
theorem D_Instance_functionId : ∀ q ∈ T_Instance_functionId, decode b_Instance_functionId q.1 = .ok (q.2.1, q.2.2) := by decide +kernel
def w_Instance_functionId_L29 (Qr : Int32 → xb_H → Prop) (y0 : Int32) (h : xb_H) : Prop :=
    Qr y0 h

def w_Instance_functionId (x0 : Nat) (x1 : Int32) (h : xb_H) (Qr : Int32 → xb_H → Prop) : Prop :=
    xb_k h x0 = 11 ∧ ∃ b2 : Nat, (xb_r h x0 2) = some b2 ∧ xb_k h b2 = 103 ∧ ∀ v4 : Int32, v4 = (nI (xb_n h b2)) → ((v4 ≤ x1 → w_Instance_functionId_L29 Qr (((xb_i h x0 4) + x1) - v4) h) ∧ (¬ v4 ≤ x1 → ∃ b6 : Nat, (xb_r h x0 2) = some b6 ∧ xb_k h b6 = 103 ∧ vp_in x1 (xb_n h b6) ∧ w_Instance_functionId_L29 Qr (Int64.toInt32 (xb_l h b6 (Int32.toNatClampNeg x1))) h))

set_option maxHeartbeats 4000000 in
set_option maxRecDepth 100000 in
theorem am_Instance_functionId_L29 (l : Launch) (hfl : l.flags = pinnedFlags ++ [noTraceFlag]) (D : va_G) (A : Nat → Prop) (σ MC MS : Nat) (h0 : xb_H) (Qr : Int32 → xb_H → Prop) (y0 : Int32) (h : xb_H) (hw : w_Instance_functionId_L29 Qr y0 h) : xb_am l D A σ 2 MC MS h0 (fun v h => ∃ r, v = some (.int r) ∧ Qr r h) (fun _ _ => False) y_Instance_functionId.cls y_Instance_functionId.name b_Instance_functionId 3 ([] : List ExceptionTableEntry) (some .int) 29 [] [.int y0] h 0 0 := by
  unfold w_Instance_functionId_L29 at hw
  intro p e s m args below meth c hC H locs ls k n hE hl hR hS hk hn
  obtain ⟨hx, hb, hown, hlocks, htab, hml, hr, hB, hA, hnm⟩ := id hC
  have hts := hB.1.1.at args
  exact xb_iret hx hb hr hlocks (show k ≤ MC by omega) (show n ≤ MS by omega) hE hR hS (xb_d D_Instance_functionId 19 rfl) hw

set_option maxHeartbeats 4000000 in
set_option maxRecDepth 100000 in
theorem ok_Instance_functionId (l : Launch) (hfl : l.flags = pinnedFlags ++ [noTraceFlag]) (D : va_G) (A : Nat → Prop) (σ : Nat) (x0 : Nat) (x1 : Int32) (h : xb_H) (Qr : Int32 → xb_H → Prop) (hw : w_Instance_functionId x0 x1 h Qr) : xt_Met l y_Instance_functionId [.code y_Instance_functionId b_Instance_functionId 3 (some .int)] (xb_rm 2 0 0) (xb_Pc D A σ h [.ref x0, .int x1]) (xb_Qc D A h (fun v h => ∃ r, v = some (.int r) ∧ Qr r h) (fun _ _ => False)) 0 0 A := by
  refine xb_ofAm (cc := b_Instance_functionId) (by decide) (Nat.le_of_ble_eq_true rfl) ?_
  unfold w_Instance_functionId at hw
  show xb_am l D A σ 2 0 0 h (fun v h => ∃ r, v = some (.int r) ∧ Qr r h) (fun _ _ => False) y_Instance_functionId.cls y_Instance_functionId.name b_Instance_functionId 3 ([] : List ExceptionTableEntry) (some .int) 0 [(0, .ref x0), (1, .int x1)] [] h 0 0
  obtain ⟨MC, hMC⟩ : ∃ x, x = 0 := ⟨_, rfl⟩
  obtain ⟨MS, hMS⟩ : ∃ x, x = 0 := ⟨_, rfl⟩
  rw [show xb_am l D A σ 2 0 0 = xb_am l D A σ 2 MC MS by rw [hMC, hMS]]
  obtain ⟨h0, hh0⟩ : ∃ x, x = h := ⟨_, rfl⟩
  rw [show xb_am l D A σ 2 MC MS h = xb_am l D A σ 2 MC MS h0 by rw [hh0]]
  intro p e s m args below meth c hC H locs ls k n hE hl hR hS hk hn
  obtain ⟨hx, hb, hown, hlocks, htab, hml, hr, hB, hA, hnm⟩ := id hC
  have hts := hB.1.1.at args
  refine lv_aload_n hx hb (xb_d D_Instance_functionId 0 rfl) rfl (lv_at hl 0 rfl) ?_
  obtain ⟨hk1, hw⟩ := hw
  refine xb_getP (C := R_Instance) (T := F_Instance) (N := 8) hx hb 10 2 hts fin_Instance hown hR hk1 (by decide) rfl (by decide) rfl (hts _ m_192b1ea9) (fun _ h9 => h9) (xb_d D_Instance_functionId 1 rfl) ?_
  obtain ⟨b2, eb2, hw⟩ := hw
  refine xb_some eb2 ?_
  obtain ⟨hk3, hw⟩ := hw
  refine xb_alen hx hb hR hk3 (by decide) (xb_d D_Instance_functionId 2 rfl) ?_
  obtain ⟨v4, ev4⟩ : ∃ x : Int32, x = (nI (xb_n h b2)) := ⟨_, rfl⟩
  have hw := hw v4 ev4
  refine xt_numi (y := v4) ev4.symm ?_
  refine lv_istore_n hx hb (xb_d D_Instance_functionId 3 rfl) rfl hl (by decide) rfl (fun ls hl => ?_)
  have hl : lv_has ls 3 [(2, .int v4), (0, .ref x0), (1, .int x1)] := hl
  refine lv_iload_n hx hb (xb_d D_Instance_functionId 4 rfl) rfl (lv_at hl 2 rfl) ?_
  refine lv_iload_n hx hb (xb_d D_Instance_functionId 5 rfl) rfl (lv_at hl 0 rfl) ?_
  refine lv_icmp_ge (tgt := 21) hx hb (xb_d D_Instance_functionId 6 rfl) rfl (fun hc5 => ?_) (fun hc5 => ?_)
  · have hw := hw.1 hc5
    refine lv_aload_n hx hb (xb_d D_Instance_functionId 13 rfl) rfl (lv_at hl 1 rfl) ?_
    refine xb_getI (C := R_Instance) (T := F_Instance) (N := 8) hx hb 10 4 hts fin_Instance hown hR hk1 (by decide) rfl (by decide) rfl (hts _ m_f477301c) (fun _ h9 => h9) (xb_d D_Instance_functionId 14 rfl) ?_
    refine lv_iload_n hx hb (xb_d D_Instance_functionId 15 rfl) rfl (lv_at hl 2 rfl) ?_
    refine lv_iadd hx hb (xb_d D_Instance_functionId 16 rfl) ?_
    refine lv_iload_n hx hb (xb_d D_Instance_functionId 17 rfl) rfl (lv_at hl 0 rfl) ?_
    refine lv_isub hx hb (xb_d D_Instance_functionId 18 rfl) ?_
    exact am_Instance_functionId_L29 l hfl D A σ MC MS h0 Qr (((xb_i h x0 4) + x1) - v4) h hw p e s m args below meth c hC H locs ls k n hE (lv_sub hl [] rfl) hR hS (by omega) (by omega)
  · have hw := hw.2 hc5
    refine lv_aload_n hx hb (xb_d D_Instance_functionId 7 rfl) rfl (lv_at hl 1 rfl) ?_
    refine xb_getP (C := R_Instance) (T := F_Instance) (N := 8) hx hb 10 2 hts fin_Instance hown hR hk1 (by decide) rfl (by decide) rfl (hts _ m_192b1ea9) (fun _ h9 => h9) (xb_d D_Instance_functionId 8 rfl) ?_
    obtain ⟨b6, eb6, hw⟩ := hw
    refine xb_some eb6 ?_
    refine lv_iload_n hx hb (xb_d D_Instance_functionId 9 rfl) rfl (lv_at hl 2 rfl) ?_
    obtain ⟨hk8, hw⟩ := hw
    obtain ⟨hi7, hw⟩ := hw
    refine xb_lald hx hb hR hk8 hi7 (xb_d D_Instance_functionId 10 rfl) ?_
    refine lv_l2i hx hb (xb_d D_Instance_functionId 11 rfl) rfl ?_
    refine lv_goto (tgt := 29) hx hb (xb_d D_Instance_functionId 12 rfl) rfl ?_
    exact am_Instance_functionId_L29 l hfl D A σ MC MS h0 Qr (Int64.toInt32 (xb_l h b6 (Int32.toNatClampNeg x1))) h hw p e s m args below meth c hC H locs ls k n hE (lv_sub hl [] rfl) hR hS (by omega) (by omega)

set_option maxRecDepth 100000 in
def T_Instance_numberOf : List (Nat × Instr × Nat) := [(0, .iload_n 1, 1), (1, .aload_n 0, 1), (2, .getfield 50, 3), (5, .isub, 1), (6, .aload_n 0, 1), (7, .getfield 38, 3), (10, .arraylength, 1), (11, .iadd, 1), (12, .ireturn, 1)]
theorem D_Instance_numberOf : ∀ q ∈ T_Instance_numberOf, decode b_Instance_numberOf q.1 = .ok (q.2.1, q.2.2) := by decide +kernel
def w_Instance_numberOf (x0 : Nat) (x1 : Int32) (h : xb_H) (Qr : Int32 → xb_H → Prop) : Prop :=
    xb_k h x0 = 11 ∧ ∃ b2 : Nat, (xb_r h x0 2) = some b2 ∧ xb_k h b2 = 103 ∧ Qr ((x1 - (xb_i h x0 4)) + (nI (xb_n h b2))) h

set_option maxHeartbeats 4000000 in
set_option maxRecDepth 100000 in
theorem ok_Instance_numberOf (l : Launch) (hfl : l.flags = pinnedFlags ++ [noTraceFlag]) (D : va_G) (A : Nat → Prop) (σ : Nat) (x0 : Nat) (x1 : Int32) (h : xb_H) (Qr : Int32 → xb_H → Prop) (hw : w_Instance_numberOf x0 x1 h Qr) : xt_Met l y_Instance_numberOf [.code y_Instance_numberOf b_Instance_numberOf 2 (some .int)] (xb_rm 2 0 0) (xb_Pc D A σ h [.ref x0, .int x1]) (xb_Qc D A h (fun v h => ∃ r, v = some (.int r) ∧ Qr r h) (fun _ _ => False)) 0 0 A := by
  refine xb_ofAm (cc := b_Instance_numberOf) (by decide) (Nat.le_of_ble_eq_true rfl) ?_
  unfold w_Instance_numberOf at hw
  show xb_am l D A σ 2 0 0 h (fun v h => ∃ r, v = some (.int r) ∧ Qr r h) (fun _ _ => False) y_Instance_numberOf.cls y_Instance_numberOf.name b_Instance_numberOf 2 ([] : List ExceptionTableEntry) (some .int) 0 [(0, .ref x0), (1, .int x1)] [] h 0 0
  obtain ⟨MC, hMC⟩ : ∃ x, x = 0 := ⟨_, rfl⟩
  obtain ⟨MS, hMS⟩ : ∃ x, x = 0 := ⟨_, rfl⟩
  rw [show xb_am l D A σ 2 0 0 = xb_am l D A σ 2 MC MS by rw [hMC, hMS]]
  obtain ⟨h0, hh0⟩ : ∃ x, x = h := ⟨_, rfl⟩
  rw [show xb_am l D A σ 2 MC MS h = xb_am l D A σ 2 MC MS h0 by rw [hh0]]
  intro p e s m args below meth c hC H locs ls k n hE hl hR hS hk hn
  obtain ⟨hx, hb, hown, hlocks, htab, hml, hr, hB, hA, hnm⟩ := id hC
  have hts := hB.1.1.at args
  refine lv_iload_n hx hb (xb_d D_Instance_numberOf 0 rfl) rfl (lv_at hl 1 rfl) ?_
  refine lv_aload_n hx hb (xb_d D_Instance_numberOf 1 rfl) rfl (lv_at hl 0 rfl) ?_
  obtain ⟨hk1, hw⟩ := hw
  refine xb_getI (C := R_Instance) (T := F_Instance) (N := 8) hx hb 10 4 hts fin_Instance hown hR hk1 (by decide) rfl (by decide) rfl (hts _ m_f477301c) (fun _ h9 => h9) (xb_d D_Instance_numberOf 2 rfl) ?_
  refine lv_isub hx hb (xb_d D_Instance_numberOf 3 rfl) ?_
  refine lv_aload_n hx hb (xb_d D_Instance_numberOf 4 rfl) rfl (lv_at hl 0 rfl) ?_
  refine xb_getP (C := R_Instance) (T := F_Instance) (N := 8) hx hb 10 2 hts fin_Instance hown hR hk1 (by decide) rfl (by decide) rfl (hts _ m_192b1ea9) (fun _ h9 => h9) (xb_d D_Instance_numberOf 5 rfl) ?_
  obtain ⟨b2, eb2, hw⟩ := hw
  refine xb_some eb2 ?_
  obtain ⟨hk3, hw⟩ := hw
  refine xb_alen hx hb hR hk3 (by decide) (xb_d D_Instance_numberOf 6 rfl) ?_
  refine lv_iadd hx hb (xb_d D_Instance_numberOf 7 rfl) ?_
  exact xb_iret hx hb hr hlocks (show k ≤ MC by omega) (show n ≤ MS by omega) hE hR hS (xb_d D_Instance_numberOf 8 rfl) hw

theorem m_79003569 : (.fieldLink "StackHost$Instance" 44 "StackHost$Instance" "importedVariables" "[J" : Cond) ∈ xt_tbl := xt_in (xt_t7 (List.mem_of_getElem? (i := 9) (by decide +kernel))) (by decide +kernel)
theorem m_ca9c5328 : (.fieldLink "StackHost$Instance" 56 "StackHost$Instance" "firstVariable" "I" : Cond) ∈ xt_tbl := xt_in (xt_t7 (List.mem_of_getElem? (i := 11) (by decide +kernel))) (by decide +kernel)
set_option maxRecDepth 100000 in
def T_Instance_variableId : List (Nat × Instr × Nat) := [(0, .aload_n 0, 1), (1, .getfield 44, 3), (4, .arraylength, 1), (5, .istore_n 2, 1), (6, .iload_n 1, 1), (7, .iload_n 2, 1), (8, .if_icmp .ge 13, 3), (11, .aload_n 0, 1), (12, .getfield 44, 3), (15, .iload_n 1, 1), (16, .laload, 1), (17, .l2i, 1), (18, .goto 11, 3), (21, .aload_n 0, 1), (22, .getfield 56, 3), (25, .iload_n 1, 1), (26, .iadd, 1), (27, .iload_n 2, 1), (28, .isub, 1), (29, .ireturn, 1)]
theorem D_Instance_variableId : ∀ q ∈ T_Instance_variableId, decode b_Instance_variableId q.1 = .ok (q.2.1, q.2.2) := by decide +kernel
def w_Instance_variableId_L29 (Qr : Int32 → xb_H → Prop) (y0 : Int32) (h : xb_H) : Prop :=
    Qr y0 h

def w_Instance_variableId (x0 : Nat) (x1 : Int32) (h : xb_H) (Qr : Int32 → xb_H → Prop) : Prop :=
    xb_k h x0 = 11 ∧ ∃ b2 : Nat, (xb_r h x0 3) = some b2 ∧ xb_k h b2 = 103 ∧ ∀ v4 : Int32, v4 = (nI (xb_n h b2)) → ((v4 ≤ x1 → w_Instance_variableId_L29 Qr (((xb_i h x0 5) + x1) - v4) h) ∧ (¬ v4 ≤ x1 → ∃ b6 : Nat, (xb_r h x0 3) = some b6 ∧ xb_k h b6 = 103 ∧ vp_in x1 (xb_n h b6) ∧ w_Instance_variableId_L29 Qr (Int64.toInt32 (xb_l h b6 (Int32.toNatClampNeg x1))) h))

set_option maxHeartbeats 4000000 in
set_option maxRecDepth 100000 in
theorem am_Instance_variableId_L29 (l : Launch) (hfl : l.flags = pinnedFlags ++ [noTraceFlag]) (D : va_G) (A : Nat → Prop) (σ MC MS : Nat) (h0 : xb_H) (Qr : Int32 → xb_H → Prop) (y0 : Int32) (h : xb_H) (hw : w_Instance_variableId_L29 Qr y0 h) : xb_am l D A σ 2 MC MS h0 (fun v h => ∃ r, v = some (.int r) ∧ Qr r h) (fun _ _ => False) y_Instance_variableId.cls y_Instance_variableId.name b_Instance_variableId 3 ([] : List ExceptionTableEntry) (some .int) 29 [] [.int y0] h 0 0 := by
  unfold w_Instance_variableId_L29 at hw
  intro p e s m args below meth c hC H locs ls k n hE hl hR hS hk hn
  obtain ⟨hx, hb, hown, hlocks, htab, hml, hr, hB, hA, hnm⟩ := id hC
  have hts := hB.1.1.at args
  exact xb_iret hx hb hr hlocks (show k ≤ MC by omega) (show n ≤ MS by omega) hE hR hS (xb_d D_Instance_variableId 19 rfl) hw

set_option maxHeartbeats 4000000 in
set_option maxRecDepth 100000 in
theorem ok_Instance_variableId (l : Launch) (hfl : l.flags = pinnedFlags ++ [noTraceFlag]) (D : va_G) (A : Nat → Prop) (σ : Nat) (x0 : Nat) (x1 : Int32) (h : xb_H) (Qr : Int32 → xb_H → Prop) (hw : w_Instance_variableId x0 x1 h Qr) : xt_Met l y_Instance_variableId [.code y_Instance_variableId b_Instance_variableId 3 (some .int)] (xb_rm 2 0 0) (xb_Pc D A σ h [.ref x0, .int x1]) (xb_Qc D A h (fun v h => ∃ r, v = some (.int r) ∧ Qr r h) (fun _ _ => False)) 0 0 A := by
  refine xb_ofAm (cc := b_Instance_variableId) (by decide) (Nat.le_of_ble_eq_true rfl) ?_
  unfold w_Instance_variableId at hw
  show xb_am l D A σ 2 0 0 h (fun v h => ∃ r, v = some (.int r) ∧ Qr r h) (fun _ _ => False) y_Instance_variableId.cls y_Instance_variableId.name b_Instance_variableId 3 ([] : List ExceptionTableEntry) (some .int) 0 [(0, .ref x0), (1, .int x1)] [] h 0 0
  obtain ⟨MC, hMC⟩ : ∃ x, x = 0 := ⟨_, rfl⟩
  obtain ⟨MS, hMS⟩ : ∃ x, x = 0 := ⟨_, rfl⟩
  rw [show xb_am l D A σ 2 0 0 = xb_am l D A σ 2 MC MS by rw [hMC, hMS]]
  obtain ⟨h0, hh0⟩ : ∃ x, x = h := ⟨_, rfl⟩
  rw [show xb_am l D A σ 2 MC MS h = xb_am l D A σ 2 MC MS h0 by rw [hh0]]
  intro p e s m args below meth c hC H locs ls k n hE hl hR hS hk hn
  obtain ⟨hx, hb, hown, hlocks, htab, hml, hr, hB, hA, hnm⟩ := id hC
  have hts := hB.1.1.at args
  refine lv_aload_n hx hb (xb_d D_Instance_variableId 0 rfl) rfl (lv_at hl 0 rfl) ?_
  obtain ⟨hk1, hw⟩ := hw
  refine xb_getP (C := R_Instance) (T := F_Instance) (N := 8) hx hb 10 3 hts fin_Instance hown hR hk1 (by decide) rfl (by decide) rfl (hts _ m_79003569) (fun _ h9 => h9) (xb_d D_Instance_variableId 1 rfl) ?_
  obtain ⟨b2, eb2, hw⟩ := hw
  refine xb_some eb2 ?_
  obtain ⟨hk3, hw⟩ := hw
  refine xb_alen hx hb hR hk3 (by decide) (xb_d D_Instance_variableId 2 rfl) ?_
  obtain ⟨v4, ev4⟩ : ∃ x : Int32, x = (nI (xb_n h b2)) := ⟨_, rfl⟩
  have hw := hw v4 ev4
  refine xt_numi (y := v4) ev4.symm ?_
  refine lv_istore_n hx hb (xb_d D_Instance_variableId 3 rfl) rfl hl (by decide) rfl (fun ls hl => ?_)
  have hl : lv_has ls 3 [(2, .int v4), (0, .ref x0), (1, .int x1)] := hl
  refine lv_iload_n hx hb (xb_d D_Instance_variableId 4 rfl) rfl (lv_at hl 2 rfl) ?_
  refine lv_iload_n hx hb (xb_d D_Instance_variableId 5 rfl) rfl (lv_at hl 0 rfl) ?_
  refine lv_icmp_ge (tgt := 21) hx hb (xb_d D_Instance_variableId 6 rfl) rfl (fun hc5 => ?_) (fun hc5 => ?_)
  · have hw := hw.1 hc5
    refine lv_aload_n hx hb (xb_d D_Instance_variableId 13 rfl) rfl (lv_at hl 1 rfl) ?_
    refine xb_getI (C := R_Instance) (T := F_Instance) (N := 8) hx hb 10 5 hts fin_Instance hown hR hk1 (by decide) rfl (by decide) rfl (hts _ m_ca9c5328) (fun _ h9 => h9) (xb_d D_Instance_variableId 14 rfl) ?_
    refine lv_iload_n hx hb (xb_d D_Instance_variableId 15 rfl) rfl (lv_at hl 2 rfl) ?_
    refine lv_iadd hx hb (xb_d D_Instance_variableId 16 rfl) ?_
    refine lv_iload_n hx hb (xb_d D_Instance_variableId 17 rfl) rfl (lv_at hl 0 rfl) ?_
    refine lv_isub hx hb (xb_d D_Instance_variableId 18 rfl) ?_
    exact am_Instance_variableId_L29 l hfl D A σ MC MS h0 Qr (((xb_i h x0 5) + x1) - v4) h hw p e s m args below meth c hC H locs ls k n hE (lv_sub hl [] rfl) hR hS (by omega) (by omega)
  · have hw := hw.2 hc5
    refine lv_aload_n hx hb (xb_d D_Instance_variableId 7 rfl) rfl (lv_at hl 1 rfl) ?_
    refine xb_getP (C := R_Instance) (T := F_Instance) (N := 8) hx hb 10 3 hts fin_Instance hown hR hk1 (by decide) rfl (by decide) rfl (hts _ m_79003569) (fun _ h9 => h9) (xb_d D_Instance_variableId 8 rfl) ?_
    obtain ⟨b6, eb6, hw⟩ := hw
    refine xb_some eb6 ?_
    refine lv_iload_n hx hb (xb_d D_Instance_variableId 9 rfl) rfl (lv_at hl 2 rfl) ?_
    obtain ⟨hk8, hw⟩ := hw
    obtain ⟨hi7, hw⟩ := hw
    refine xb_lald hx hb hR hk8 hi7 (xb_d D_Instance_variableId 10 rfl) ?_
    refine lv_l2i hx hb (xb_d D_Instance_variableId 11 rfl) rfl ?_
    refine lv_goto (tgt := 29) hx hb (xb_d D_Instance_variableId 12 rfl) rfl ?_
    exact am_Instance_variableId_L29 l hfl D A σ MC MS h0 Qr (Int64.toInt32 (xb_l h b6 (Int32.toNatClampNeg x1))) h hw p e s m args below meth c hC H locs ls k n hE (lv_sub hl [] rfl) hR hS (by omega) (by omega)

theorem m_87cf9501 : (.fieldLink "StackHost$Machine" 46 "StackHost$Machine" "underWay" "Z" : Cond) ∈ xt_tbl := xt_in (xt_t2 (List.mem_of_getElem? (i := 24) (by decide +kernel))) (by decide +kernel)
theorem m_71c815d4 : (.fieldLink "StackHost$Machine" 31 "StackHost$Machine" "waiting" "I" : Cond) ∈ xt_tbl := xt_in (xt_t2 (List.mem_of_getElem? (i := 33) (by decide +kernel))) (by decide +kernel)
theorem m_61f414b6 : (.fieldLink "StackHost$Machine" 50 "StackHost$Machine" "depth" "I" : Cond) ∈ xt_tbl := xt_in (xt_t2 (List.mem_of_getElem? (i := 26) (by decide +kernel))) (by decide +kernel)
theorem m_79cf62f6 : (.fieldLink "StackHost$Machine" 53 "StackHost$Machine" "top" "I" : Cond) ∈ xt_tbl := xt_in (xt_t2 (List.mem_of_getElem? (i := 35) (by decide +kernel))) (by decide +kernel)
set_option maxRecDepth 100000 in
def T_Machine_begin : List (Nat × Instr × Nat) := [(0, .aload_n 0, 1), (1, .iconst 1, 1), (2, .putfield 46, 3), (5, .aload_n 0, 1), (6, .iload_n 1, 1), (7, .putfield 31, 3), (10, .aload_n 0, 1), (11, .iconst 0, 1), (12, .putfield 50, 3), (15, .aload_n 0, 1), (16, .iconst 0, 1), (17, .putfield 53, 3), (20, .return_, 1)]
theorem D_Machine_begin : ∀ q ∈ T_Machine_begin, decode b_Machine_begin q.1 = .ok (q.2.1, q.2.2) := by decide +kernel
def w_Machine_begin (x0 : Nat) (x1 : Int32) (h : xb_H) (Qr : xb_H → Prop) : Prop :=
    xb_k h x0 = 8 ∧ ∀ h2 : xb_H, h2 = xb_I h x0 3 1 → ∀ h3 : xb_H, h3 = xb_I h2 x0 8 x1 → ∀ h4 : xb_H, h4 = xb_I h3 x0 4 0 → ∀ h5 : xb_H, h5 = xb_I h4 x0 10 0 → Qr h5

set_option maxHeartbeats 4000000 in
set_option maxRecDepth 100000 in
theorem ok_Machine_begin (l : Launch) (hfl : l.flags = pinnedFlags ++ [noTraceFlag]) (D : va_G) (A : Nat → Prop) (σ : Nat) (x0 : Nat) (x1 : Int32) (h : xb_H) (Qr : xb_H → Prop) (hw : w_Machine_begin x0 x1 h Qr) : xt_Met l y_Machine_begin [.code y_Machine_begin b_Machine_begin 2 none] (xb_rm 2 0 0) (xb_Pc D A σ h [.ref x0, .int x1]) (xb_Qc D A h (fun v h => v = none ∧ Qr h) (fun _ _ => False)) 0 0 A := by
  refine xb_ofAm (cc := b_Machine_begin) (by decide) (Nat.le_of_ble_eq_true rfl) ?_
  unfold w_Machine_begin at hw
  show xb_am l D A σ 2 0 0 h (fun v h => v = none ∧ Qr h) (fun _ _ => False) y_Machine_begin.cls y_Machine_begin.name b_Machine_begin 2 ([] : List ExceptionTableEntry) none 0 [(0, .ref x0), (1, .int x1)] [] h 0 0
  obtain ⟨MC, hMC⟩ : ∃ x, x = 0 := ⟨_, rfl⟩
  obtain ⟨MS, hMS⟩ : ∃ x, x = 0 := ⟨_, rfl⟩
  rw [show xb_am l D A σ 2 0 0 = xb_am l D A σ 2 MC MS by rw [hMC, hMS]]
  obtain ⟨h0, hh0⟩ : ∃ x, x = h := ⟨_, rfl⟩
  rw [show xb_am l D A σ 2 MC MS h = xb_am l D A σ 2 MC MS h0 by rw [hh0]]
  intro p e s m args below meth c hC H locs ls k n hE hl hR hS hk hn
  obtain ⟨hx, hb, hown, hlocks, htab, hml, hr, hB, hA, hnm⟩ := id hC
  have hts := hB.1.1.at args
  refine lv_aload_n hx hb (xb_d D_Machine_begin 0 rfl) rfl (lv_at hl 0 rfl) ?_
  refine lv_iconst (v := 1) hx hb (xb_d D_Machine_begin 1 rfl) (by decide) ?_
  obtain ⟨hk1, hw⟩ := hw
  refine xb_putI (C := R_Machine) (T := F_Machine) (N := 18) (ty := .boolean) (x := 1) hx hb 7 3 hts fin_Machine t_Machine t_Machine_ok n_Machine hown hR hS hk1 (by decide) rfl (by decide) rfl (hts _ m_87cf9501) (fun _ h9 => h9) rfl (by decide +kernel) (by decide) (by decide) (xb_d D_Machine_begin 2 rfl) (fun H locs hR hS => ?_)
  obtain ⟨h2, eh2⟩ : ∃ x : xb_H, x = xb_I h x0 3 1 := ⟨_, rfl⟩
  rw [← eh2] at hR
  have hw := hw h2 eh2
  have hE : xb_ext h0 h2 := by rw [eh2]; exact hE
  refine lv_aload_n hx hb (xb_d D_Machine_begin 3 rfl) rfl (lv_at hl 0 rfl) ?_
  refine lv_iload_n hx hb (xb_d D_Machine_begin 4 rfl) rfl (lv_at hl 1 rfl) ?_
  have hk1 : xb_k h2 x0 = 8 := by rw [eh2]; exact hk1
  refine xb_putI (C := R_Machine) (T := F_Machine) (N := 18) (ty := .int) (x := x1) hx hb 7 8 hts fin_Machine t_Machine t_Machine_ok n_Machine hown hR hS hk1 (by decide) rfl (by decide) rfl (hts _ m_71c815d4) (fun _ h9 => h9) rfl (by decide +kernel) rfl rfl (xb_d D_Machine_begin 5 rfl) (fun H locs hR hS => ?_)
  obtain ⟨h3, eh3⟩ : ∃ x : xb_H, x = xb_I h2 x0 8 x1 := ⟨_, rfl⟩
  rw [← eh3] at hR
  have hw := hw h3 eh3
  have hE : xb_ext h0 h3 := by rw [eh3]; exact hE
  refine lv_aload_n hx hb (xb_d D_Machine_begin 6 rfl) rfl (lv_at hl 0 rfl) ?_
  refine lv_iconst (v := 0) hx hb (xb_d D_Machine_begin 7 rfl) (by decide) ?_
  have hk1 : xb_k h3 x0 = 8 := by rw [eh3]; exact hk1
  refine xb_putI (C := R_Machine) (T := F_Machine) (N := 18) (ty := .int) (x := 0) hx hb 7 4 hts fin_Machine t_Machine t_Machine_ok n_Machine hown hR hS hk1 (by decide) rfl (by decide) rfl (hts _ m_61f414b6) (fun _ h9 => h9) rfl (by decide +kernel) rfl rfl (xb_d D_Machine_begin 8 rfl) (fun H locs hR hS => ?_)
  obtain ⟨h4, eh4⟩ : ∃ x : xb_H, x = xb_I h3 x0 4 0 := ⟨_, rfl⟩
  rw [← eh4] at hR
  have hw := hw h4 eh4
  have hE : xb_ext h0 h4 := by rw [eh4]; exact hE
  refine lv_aload_n hx hb (xb_d D_Machine_begin 9 rfl) rfl (lv_at hl 0 rfl) ?_
  refine lv_iconst (v := 0) hx hb (xb_d D_Machine_begin 10 rfl) (by decide) ?_
  have hk1 : xb_k h4 x0 = 8 := by rw [eh4]; exact hk1
  refine xb_putI (C := R_Machine) (T := F_Machine) (N := 18) (ty := .int) (x := 0) hx hb 7 10 hts fin_Machine t_Machine t_Machine_ok n_Machine hown hR hS hk1 (by decide) rfl (by decide) rfl (hts _ m_79cf62f6) (fun _ h9 => h9) rfl (by decide +kernel) rfl rfl (xb_d D_Machine_begin 11 rfl) (fun H locs hR hS => ?_)
  obtain ⟨h5, eh5⟩ : ∃ x : xb_H, x = xb_I h4 x0 10 0 := ⟨_, rfl⟩
  rw [← eh5] at hR
  have hw := hw h5 eh5
  have hE : xb_ext h0 h5 := by rw [eh5]; exact hE
  exact xb_vret hx hb hr hlocks (show k ≤ MC by omega) (show n ≤ MS by omega) hE hR hS (xb_d D_Machine_begin 12 rfl) hw

theorem m_8f763f86 : (.fieldLink "StackHost$Machine" 111 "StackHost$Machine" "notes" "[I" : Cond) ∈ xt_tbl := xt_in (xt_t2 (List.mem_of_getElem? (i := 39) (by decide +kernel))) (by decide +kernel)
theorem m_6a595805 : (.fieldLink "StackHost$Machine" 108 "StackHost$Machine" "at" "I" : Cond) ∈ xt_tbl := xt_in (xt_t2 (List.mem_of_getElem? (i := 40) (by decide +kernel))) (by decide +kernel)
theorem m_6904195b : (.fieldLink "StackHost$Machine" 35 "StackHost$Machine" "values" "[J" : Cond) ∈ xt_tbl := xt_in (xt_t2 (List.mem_of_getElem? (i := 34) (by decide +kernel))) (by decide +kernel)
set_option maxRecDepth 100000 in
def T_Machine_chosenLabel : List (Nat × Instr × Nat) := [(0, .aload_n 0, 1), (1, .dup, 1), (2, .getfield 53, 3), (5, .iconst 1, 1), (6, .isub, 1), (7, .putfield 53, 3), (10, .aload_n 0, 1), (11, .getfield 111, 3), (14, .aload_n 0, 1), (15, .getfield 108, 3), (18, .iconst 1, 1), (19, .iadd, 1), (20, .iaload, 1), (21, .istore_n 1, 1), (22, .aload_n 0, 1), (23, .getfield 35, 3), (26, .aload_n 0, 1), (27, .getfield 53, 3), (30, .laload, 1), (31, .iload_n 1, 1), (32, .i2l, 1), (33, .lcmp, 1), (34, .ifCond .ge 16, 3), (37, .aload_n 0, 1), (38, .getfield 35, 3), (41, .aload_n 0, 1), (42, .getfield 53, 3), (45, .laload, 1), (46, .l2i, 1), (47, .goto 4, 3), (50, .iload_n 1, 1), (51, .istore_n 2, 1), (52, .aload_n 0, 1), (53, .getfield 111, 3), (56, .aload_n 0, 1), (57, .getfield 108, 3), (60, .iconst 2, 1), (61, .iadd, 1), (62, .iload_n 2, 1), (63, .iadd, 1), (64, .iaload, 1), (65, .ireturn, 1)]
theorem D_Machine_chosenLabel : ∀ q ∈ T_Machine_chosenLabel, decode b_Machine_chosenLabel q.1 = .ok (q.2.1, q.2.2) := by decide +kernel
def w_Machine_chosenLabel_L51 (Qr : Int32 → xb_H → Prop) (x0 : Nat) (y0 : Int32) (h : xb_H) : Prop :=
    xb_k h x0 = 8 ∧ ∃ b2 : Nat, (xb_r h x0 14) = some b2 ∧ xb_k h b2 = 102 ∧ vp_in (((xb_i h x0 15) + 2) + y0) (xb_n h b2) ∧ Qr (xb_i h b2 (Int32.toNatClampNeg (((xb_i h x0 15) + 2) + y0))) h

def w_Machine_chosenLabel (x0 : Nat) (h : xb_H) (Qr : Int32 → xb_H → Prop) : Prop :=
    xb_k h x0 = 8 ∧ ∀ h2 : xb_H, h2 = xb_I h x0 10 ((xb_i h x0 10) - 1) → ∃ b3 : Nat, (xb_r h2 x0 14) = some b3 ∧ xb_k h2 b3 = 102 ∧ vp_in ((xb_i h2 x0 15) + 1) (xb_n h2 b3) ∧ ∀ v6 : Int32, v6 = (xb_i h2 b3 (Int32.toNatClampNeg ((xb_i h2 x0 15) + 1))) → ∃ b7 : Nat, (xb_r h2 x0 9) = some b7 ∧ xb_k h2 b7 = 103 ∧ vp_in (xb_i h2 x0 10) (xb_n h2 b7) ∧ (((Int32.toInt64 v6) ≤ (xb_l h2 b7 (Int32.toNatClampNeg (xb_i h2 x0 10))) → w_Machine_chosenLabel_L51 Qr x0 v6 h2) ∧ (¬ (Int32.toInt64 v6) ≤ (xb_l h2 b7 (Int32.toNatClampNeg (xb_i h2 x0 10))) → ∃ b11 : Nat, (xb_r h2 x0 9) = some b11 ∧ xb_k h2 b11 = 103 ∧ vp_in (xb_i h2 x0 10) (xb_n h2 b11) ∧ w_Machine_chosenLabel_L51 Qr x0 (Int64.toInt32 (xb_l h2 b11 (Int32.toNatClampNeg (xb_i h2 x0 10)))) h2))

set_option maxHeartbeats 4000000 in
set_option maxRecDepth 100000 in
theorem am_Machine_chosenLabel_L51 (l : Launch) (hfl : l.flags = pinnedFlags ++ [noTraceFlag]) (D : va_G) (A : Nat → Prop) (σ MC MS : Nat) (h0 : xb_H) (Qr : Int32 → xb_H → Prop) (x0 : Nat) (y0 : Int32) (h : xb_H) (hw : w_Machine_chosenLabel_L51 Qr x0 y0 h) : xb_am l D A σ 2 MC MS h0 (fun v h => ∃ r, v = some (.int r) ∧ Qr r h) (fun _ _ => False) y_Machine_chosenLabel.cls y_Machine_chosenLabel.name b_Machine_chosenLabel 3 ([] : List ExceptionTableEntry) (some .int) 51 [(0, .ref x0)] [.int y0] h 0 0 := by
  unfold w_Machine_chosenLabel_L51 at hw
  intro p e s m args below meth c hC H locs ls k n hE hl hR hS hk hn
  obtain ⟨hx, hb, hown, hlocks, htab, hml, hr, hB, hA, hnm⟩ := id hC
  have hts := hB.1.1.at args
  refine lv_istore_n hx hb (xb_d D_Machine_chosenLabel 31 rfl) rfl hl (by decide) rfl (fun ls hl => ?_)
  have hl : lv_has ls 3 [(2, .int y0), (0, .ref x0)] := hl
  refine lv_aload_n hx hb (xb_d D_Machine_chosenLabel 32 rfl) rfl (lv_at hl 1 rfl) ?_
  obtain ⟨hk1, hw⟩ := hw
  refine xb_getP (C := R_Machine) (T := F_Machine) (N := 18) hx hb 7 14 hts fin_Machine hown hR hk1 (by decide) rfl (by decide) rfl (hts _ m_8f763f86) (fun _ h9 => h9) (xb_d D_Machine_chosenLabel 33 rfl) ?_
  obtain ⟨b2, eb2, hw⟩ := hw
  refine xb_some eb2 ?_
  refine lv_aload_n hx hb (xb_d D_Machine_chosenLabel 34 rfl) rfl (lv_at hl 1 rfl) ?_
  refine xb_getI (C := R_Machine) (T := F_Machine) (N := 18) hx hb 7 15 hts fin_Machine hown hR hk1 (by decide) rfl (by decide) rfl (hts _ m_6a595805) (fun _ h9 => h9) (xb_d D_Machine_chosenLabel 35 rfl) ?_
  refine lv_iconst (v := 2) hx hb (xb_d D_Machine_chosenLabel 36 rfl) (by decide) ?_
  refine lv_iadd hx hb (xb_d D_Machine_chosenLabel 37 rfl) ?_
  refine lv_iload_n hx hb (xb_d D_Machine_chosenLabel 38 rfl) rfl (lv_at hl 0 rfl) ?_
  refine lv_iadd hx hb (xb_d D_Machine_chosenLabel 39 rfl) ?_
  obtain ⟨hk4, hw⟩ := hw
  obtain ⟨hi3, hw⟩ := hw
  refine xb_iald hx hb hR hk4 hi3 (xb_d D_Machine_chosenLabel 40 rfl) ?_
  exact xb_iret hx hb hr hlocks (show k ≤ MC by omega) (show n ≤ MS by omega) hE hR hS (xb_d D_Machine_chosenLabel 41 rfl) hw

set_option maxHeartbeats 4000000 in
set_option maxRecDepth 100000 in
theorem ok_Machine_chosenLabel (l : Launch) (hfl : l.flags = pinnedFlags ++ [noTraceFlag]) (D : va_G) (A : Nat → Prop) (σ : Nat) (x0 : Nat) (h : xb_H) (Qr : Int32 → xb_H → Prop) (hw : w_Machine_chosenLabel x0 h Qr) : xt_Met l y_Machine_chosenLabel [.code y_Machine_chosenLabel b_Machine_chosenLabel 3 (some .int)] (xb_rm 2 0 0) (xb_Pc D A σ h [.ref x0]) (xb_Qc D A h (fun v h => ∃ r, v = some (.int r) ∧ Qr r h) (fun _ _ => False)) 0 0 A := by
  refine xb_ofAm (cc := b_Machine_chosenLabel) (by decide) (Nat.le_of_ble_eq_true rfl) ?_
  unfold w_Machine_chosenLabel at hw
  show xb_am l D A σ 2 0 0 h (fun v h => ∃ r, v = some (.int r) ∧ Qr r h) (fun _ _ => False) y_Machine_chosenLabel.cls y_Machine_chosenLabel.name b_Machine_chosenLabel 3 ([] : List ExceptionTableEntry) (some .int) 0 [(0, .ref x0)] [] h 0 0
  obtain ⟨MC, hMC⟩ : ∃ x, x = 0 := ⟨_, rfl⟩
  obtain ⟨MS, hMS⟩ : ∃ x, x = 0 := ⟨_, rfl⟩
  rw [show xb_am l D A σ 2 0 0 = xb_am l D A σ 2 MC MS by rw [hMC, hMS]]
  obtain ⟨h0, hh0⟩ : ∃ x, x = h := ⟨_, rfl⟩
  rw [show xb_am l D A σ 2 MC MS h = xb_am l D A σ 2 MC MS h0 by rw [hh0]]
  intro p e s m args below meth c hC H locs ls k n hE hl hR hS hk hn
  obtain ⟨hx, hb, hown, hlocks, htab, hml, hr, hB, hA, hnm⟩ := id hC
  have hts := hB.1.1.at args
  refine lv_aload_n hx hb (xb_d D_Machine_chosenLabel 0 rfl) rfl (lv_at hl 0 rfl) ?_
  refine lv_dup hx hb (xb_d D_Machine_chosenLabel 1 rfl) rfl ?_
  obtain ⟨hk1, hw⟩ := hw
  refine xb_getI (C := R_Machine) (T := F_Machine) (N := 18) hx hb 7 10 hts fin_Machine hown hR hk1 (by decide) rfl (by decide) rfl (hts _ m_79cf62f6) (fun _ h9 => h9) (xb_d D_Machine_chosenLabel 2 rfl) ?_
  refine lv_iconst (v := 1) hx hb (xb_d D_Machine_chosenLabel 3 rfl) (by decide) ?_
  refine lv_isub hx hb (xb_d D_Machine_chosenLabel 4 rfl) ?_
  refine xb_putI (C := R_Machine) (T := F_Machine) (N := 18) (ty := .int) (x := ((xb_i h x0 10) - 1)) hx hb 7 10 hts fin_Machine t_Machine t_Machine_ok n_Machine hown hR hS hk1 (by decide) rfl (by decide) rfl (hts _ m_79cf62f6) (fun _ h9 => h9) rfl (by decide +kernel) rfl rfl (xb_d D_Machine_chosenLabel 5 rfl) (fun H locs hR hS => ?_)
  obtain ⟨h2, eh2⟩ : ∃ x : xb_H, x = xb_I h x0 10 ((xb_i h x0 10) - 1) := ⟨_, rfl⟩
  rw [← eh2] at hR
  have hw := hw h2 eh2
  have hE : xb_ext h0 h2 := by rw [eh2]; exact hE
  refine lv_aload_n hx hb (xb_d D_Machine_chosenLabel 6 rfl) rfl (lv_at hl 0 rfl) ?_
  have hk1 : xb_k h2 x0 = 8 := by rw [eh2]; exact hk1
  refine xb_getP (C := R_Machine) (T := F_Machine) (N := 18) hx hb 7 14 hts fin_Machine hown hR hk1 (by decide) rfl (by decide) rfl (hts _ m_8f763f86) (fun _ h9 => h9) (xb_d D_Machine_chosenLabel 7 rfl) ?_
  obtain ⟨b3, eb3, hw⟩ := hw
  refine xb_some eb3 ?_
  refine lv_aload_n hx hb (xb_d D_Machine_chosenLabel 8 rfl) rfl (lv_at hl 0 rfl) ?_
  refine xb_getI (C := R_Machine) (T := F_Machine) (N := 18) hx hb 7 15 hts fin_Machine hown hR hk1 (by decide) rfl (by decide) rfl (hts _ m_6a595805) (fun _ h9 => h9) (xb_d D_Machine_chosenLabel 9 rfl) ?_
  refine lv_iconst (v := 1) hx hb (xb_d D_Machine_chosenLabel 10 rfl) (by decide) ?_
  refine lv_iadd hx hb (xb_d D_Machine_chosenLabel 11 rfl) ?_
  obtain ⟨hk5, hw⟩ := hw
  obtain ⟨hi4, hw⟩ := hw
  refine xb_iald hx hb hR hk5 hi4 (xb_d D_Machine_chosenLabel 12 rfl) ?_
  obtain ⟨v6, ev6⟩ : ∃ x : Int32, x = (xb_i h2 b3 (Int32.toNatClampNeg ((xb_i h2 x0 15) + 1))) := ⟨_, rfl⟩
  have hw := hw v6 ev6
  refine xt_numi (y := v6) ev6.symm ?_
  refine lv_istore_n hx hb (xb_d D_Machine_chosenLabel 13 rfl) rfl hl (by decide) rfl (fun ls hl => ?_)
  have hl : lv_has ls 3 [(1, .int v6), (0, .ref x0)] := hl
  refine lv_aload_n hx hb (xb_d D_Machine_chosenLabel 14 rfl) rfl (lv_at hl 1 rfl) ?_
  refine xb_getP (C := R_Machine) (T := F_Machine) (N := 18) hx hb 7 9 hts fin_Machine hown hR hk1 (by decide) rfl (by decide) rfl (hts _ m_6904195b) (fun _ h9 => h9) (xb_d D_Machine_chosenLabel 15 rfl) ?_
  obtain ⟨b7, eb7, hw⟩ := hw
  refine xb_some eb7 ?_
  refine lv_aload_n hx hb (xb_d D_Machine_chosenLabel 16 rfl) rfl (lv_at hl 1 rfl) ?_
  refine xb_getI (C := R_Machine) (T := F_Machine) (N := 18) hx hb 7 10 hts fin_Machine hown hR hk1 (by decide) rfl (by decide) rfl (hts _ m_79cf62f6) (fun _ h9 => h9) (xb_d D_Machine_chosenLabel 17 rfl) ?_
  obtain ⟨hk9, hw⟩ := hw
  obtain ⟨hi8, hw⟩ := hw
  refine xb_lald hx hb hR hk9 hi8 (xb_d D_Machine_chosenLabel 18 rfl) ?_
  refine lv_iload_n hx hb (xb_d D_Machine_chosenLabel 19 rfl) rfl (lv_at hl 0 rfl) ?_
  refine lv_i2l hx hb (xb_d D_Machine_chosenLabel 20 rfl) rfl ?_
  refine xb_lc_ge (tgt := 50) hx hb (xb_d D_Machine_chosenLabel 21 rfl) (xb_d D_Machine_chosenLabel 22 rfl) rfl (fun hc10 => ?_) (fun hc10 => ?_)
  · have hw := hw.1 hc10
    refine lv_iload_n hx hb (xb_d D_Machine_chosenLabel 30 rfl) rfl (lv_at hl 0 rfl) ?_
    exact am_Machine_chosenLabel_L51 l hfl D A σ MC MS h0 Qr x0 v6 h2 hw p e s m args below meth c hC H locs ls k n hE (lv_sub hl [1] rfl) hR hS (by omega) (by omega)
  · have hw := hw.2 hc10
    refine lv_aload_n hx hb (xb_d D_Machine_chosenLabel 23 rfl) rfl (lv_at hl 1 rfl) ?_
    refine xb_getP (C := R_Machine) (T := F_Machine) (N := 18) hx hb 7 9 hts fin_Machine hown hR hk1 (by decide) rfl (by decide) rfl (hts _ m_6904195b) (fun _ h9 => h9) (xb_d D_Machine_chosenLabel 24 rfl) ?_
    obtain ⟨b11, eb11, hw⟩ := hw
    refine xb_some eb11 ?_
    refine lv_aload_n hx hb (xb_d D_Machine_chosenLabel 25 rfl) rfl (lv_at hl 1 rfl) ?_
    refine xb_getI (C := R_Machine) (T := F_Machine) (N := 18) hx hb 7 10 hts fin_Machine hown hR hk1 (by decide) rfl (by decide) rfl (hts _ m_79cf62f6) (fun _ h9 => h9) (xb_d D_Machine_chosenLabel 26 rfl) ?_
    obtain ⟨hk13, hw⟩ := hw
    obtain ⟨hi12, hw⟩ := hw
    refine xb_lald hx hb hR hk13 hi12 (xb_d D_Machine_chosenLabel 27 rfl) ?_
    refine lv_l2i hx hb (xb_d D_Machine_chosenLabel 28 rfl) rfl ?_
    refine lv_goto (tgt := 51) hx hb (xb_d D_Machine_chosenLabel 29 rfl) rfl ?_
    exact am_Machine_chosenLabel_L51 l hfl D A σ MC MS h0 Qr x0 (Int64.toInt32 (xb_l h2 b11 (Int32.toNatClampNeg (xb_i h2 x0 10)))) h2 hw p e s m args below meth c hC H locs ls k n hE (lv_sub hl [1] rfl) hR hS (by omega) (by omega)

theorem m_436e7c8c : (.fieldLink "StackHost$Machine" 42 "StackHost$Machine" "world" "LStackHost$World;" : Cond) ∈ xt_tbl := xt_in (xt_t2 (List.mem_of_getElem? (i := 21) (by decide +kernel))) (by decide +kernel)
theorem m_1a65c70f : (.fieldLink "StackHost$Machine" 182 "StackHost$World" "instances" "[LStackHost$Instance;" : Cond) ∈ xt_tbl := xt_in (xt_t1 (List.mem_of_getElem? (i := 166) (by decide +kernel))) (by decide +kernel)
theorem m_ca1fb183 : (.fieldLink "StackHost$Machine" 39 "StackHost$Machine" "frames" "[I" : Cond) ∈ xt_tbl := xt_in (xt_t2 (List.mem_of_getElem? (i := 36) (by decide +kernel))) (by decide +kernel)
theorem m_a347cb26 : (.fieldLink "StackHost$Machine" 117 "StackHost$Machine" "instance" "LStackHost$Instance;" : Cond) ∈ xt_tbl := xt_in (xt_t2 (List.mem_of_getElem? (i := 37) (by decide +kernel))) (by decide +kernel)
theorem m_142b55ed : (.fieldLink "StackHost$Machine" 139 "StackHost$Instance" "module" "LStackHost$StackModule;" : Cond) ∈ xt_tbl := xt_in (xt_t7 (List.mem_of_getElem? (i := 6) (by decide +kernel))) (by decide +kernel)
theorem m_eb12b798 : (.fieldLink "StackHost$Machine" 186 "StackHost$StackModule" "code" "[B" : Cond) ∈ xt_tbl := xt_in (xt_t3 (List.mem_of_getElem? (i := 50) (by decide +kernel))) (by decide +kernel)
theorem m_a6a0f666 : (.fieldLink "StackHost$Machine" 104 "StackHost$Machine" "code" "[B" : Cond) ∈ xt_tbl := xt_in (xt_t2 (List.mem_of_getElem? (i := 38) (by decide +kernel))) (by decide +kernel)
theorem m_db07f6c9 : (.fieldLink "StackHost$Machine" 187 "StackHost$StackModule" "notes" "[I" : Cond) ∈ xt_tbl := xt_in (xt_t3 (List.mem_of_getElem? (i := 54) (by decide +kernel))) (by decide +kernel)
theorem m_502dfafe : (.fieldLink "StackHost$Machine" 188 "StackHost$Machine" "base" "I" : Cond) ∈ xt_tbl := xt_in (xt_t2 (List.mem_of_getElem? (i := 41) (by decide +kernel))) (by decide +kernel)
theorem m_5027e2c0 : (.fieldLink "StackHost$Machine" 191 "StackHost$Machine" "operands" "I" : Cond) ∈ xt_tbl := xt_in (xt_t2 (List.mem_of_getElem? (i := 42) (by decide +kernel))) (by decide +kernel)
set_option maxRecDepth 100000 in
def T_Machine_enter : List (Nat × Instr × Nat) := [(0, .aload_n 0, 1), (1, .aload_n 0, 1), (2, .getfield 42, 3), (5, .getfield 182, 3), (8, .aload_n 0, 1), (9, .getfield 39, 3), (12, .iload_n 1, 1), (13, .iconst 0, 1), (14, .iadd, 1), (15, .iaload, 1), (16, .aaload, 1), (17, .putfield 117, 3), (20, .aload_n 0, 1), (21, .aload_n 0, 1), (22, .getfield 117, 3), (25, .getfield 139, 3), (28, .getfield 186, 3), (31, .putfield 104, 3), (34, .aload_n 0, 1), (35, .aload_n 0, 1), (36, .getfield 117, 3), (39, .getfield 139, 3), (42, .getfield 187, 3), (45, .putfield 111, 3), (48, .aload_n 0, 1), (49, .aload_n 0, 1), (50, .getfield 39, 3), (53, .iload_n 1, 1), (54, .iconst 3, 1), (55, .iadd, 1), (56, .iaload, 1), (57, .putfield 188, 3), (60, .aload_n 0, 1), (61, .aload_n 0, 1), (62, .getfield 39, 3), (65, .iload_n 1, 1), (66, .iconst 4, 1), (67, .iadd, 1), (68, .iaload, 1), (69, .putfield 191, 3), (72, .return_, 1)]
theorem D_Machine_enter : ∀ q ∈ T_Machine_enter, decode b_Machine_enter q.1 = .ok (q.2.1, q.2.2) := by decide +kernel
def w_Machine_enter (x0 : Nat) (x1 : Int32) (h : xb_H) (Qr : xb_H → Prop) : Prop :=
    xb_k h x0 = 8 ∧ ∃ b2 : Nat, (xb_r h x0 0) = some b2 ∧ xb_k h b2 = 7 ∧ ∃ b4 : Nat, (xb_r h b2 0) = some b4 ∧ ∃ b5 : Nat, (xb_r h x0 11) = some b5 ∧ xb_k h b5 = 102 ∧ vp_in (x1 + 0) (xb_n h b5) ∧ xb_k h b4 = 105 ∧ vp_in (xb_i h b5 (Int32.toNatClampNeg (x1 + 0))) (xb_n h b4) ∧ ∃ b10 : Nat, (xb_r h b4 (Int32.toNatClampNeg (xb_i h b5 (Int32.toNatClampNeg (x1 + 0))))) = some b10 ∧ ∀ h11 : xb_H, h11 = xb_P h x0 12 (some b10) → ∃ b12 : Nat, (xb_r h11 x0 12) = some b12 ∧ xb_k h11 b12 = 11 ∧ ∃ b14 : Nat, (xb_r h11 b12 1) = some b14 ∧ xb_k h11 b14 = 3 ∧ ∃ b16 : Nat, (xb_r h11 b14 0) = some b16 ∧ ∀ h17 : xb_H, h17 = xb_P h11 x0 13 (some b16) → ∃ b18 : Nat, (xb_r h17 x0 12) = some b18 ∧ xb_k h17 b18 = 11 ∧ ∃ b20 : Nat, (xb_r h17 b18 1) = some b20 ∧ xb_k h17 b20 = 3 ∧ ∃ b22 : Nat, (xb_r h17 b20 1) = some b22 ∧ ∀ h23 : xb_H, h23 = xb_P h17 x0 14 (some b22) → ∃ b24 : Nat, (xb_r h23 x0 11) = some b24 ∧ xb_k h23 b24 = 102 ∧ vp_in (x1 + 3) (xb_n h23 b24) ∧ ∀ h27 : xb_H, h27 = xb_I h23 x0 16 (xb_i h23 b24 (Int32.toNatClampNeg (x1 + 3))) → ∃ b28 : Nat, (xb_r h27 x0 11) = some b28 ∧ xb_k h27 b28 = 102 ∧ vp_in (x1 + 4) (xb_n h27 b28) ∧ ∀ h31 : xb_H, h31 = xb_I h27 x0 17 (xb_i h27 b28 (Int32.toNatClampNeg (x1 + 4))) → Qr h31

set_option maxHeartbeats 4000000 in
set_option maxRecDepth 100000 in
theorem ok_Machine_enter (l : Launch) (hfl : l.flags = pinnedFlags ++ [noTraceFlag]) (D : va_G) (A : Nat → Prop) (σ : Nat) (x0 : Nat) (x1 : Int32) (h : xb_H) (Qr : xb_H → Prop) (hw : w_Machine_enter x0 x1 h Qr) : xt_Met l y_Machine_enter [.code y_Machine_enter b_Machine_enter 2 none] (xb_rm 2 0 0) (xb_Pc D A σ h [.ref x0, .int x1]) (xb_Qc D A h (fun v h => v = none ∧ Qr h) (fun _ _ => False)) 0 0 A := by
  refine xb_ofAm (cc := b_Machine_enter) (by decide) (Nat.le_of_ble_eq_true rfl) ?_
  unfold w_Machine_enter at hw
  show xb_am l D A σ 2 0 0 h (fun v h => v = none ∧ Qr h) (fun _ _ => False) y_Machine_enter.cls y_Machine_enter.name b_Machine_enter 2 ([] : List ExceptionTableEntry) none 0 [(0, .ref x0), (1, .int x1)] [] h 0 0
  obtain ⟨MC, hMC⟩ : ∃ x, x = 0 := ⟨_, rfl⟩
  obtain ⟨MS, hMS⟩ : ∃ x, x = 0 := ⟨_, rfl⟩
  rw [show xb_am l D A σ 2 0 0 = xb_am l D A σ 2 MC MS by rw [hMC, hMS]]
  obtain ⟨h0, hh0⟩ : ∃ x, x = h := ⟨_, rfl⟩
  rw [show xb_am l D A σ 2 MC MS h = xb_am l D A σ 2 MC MS h0 by rw [hh0]]
  intro p e s m args below meth c hC H locs ls k n hE hl hR hS hk hn
  obtain ⟨hx, hb, hown, hlocks, htab, hml, hr, hB, hA, hnm⟩ := id hC
  have hts := hB.1.1.at args
  refine lv_aload_n hx hb (xb_d D_Machine_enter 0 rfl) rfl (lv_at hl 0 rfl) ?_
  refine lv_aload_n hx hb (xb_d D_Machine_enter 1 rfl) rfl (lv_at hl 0 rfl) ?_
  obtain ⟨hk1, hw⟩ := hw
  refine xb_getP (C := R_Machine) (T := F_Machine) (N := 18) hx hb 7 0 hts fin_Machine hown hR hk1 (by decide) rfl (by decide) rfl (hts _ m_436e7c8c) (fun _ h9 => h9) (xb_d D_Machine_enter 2 rfl) ?_
  obtain ⟨b2, eb2, hw⟩ := hw
  refine xb_some eb2 ?_
  obtain ⟨hk3, hw⟩ := hw
  refine xb_getP (C := R_World) (T := F_World) (N := 16) hx hb 6 0 hts fin_World hown hR hk3 (by decide) rfl (by decide) rfl (hts _ m_1a65c70f) (fun _ h9 => h9) (xb_d D_Machine_enter 3 rfl) ?_
  obtain ⟨b4, eb4, hw⟩ := hw
  refine xb_some eb4 ?_
  refine lv_aload_n hx hb (xb_d D_Machine_enter 4 rfl) rfl (lv_at hl 0 rfl) ?_
  refine xb_getP (C := R_Machine) (T := F_Machine) (N := 18) hx hb 7 11 hts fin_Machine hown hR hk1 (by decide) rfl (by decide) rfl (hts _ m_ca1fb183) (fun _ h9 => h9) (xb_d D_Machine_enter 5 rfl) ?_
  obtain ⟨b5, eb5, hw⟩ := hw
  refine xb_some eb5 ?_
  refine lv_iload_n hx hb (xb_d D_Machine_enter 6 rfl) rfl (lv_at hl 1 rfl) ?_
  refine lv_iconst (v := 0) hx hb (xb_d D_Machine_enter 7 rfl) (by decide) ?_
  refine lv_iadd hx hb (xb_d D_Machine_enter 8 rfl) ?_
  obtain ⟨hk7, hw⟩ := hw
  obtain ⟨hi6, hw⟩ := hw
  refine xb_iald hx hb hR hk7 hi6 (xb_d D_Machine_enter 9 rfl) ?_
  obtain ⟨hk9, hw⟩ := hw
  obtain ⟨hi8, hw⟩ := hw
  refine xb_aald105 hx hb hR hk9 hi8 (xb_d D_Machine_enter 10 rfl) ?_
  obtain ⟨b10, eb10, hw⟩ := hw
  refine xb_some eb10 ?_
  refine xb_putP (C := R_Machine) (T := F_Machine) (N := 18) (ty := .object "StackHost$Instance") (x := (some b10)) hx hb 7 12 hts fin_Machine t_Machine t_Machine_ok n_Machine hown hR hS hk1 (by decide) rfl (by decide) rfl (hts _ m_a347cb26) (fun _ h9 => h9) rfl (by decide +kernel) (xb_pnO _ _).1 (xb_pnO _ _).2 (xb_d D_Machine_enter 11 rfl) (fun H locs hR hS => ?_)
  obtain ⟨h11, eh11⟩ : ∃ x : xb_H, x = xb_P h x0 12 (some b10) := ⟨_, rfl⟩
  rw [← eh11] at hR
  have hw := hw h11 eh11
  have hE : xb_ext h0 h11 := by rw [eh11]; exact hE
  refine lv_aload_n hx hb (xb_d D_Machine_enter 12 rfl) rfl (lv_at hl 0 rfl) ?_
  refine lv_aload_n hx hb (xb_d D_Machine_enter 13 rfl) rfl (lv_at hl 0 rfl) ?_
  have hk1 : xb_k h11 x0 = 8 := by rw [eh11]; exact hk1
  refine xb_getP (C := R_Machine) (T := F_Machine) (N := 18) hx hb 7 12 hts fin_Machine hown hR hk1 (by decide) rfl (by decide) rfl (hts _ m_a347cb26) (fun _ h9 => h9) (xb_d D_Machine_enter 14 rfl) ?_
  obtain ⟨b12, eb12, hw⟩ := hw
  refine xb_some eb12 ?_
  obtain ⟨hk13, hw⟩ := hw
  refine xb_getP (C := R_Instance) (T := F_Instance) (N := 8) hx hb 10 1 hts fin_Instance hown hR hk13 (by decide) rfl (by decide) rfl (hts _ m_142b55ed) (fun _ h9 => h9) (xb_d D_Machine_enter 15 rfl) ?_
  obtain ⟨b14, eb14, hw⟩ := hw
  refine xb_some eb14 ?_
  obtain ⟨hk15, hw⟩ := hw
  refine xb_getP (C := R_StackModule) (T := F_StackModule) (N := 19) hx hb 2 0 hts fin_StackModule hown hR hk15 (by decide) rfl (by decide) rfl (hts _ m_eb12b798) (fun _ h9 => h9) (xb_d D_Machine_enter 16 rfl) ?_
  obtain ⟨b16, eb16, hw⟩ := hw
  refine xb_some eb16 ?_
  refine xb_putP (C := R_Machine) (T := F_Machine) (N := 18) (ty := .array .byte) (x := (some b16)) hx hb 7 13 hts fin_Machine t_Machine t_Machine_ok n_Machine hown hR hS hk1 (by decide) rfl (by decide) rfl (hts _ m_a6a0f666) (fun _ h9 => h9) rfl (by decide +kernel) (xb_pnA _ _).1 (xb_pnA _ _).2 (xb_d D_Machine_enter 17 rfl) (fun H locs hR hS => ?_)
  obtain ⟨h17, eh17⟩ : ∃ x : xb_H, x = xb_P h11 x0 13 (some b16) := ⟨_, rfl⟩
  rw [← eh17] at hR
  have hw := hw h17 eh17
  have hE : xb_ext h0 h17 := by rw [eh17]; exact hE
  refine lv_aload_n hx hb (xb_d D_Machine_enter 18 rfl) rfl (lv_at hl 0 rfl) ?_
  refine lv_aload_n hx hb (xb_d D_Machine_enter 19 rfl) rfl (lv_at hl 0 rfl) ?_
  have hk1 : xb_k h17 x0 = 8 := by rw [eh17]; exact hk1
  refine xb_getP (C := R_Machine) (T := F_Machine) (N := 18) hx hb 7 12 hts fin_Machine hown hR hk1 (by decide) rfl (by decide) rfl (hts _ m_a347cb26) (fun _ h9 => h9) (xb_d D_Machine_enter 20 rfl) ?_
  obtain ⟨b18, eb18, hw⟩ := hw
  refine xb_some eb18 ?_
  obtain ⟨hk19, hw⟩ := hw
  refine xb_getP (C := R_Instance) (T := F_Instance) (N := 8) hx hb 10 1 hts fin_Instance hown hR hk19 (by decide) rfl (by decide) rfl (hts _ m_142b55ed) (fun _ h9 => h9) (xb_d D_Machine_enter 21 rfl) ?_
  obtain ⟨b20, eb20, hw⟩ := hw
  refine xb_some eb20 ?_
  obtain ⟨hk21, hw⟩ := hw
  refine xb_getP (C := R_StackModule) (T := F_StackModule) (N := 19) hx hb 2 1 hts fin_StackModule hown hR hk21 (by decide) rfl (by decide) rfl (hts _ m_db07f6c9) (fun _ h9 => h9) (xb_d D_Machine_enter 22 rfl) ?_
  obtain ⟨b22, eb22, hw⟩ := hw
  refine xb_some eb22 ?_
  refine xb_putP (C := R_Machine) (T := F_Machine) (N := 18) (ty := .array .int) (x := (some b22)) hx hb 7 14 hts fin_Machine t_Machine t_Machine_ok n_Machine hown hR hS hk1 (by decide) rfl (by decide) rfl (hts _ m_8f763f86) (fun _ h9 => h9) rfl (by decide +kernel) (xb_pnA _ _).1 (xb_pnA _ _).2 (xb_d D_Machine_enter 23 rfl) (fun H locs hR hS => ?_)
  obtain ⟨h23, eh23⟩ : ∃ x : xb_H, x = xb_P h17 x0 14 (some b22) := ⟨_, rfl⟩
  rw [← eh23] at hR
  have hw := hw h23 eh23
  have hE : xb_ext h0 h23 := by rw [eh23]; exact hE
  refine lv_aload_n hx hb (xb_d D_Machine_enter 24 rfl) rfl (lv_at hl 0 rfl) ?_
  refine lv_aload_n hx hb (xb_d D_Machine_enter 25 rfl) rfl (lv_at hl 0 rfl) ?_
  have hk1 : xb_k h23 x0 = 8 := by rw [eh23]; exact hk1
  refine xb_getP (C := R_Machine) (T := F_Machine) (N := 18) hx hb 7 11 hts fin_Machine hown hR hk1 (by decide) rfl (by decide) rfl (hts _ m_ca1fb183) (fun _ h9 => h9) (xb_d D_Machine_enter 26 rfl) ?_
  obtain ⟨b24, eb24, hw⟩ := hw
  refine xb_some eb24 ?_
  refine lv_iload_n hx hb (xb_d D_Machine_enter 27 rfl) rfl (lv_at hl 1 rfl) ?_
  refine lv_iconst (v := 3) hx hb (xb_d D_Machine_enter 28 rfl) (by decide) ?_
  refine lv_iadd hx hb (xb_d D_Machine_enter 29 rfl) ?_
  obtain ⟨hk26, hw⟩ := hw
  obtain ⟨hi25, hw⟩ := hw
  refine xb_iald hx hb hR hk26 hi25 (xb_d D_Machine_enter 30 rfl) ?_
  refine xb_putI (C := R_Machine) (T := F_Machine) (N := 18) (ty := .int) (x := (xb_i h23 b24 (Int32.toNatClampNeg (x1 + 3)))) hx hb 7 16 hts fin_Machine t_Machine t_Machine_ok n_Machine hown hR hS hk1 (by decide) rfl (by decide) rfl (hts _ m_502dfafe) (fun _ h9 => h9) rfl (by decide +kernel) rfl rfl (xb_d D_Machine_enter 31 rfl) (fun H locs hR hS => ?_)
  obtain ⟨h27, eh27⟩ : ∃ x : xb_H, x = xb_I h23 x0 16 (xb_i h23 b24 (Int32.toNatClampNeg (x1 + 3))) := ⟨_, rfl⟩
  rw [← eh27] at hR
  have hw := hw h27 eh27
  have hE : xb_ext h0 h27 := by rw [eh27]; exact hE
  refine lv_aload_n hx hb (xb_d D_Machine_enter 32 rfl) rfl (lv_at hl 0 rfl) ?_
  refine lv_aload_n hx hb (xb_d D_Machine_enter 33 rfl) rfl (lv_at hl 0 rfl) ?_
  have hk1 : xb_k h27 x0 = 8 := by rw [eh27]; exact hk1
  refine xb_getP (C := R_Machine) (T := F_Machine) (N := 18) hx hb 7 11 hts fin_Machine hown hR hk1 (by decide) rfl (by decide) rfl (hts _ m_ca1fb183) (fun _ h9 => h9) (xb_d D_Machine_enter 34 rfl) ?_
  obtain ⟨b28, eb28, hw⟩ := hw
  refine xb_some eb28 ?_
  refine lv_iload_n hx hb (xb_d D_Machine_enter 35 rfl) rfl (lv_at hl 1 rfl) ?_
  refine lv_iconst (v := 4) hx hb (xb_d D_Machine_enter 36 rfl) (by decide) ?_
  refine lv_iadd hx hb (xb_d D_Machine_enter 37 rfl) ?_
  obtain ⟨hk30, hw⟩ := hw
  obtain ⟨hi29, hw⟩ := hw
  refine xb_iald hx hb hR hk30 hi29 (xb_d D_Machine_enter 38 rfl) ?_
  refine xb_putI (C := R_Machine) (T := F_Machine) (N := 18) (ty := .int) (x := (xb_i h27 b28 (Int32.toNatClampNeg (x1 + 4)))) hx hb 7 17 hts fin_Machine t_Machine t_Machine_ok n_Machine hown hR hS hk1 (by decide) rfl (by decide) rfl (hts _ m_5027e2c0) (fun _ h9 => h9) rfl (by decide +kernel) rfl rfl (xb_d D_Machine_enter 39 rfl) (fun H locs hR hS => ?_)
  obtain ⟨h31, eh31⟩ : ∃ x : xb_H, x = xb_I h27 x0 17 (xb_i h27 b28 (Int32.toNatClampNeg (x1 + 4))) := ⟨_, rfl⟩
  rw [← eh31] at hR
  have hw := hw h31 eh31
  have hE : xb_ext h0 h31 := by rw [eh31]; exact hE
  exact xb_vret hx hb hr hlocks (show k ≤ MC by omega) (show n ≤ MS by omega) hE hR hS (xb_d D_Machine_enter 40 rfl) hw

theorem m_cb912e58 : (.fieldLink "StackHost$Machine" 90 "StackHost$Machine" "trapped" "Z" : Cond) ∈ xt_tbl := xt_in (xt_t2 (List.mem_of_getElem? (i := 32) (by decide +kernel))) (by decide +kernel)
theorem m_731e5d01 : (.fieldLink "StackHost$Machine" 27 "StackHost$Machine" "latestTrap" "[I" : Cond) ∈ xt_tbl := xt_in (xt_t2 (List.mem_of_getElem? (i := 30) (by decide +kernel))) (by decide +kernel)
theorem m_0e2a43da : (.fieldLink "StackHost$Machine" 121 "StackHost$Instance" "number" "I" : Cond) ∈ xt_tbl := xt_in (xt_t7 (List.mem_of_getElem? (i := 1) (by decide +kernel))) (by decide +kernel)
set_option maxRecDepth 100000 in
def T_Machine_fall : List (Nat × Instr × Nat) := [(0, .aload_n 0, 1), (1, .getfield 50, 3), (4, .ifCond .le 7, 3), (7, .iconst 1, 1), (8, .goto 4, 3), (11, .iconst 0, 1), (12, .istore_n 2, 1), (13, .aload_n 0, 1), (14, .getfield 27, 3), (17, .iconst 0, 1), (18, .iload_n 1, 1), (19, .iastore, 1), (20, .aload_n 0, 1), (21, .getfield 27, 3), (24, .iconst 1, 1), (25, .iload_n 2, 1), (26, .ifCond .eq 13, 3), (29, .aload_n 0, 1), (30, .getfield 117, 3), (33, .getfield 121, 3), (36, .goto 4, 3), (39, .iconst (-1), 1), (40, .iastore, 1), (41, .aload_n 0, 1), (42, .getfield 27, 3), (45, .iconst 2, 1), (46, .iload_n 2, 1), (47, .ifCond .eq 21, 3), (50, .aload_n 0, 1), (51, .getfield 39, 3), (54, .aload_n 0, 1), (55, .getfield 50, 3), (58, .iconst 1, 1), (59, .isub, 1), (60, .iconst 5, 1), (61, .imul, 1), (62, .iconst 1, 1), (63, .iadd, 1), (64, .iaload, 1), (65, .goto 4, 3), (68, .iconst (-1), 1), (69, .iastore, 1), (70, .aload_n 0, 1), (71, .getfield 27, 3), (74, .iconst 3, 1), (75, .iload_n 2, 1), (76, .ifCond .eq 10, 3), (79, .aload_n 0, 1), (80, .getfield 108, 3), (83, .goto 4, 3), (86, .iconst (-1), 1), (87, .iastore, 1), (88, .aload_n 0, 1), (89, .iconst 1, 1), (90, .putfield 90, 3), (93, .aload_n 0, 1), (94, .iconst 0, 1), (95, .putfield 46, 3), (98, .aload_n 0, 1), (99, .iconst 0, 1), (100, .putfield 50, 3), (103, .return_, 1)]
theorem D_Machine_fall : ∀ q ∈ T_Machine_fall, decode b_Machine_fall q.1 = .ok (q.2.1, q.2.2) := by decide +kernel
def w_Machine_fall_L87 (Qr : xb_H → Prop) (x0 : Nat) (y0 : Int32) (y1 : Int32) (y2 : Nat) (h : xb_H) : Prop :=
    xb_k h y2 = 102 ∧ vp_in y1 (xb_n h y2) ∧ ∀ h3 : xb_H, h3 = xb_I h y2 (Int32.toNatClampNeg y1) y0 → xb_k h3 x0 = 8 ∧ ∀ h5 : xb_H, h5 = xb_I h3 x0 7 1 → ∀ h6 : xb_H, h6 = xb_I h5 x0 3 0 → ∀ h7 : xb_H, h7 = xb_I h6 x0 4 0 → Qr h7

def w_Machine_fall_L69 (Qr : xb_H → Prop) (x0 : Nat) (x2 : Int32) (y0 : Int32) (y1 : Int32) (y2 : Nat) (h : xb_H) : Prop :=
    xb_k h y2 = 102 ∧ vp_in y1 (xb_n h y2) ∧ ∀ h3 : xb_H, h3 = xb_I h y2 (Int32.toNatClampNeg y1) y0 → xb_k h3 x0 = 8 ∧ ∃ b5 : Nat, (xb_r h3 x0 6) = some b5 ∧ ((x2 = (0 : Int32) → w_Machine_fall_L87 Qr x0 (-1) 3 b5 h3) ∧ (¬ x2 = (0 : Int32) → w_Machine_fall_L87 Qr x0 (xb_i h3 x0 15) 3 b5 h3))

def w_Machine_fall_L40 (Qr : xb_H → Prop) (x0 : Nat) (x2 : Int32) (y0 : Int32) (y1 : Int32) (y2 : Nat) (h : xb_H) : Prop :=
    xb_k h y2 = 102 ∧ vp_in y1 (xb_n h y2) ∧ ∀ h3 : xb_H, h3 = xb_I h y2 (Int32.toNatClampNeg y1) y0 → xb_k h3 x0 = 8 ∧ ∃ b5 : Nat, (xb_r h3 x0 6) = some b5 ∧ ((x2 = (0 : Int32) → w_Machine_fall_L69 Qr x0 x2 (-1) 2 b5 h3) ∧ (¬ x2 = (0 : Int32) → ∃ b7 : Nat, (xb_r h3 x0 11) = some b7 ∧ xb_k h3 b7 = 102 ∧ vp_in ((((xb_i h3 x0 4) - 1) * 5) + 1) (xb_n h3 b7) ∧ w_Machine_fall_L69 Qr x0 x2 (xb_i h3 b7 (Int32.toNatClampNeg ((((xb_i h3 x0 4) - 1) * 5) + 1))) 2 b5 h3))

def w_Machine_fall_L12 (Qr : xb_H → Prop) (x0 : Nat) (x1 : Int32) (y0 : Int32) (h : xb_H) : Prop :=
    xb_k h x0 = 8 ∧ ∃ b2 : Nat, (xb_r h x0 6) = some b2 ∧ xb_k h b2 = 102 ∧ vp_in 0 (xb_n h b2) ∧ ∀ h5 : xb_H, h5 = xb_I h b2 (Int32.toNatClampNeg 0) x1 → ∃ b6 : Nat, (xb_r h5 x0 6) = some b6 ∧ ((y0 = (0 : Int32) → w_Machine_fall_L40 Qr x0 y0 (-1) 1 b6 h5) ∧ (¬ y0 = (0 : Int32) → ∃ b8 : Nat, (xb_r h5 x0 12) = some b8 ∧ xb_k h5 b8 = 11 ∧ w_Machine_fall_L40 Qr x0 y0 (xb_i h5 b8 0) 1 b6 h5))

def w_Machine_fall (x0 : Nat) (x1 : Int32) (h : xb_H) (Qr : xb_H → Prop) : Prop :=
    xb_k h x0 = 8 ∧ (((xb_i h x0 4) ≤ (0 : Int32) → w_Machine_fall_L12 Qr x0 x1 0 h) ∧ (¬ (xb_i h x0 4) ≤ (0 : Int32) → w_Machine_fall_L12 Qr x0 x1 1 h))

set_option maxHeartbeats 4000000 in
set_option maxRecDepth 100000 in
theorem am_Machine_fall_L87 (l : Launch) (hfl : l.flags = pinnedFlags ++ [noTraceFlag]) (D : va_G) (A : Nat → Prop) (σ MC MS : Nat) (h0 : xb_H) (Qr : xb_H → Prop) (x0 : Nat) (y0 : Int32) (y1 : Int32) (y2 : Nat) (h : xb_H) (hw : w_Machine_fall_L87 Qr x0 y0 y1 y2 h) : xb_am l D A σ 2 MC MS h0 (fun v h => v = none ∧ Qr h) (fun _ _ => False) y_Machine_fall.cls y_Machine_fall.name b_Machine_fall 3 ([] : List ExceptionTableEntry) none 87 [(0, .ref x0)] [.int y0, .int y1, .ref y2] h 0 0 := by
  unfold w_Machine_fall_L87 at hw
  intro p e s m args below meth c hC H locs ls k n hE hl hR hS hk hn
  obtain ⟨hx, hb, hown, hlocks, htab, hml, hr, hB, hA, hnm⟩ := id hC
  have hts := hB.1.1.at args
  obtain ⟨hk1, hw⟩ := hw
  obtain ⟨hi2, hw⟩ := hw
  refine xb_iast hx hb hR hS hk1 hi2 (xb_d D_Machine_fall 51 rfl) (fun H locs hR hS => ?_)
  obtain ⟨h3, eh3⟩ : ∃ x : xb_H, x = xb_I h y2 (Int32.toNatClampNeg y1) y0 := ⟨_, rfl⟩
  rw [← eh3] at hR
  have hw := hw h3 eh3
  have hE : xb_ext h0 h3 := by rw [eh3]; exact hE
  refine lv_aload_n hx hb (xb_d D_Machine_fall 52 rfl) rfl (lv_at hl 0 rfl) ?_
  refine lv_iconst (v := 1) hx hb (xb_d D_Machine_fall 53 rfl) (by decide) ?_
  obtain ⟨hk4, hw⟩ := hw
  refine xb_putI (C := R_Machine) (T := F_Machine) (N := 18) (ty := .boolean) (x := 1) hx hb 7 7 hts fin_Machine t_Machine t_Machine_ok n_Machine hown hR hS hk4 (by decide) rfl (by decide) rfl (hts _ m_cb912e58) (fun _ h9 => h9) rfl (by decide +kernel) (by decide) (by decide) (xb_d D_Machine_fall 54 rfl) (fun H locs hR hS => ?_)
  obtain ⟨h5, eh5⟩ : ∃ x : xb_H, x = xb_I h3 x0 7 1 := ⟨_, rfl⟩
  rw [← eh5] at hR
  have hw := hw h5 eh5
  have hE : xb_ext h0 h5 := by rw [eh5]; exact hE
  refine lv_aload_n hx hb (xb_d D_Machine_fall 55 rfl) rfl (lv_at hl 0 rfl) ?_
  refine lv_iconst (v := 0) hx hb (xb_d D_Machine_fall 56 rfl) (by decide) ?_
  have hk4 : xb_k h5 x0 = 8 := by rw [eh5]; exact hk4
  refine xb_putI (C := R_Machine) (T := F_Machine) (N := 18) (ty := .boolean) (x := 0) hx hb 7 3 hts fin_Machine t_Machine t_Machine_ok n_Machine hown hR hS hk4 (by decide) rfl (by decide) rfl (hts _ m_87cf9501) (fun _ h9 => h9) rfl (by decide +kernel) (by decide) (by decide) (xb_d D_Machine_fall 57 rfl) (fun H locs hR hS => ?_)
  obtain ⟨h6, eh6⟩ : ∃ x : xb_H, x = xb_I h5 x0 3 0 := ⟨_, rfl⟩
  rw [← eh6] at hR
  have hw := hw h6 eh6
  have hE : xb_ext h0 h6 := by rw [eh6]; exact hE
  refine lv_aload_n hx hb (xb_d D_Machine_fall 58 rfl) rfl (lv_at hl 0 rfl) ?_
  refine lv_iconst (v := 0) hx hb (xb_d D_Machine_fall 59 rfl) (by decide) ?_
  have hk4 : xb_k h6 x0 = 8 := by rw [eh6]; exact hk4
  refine xb_putI (C := R_Machine) (T := F_Machine) (N := 18) (ty := .int) (x := 0) hx hb 7 4 hts fin_Machine t_Machine t_Machine_ok n_Machine hown hR hS hk4 (by decide) rfl (by decide) rfl (hts _ m_61f414b6) (fun _ h9 => h9) rfl (by decide +kernel) rfl rfl (xb_d D_Machine_fall 60 rfl) (fun H locs hR hS => ?_)
  obtain ⟨h7, eh7⟩ : ∃ x : xb_H, x = xb_I h6 x0 4 0 := ⟨_, rfl⟩
  rw [← eh7] at hR
  have hw := hw h7 eh7
  have hE : xb_ext h0 h7 := by rw [eh7]; exact hE
  exact xb_vret hx hb hr hlocks (show k ≤ MC by omega) (show n ≤ MS by omega) hE hR hS (xb_d D_Machine_fall 61 rfl) hw

set_option maxHeartbeats 4000000 in
set_option maxRecDepth 100000 in
theorem am_Machine_fall_L69 (l : Launch) (hfl : l.flags = pinnedFlags ++ [noTraceFlag]) (D : va_G) (A : Nat → Prop) (σ MC MS : Nat) (h0 : xb_H) (Qr : xb_H → Prop) (x0 : Nat) (x2 : Int32) (y0 : Int32) (y1 : Int32) (y2 : Nat) (h : xb_H) (hw : w_Machine_fall_L69 Qr x0 x2 y0 y1 y2 h) : xb_am l D A σ 2 MC MS h0 (fun v h => v = none ∧ Qr h) (fun _ _ => False) y_Machine_fall.cls y_Machine_fall.name b_Machine_fall 3 ([] : List ExceptionTableEntry) none 69 [(0, .ref x0), (2, .int x2)] [.int y0, .int y1, .ref y2] h 0 0 := by
  unfold w_Machine_fall_L69 at hw
  intro p e s m args below meth c hC H locs ls k n hE hl hR hS hk hn
  obtain ⟨hx, hb, hown, hlocks, htab, hml, hr, hB, hA, hnm⟩ := id hC
  have hts := hB.1.1.at args
  obtain ⟨hk1, hw⟩ := hw
  obtain ⟨hi2, hw⟩ := hw
  refine xb_iast hx hb hR hS hk1 hi2 (xb_d D_Machine_fall 41 rfl) (fun H locs hR hS => ?_)
  obtain ⟨h3, eh3⟩ : ∃ x : xb_H, x = xb_I h y2 (Int32.toNatClampNeg y1) y0 := ⟨_, rfl⟩
  rw [← eh3] at hR
  have hw := hw h3 eh3
  have hE : xb_ext h0 h3 := by rw [eh3]; exact hE
  refine lv_aload_n hx hb (xb_d D_Machine_fall 42 rfl) rfl (lv_at hl 0 rfl) ?_
  obtain ⟨hk4, hw⟩ := hw
  refine xb_getP (C := R_Machine) (T := F_Machine) (N := 18) hx hb 7 6 hts fin_Machine hown hR hk4 (by decide) rfl (by decide) rfl (hts _ m_731e5d01) (fun _ h9 => h9) (xb_d D_Machine_fall 43 rfl) ?_
  obtain ⟨b5, eb5, hw⟩ := hw
  refine xb_some eb5 ?_
  refine lv_iconst (v := 3) hx hb (xb_d D_Machine_fall 44 rfl) (by decide) ?_
  refine lv_iload_n hx hb (xb_d D_Machine_fall 45 rfl) rfl (lv_at hl 1 rfl) ?_
  refine lv_if_eq (tgt := 86) hx hb (xb_d D_Machine_fall 46 rfl) rfl (fun hc6 => ?_) (fun hc6 => ?_)
  · have hw := hw.1 hc6
    refine lv_iconst (v := (-1)) hx hb (xb_d D_Machine_fall 50 rfl) (by decide) ?_
    exact am_Machine_fall_L87 l hfl D A σ MC MS h0 Qr x0 (-1) 3 b5 h3 hw p e s m args below meth c hC H locs ls k n hE (lv_sub hl [0] rfl) hR hS (by omega) (by omega)
  · have hw := hw.2 hc6
    refine lv_aload_n hx hb (xb_d D_Machine_fall 47 rfl) rfl (lv_at hl 0 rfl) ?_
    refine xb_getI (C := R_Machine) (T := F_Machine) (N := 18) hx hb 7 15 hts fin_Machine hown hR hk4 (by decide) rfl (by decide) rfl (hts _ m_6a595805) (fun _ h9 => h9) (xb_d D_Machine_fall 48 rfl) ?_
    refine lv_goto (tgt := 87) hx hb (xb_d D_Machine_fall 49 rfl) rfl ?_
    exact am_Machine_fall_L87 l hfl D A σ MC MS h0 Qr x0 (xb_i h3 x0 15) 3 b5 h3 hw p e s m args below meth c hC H locs ls k n hE (lv_sub hl [0] rfl) hR hS (by omega) (by omega)

set_option maxHeartbeats 4000000 in
set_option maxRecDepth 100000 in
theorem am_Machine_fall_L40 (l : Launch) (hfl : l.flags = pinnedFlags ++ [noTraceFlag]) (D : va_G) (A : Nat → Prop) (σ MC MS : Nat) (h0 : xb_H) (Qr : xb_H → Prop) (x0 : Nat) (x2 : Int32) (y0 : Int32) (y1 : Int32) (y2 : Nat) (h : xb_H) (hw : w_Machine_fall_L40 Qr x0 x2 y0 y1 y2 h) : xb_am l D A σ 2 MC MS h0 (fun v h => v = none ∧ Qr h) (fun _ _ => False) y_Machine_fall.cls y_Machine_fall.name b_Machine_fall 3 ([] : List ExceptionTableEntry) none 40 [(0, .ref x0), (2, .int x2)] [.int y0, .int y1, .ref y2] h 0 0 := by
  unfold w_Machine_fall_L40 at hw
  intro p e s m args below meth c hC H locs ls k n hE hl hR hS hk hn
  obtain ⟨hx, hb, hown, hlocks, htab, hml, hr, hB, hA, hnm⟩ := id hC
  have hts := hB.1.1.at args
  obtain ⟨hk1, hw⟩ := hw
  obtain ⟨hi2, hw⟩ := hw
  refine xb_iast hx hb hR hS hk1 hi2 (xb_d D_Machine_fall 22 rfl) (fun H locs hR hS => ?_)
  obtain ⟨h3, eh3⟩ : ∃ x : xb_H, x = xb_I h y2 (Int32.toNatClampNeg y1) y0 := ⟨_, rfl⟩
  rw [← eh3] at hR
  have hw := hw h3 eh3
  have hE : xb_ext h0 h3 := by rw [eh3]; exact hE
  refine lv_aload_n hx hb (xb_d D_Machine_fall 23 rfl) rfl (lv_at hl 0 rfl) ?_
  obtain ⟨hk4, hw⟩ := hw
  refine xb_getP (C := R_Machine) (T := F_Machine) (N := 18) hx hb 7 6 hts fin_Machine hown hR hk4 (by decide) rfl (by decide) rfl (hts _ m_731e5d01) (fun _ h9 => h9) (xb_d D_Machine_fall 24 rfl) ?_
  obtain ⟨b5, eb5, hw⟩ := hw
  refine xb_some eb5 ?_
  refine lv_iconst (v := 2) hx hb (xb_d D_Machine_fall 25 rfl) (by decide) ?_
  refine lv_iload_n hx hb (xb_d D_Machine_fall 26 rfl) rfl (lv_at hl 1 rfl) ?_
  refine lv_if_eq (tgt := 68) hx hb (xb_d D_Machine_fall 27 rfl) rfl (fun hc6 => ?_) (fun hc6 => ?_)
  · have hw := hw.1 hc6
    refine lv_iconst (v := (-1)) hx hb (xb_d D_Machine_fall 40 rfl) (by decide) ?_
    exact am_Machine_fall_L69 l hfl D A σ MC MS h0 Qr x0 x2 (-1) 2 b5 h3 hw p e s m args below meth c hC H locs ls k n hE (lv_sub hl [0, 1] rfl) hR hS (by omega) (by omega)
  · have hw := hw.2 hc6
    refine lv_aload_n hx hb (xb_d D_Machine_fall 28 rfl) rfl (lv_at hl 0 rfl) ?_
    refine xb_getP (C := R_Machine) (T := F_Machine) (N := 18) hx hb 7 11 hts fin_Machine hown hR hk4 (by decide) rfl (by decide) rfl (hts _ m_ca1fb183) (fun _ h9 => h9) (xb_d D_Machine_fall 29 rfl) ?_
    obtain ⟨b7, eb7, hw⟩ := hw
    refine xb_some eb7 ?_
    refine lv_aload_n hx hb (xb_d D_Machine_fall 30 rfl) rfl (lv_at hl 0 rfl) ?_
    refine xb_getI (C := R_Machine) (T := F_Machine) (N := 18) hx hb 7 4 hts fin_Machine hown hR hk4 (by decide) rfl (by decide) rfl (hts _ m_61f414b6) (fun _ h9 => h9) (xb_d D_Machine_fall 31 rfl) ?_
    refine lv_iconst (v := 1) hx hb (xb_d D_Machine_fall 32 rfl) (by decide) ?_
    refine lv_isub hx hb (xb_d D_Machine_fall 33 rfl) ?_
    refine lv_iconst (v := 5) hx hb (xb_d D_Machine_fall 34 rfl) (by decide) ?_
    refine lv_imul hx hb (xb_d D_Machine_fall 35 rfl) ?_
    refine lv_iconst (v := 1) hx hb (xb_d D_Machine_fall 36 rfl) (by decide) ?_
    refine lv_iadd hx hb (xb_d D_Machine_fall 37 rfl) ?_
    obtain ⟨hk9, hw⟩ := hw
    obtain ⟨hi8, hw⟩ := hw
    refine xb_iald hx hb hR hk9 hi8 (xb_d D_Machine_fall 38 rfl) ?_
    refine lv_goto (tgt := 69) hx hb (xb_d D_Machine_fall 39 rfl) rfl ?_
    exact am_Machine_fall_L69 l hfl D A σ MC MS h0 Qr x0 x2 (xb_i h3 b7 (Int32.toNatClampNeg ((((xb_i h3 x0 4) - 1) * 5) + 1))) 2 b5 h3 hw p e s m args below meth c hC H locs ls k n hE (lv_sub hl [0, 1] rfl) hR hS (by omega) (by omega)

set_option maxHeartbeats 4000000 in
set_option maxRecDepth 100000 in
theorem am_Machine_fall_L12 (l : Launch) (hfl : l.flags = pinnedFlags ++ [noTraceFlag]) (D : va_G) (A : Nat → Prop) (σ MC MS : Nat) (h0 : xb_H) (Qr : xb_H → Prop) (x0 : Nat) (x1 : Int32) (y0 : Int32) (h : xb_H) (hw : w_Machine_fall_L12 Qr x0 x1 y0 h) : xb_am l D A σ 2 MC MS h0 (fun v h => v = none ∧ Qr h) (fun _ _ => False) y_Machine_fall.cls y_Machine_fall.name b_Machine_fall 3 ([] : List ExceptionTableEntry) none 12 [(0, .ref x0), (1, .int x1)] [.int y0] h 0 0 := by
  unfold w_Machine_fall_L12 at hw
  intro p e s m args below meth c hC H locs ls k n hE hl hR hS hk hn
  obtain ⟨hx, hb, hown, hlocks, htab, hml, hr, hB, hA, hnm⟩ := id hC
  have hts := hB.1.1.at args
  refine lv_istore_n hx hb (xb_d D_Machine_fall 6 rfl) rfl hl (by decide) rfl (fun ls hl => ?_)
  have hl : lv_has ls 3 [(2, .int y0), (0, .ref x0), (1, .int x1)] := hl
  refine lv_aload_n hx hb (xb_d D_Machine_fall 7 rfl) rfl (lv_at hl 1 rfl) ?_
  obtain ⟨hk1, hw⟩ := hw
  refine xb_getP (C := R_Machine) (T := F_Machine) (N := 18) hx hb 7 6 hts fin_Machine hown hR hk1 (by decide) rfl (by decide) rfl (hts _ m_731e5d01) (fun _ h9 => h9) (xb_d D_Machine_fall 8 rfl) ?_
  obtain ⟨b2, eb2, hw⟩ := hw
  refine xb_some eb2 ?_
  refine lv_iconst (v := 0) hx hb (xb_d D_Machine_fall 9 rfl) (by decide) ?_
  refine lv_iload_n hx hb (xb_d D_Machine_fall 10 rfl) rfl (lv_at hl 2 rfl) ?_
  obtain ⟨hk3, hw⟩ := hw
  obtain ⟨hi4, hw⟩ := hw
  refine xb_iast hx hb hR hS hk3 hi4 (xb_d D_Machine_fall 11 rfl) (fun H locs hR hS => ?_)
  obtain ⟨h5, eh5⟩ : ∃ x : xb_H, x = xb_I h b2 (Int32.toNatClampNeg 0) x1 := ⟨_, rfl⟩
  rw [← eh5] at hR
  have hw := hw h5 eh5
  have hE : xb_ext h0 h5 := by rw [eh5]; exact hE
  refine lv_aload_n hx hb (xb_d D_Machine_fall 12 rfl) rfl (lv_at hl 1 rfl) ?_
  have hk1 : xb_k h5 x0 = 8 := by rw [eh5]; exact hk1
  refine xb_getP (C := R_Machine) (T := F_Machine) (N := 18) hx hb 7 6 hts fin_Machine hown hR hk1 (by decide) rfl (by decide) rfl (hts _ m_731e5d01) (fun _ h9 => h9) (xb_d D_Machine_fall 13 rfl) ?_
  obtain ⟨b6, eb6, hw⟩ := hw
  refine xb_some eb6 ?_
  refine lv_iconst (v := 1) hx hb (xb_d D_Machine_fall 14 rfl) (by decide) ?_
  refine lv_iload_n hx hb (xb_d D_Machine_fall 15 rfl) rfl (lv_at hl 0 rfl) ?_
  refine lv_if_eq (tgt := 39) hx hb (xb_d D_Machine_fall 16 rfl) rfl (fun hc7 => ?_) (fun hc7 => ?_)
  · have hw := hw.1 hc7
    refine lv_iconst (v := (-1)) hx hb (xb_d D_Machine_fall 21 rfl) (by decide) ?_
    exact am_Machine_fall_L40 l hfl D A σ MC MS h0 Qr x0 y0 (-1) 1 b6 h5 hw p e s m args below meth c hC H locs ls k n hE (lv_sub hl [1, 0] rfl) hR hS (by omega) (by omega)
  · have hw := hw.2 hc7
    refine lv_aload_n hx hb (xb_d D_Machine_fall 17 rfl) rfl (lv_at hl 1 rfl) ?_
    refine xb_getP (C := R_Machine) (T := F_Machine) (N := 18) hx hb 7 12 hts fin_Machine hown hR hk1 (by decide) rfl (by decide) rfl (hts _ m_a347cb26) (fun _ h9 => h9) (xb_d D_Machine_fall 18 rfl) ?_
    obtain ⟨b8, eb8, hw⟩ := hw
    refine xb_some eb8 ?_
    obtain ⟨hk9, hw⟩ := hw
    refine xb_getI (C := R_Instance) (T := F_Instance) (N := 8) hx hb 10 0 hts fin_Instance hown hR hk9 (by decide) rfl (by decide) rfl (hts _ m_0e2a43da) (fun _ h9 => h9) (xb_d D_Machine_fall 19 rfl) ?_
    refine lv_goto (tgt := 40) hx hb (xb_d D_Machine_fall 20 rfl) rfl ?_
    exact am_Machine_fall_L40 l hfl D A σ MC MS h0 Qr x0 y0 (xb_i h5 b8 0) 1 b6 h5 hw p e s m args below meth c hC H locs ls k n hE (lv_sub hl [1, 0] rfl) hR hS (by omega) (by omega)

set_option maxHeartbeats 4000000 in
set_option maxRecDepth 100000 in
theorem ok_Machine_fall (l : Launch) (hfl : l.flags = pinnedFlags ++ [noTraceFlag]) (D : va_G) (A : Nat → Prop) (σ : Nat) (x0 : Nat) (x1 : Int32) (h : xb_H) (Qr : xb_H → Prop) (hw : w_Machine_fall x0 x1 h Qr) : xt_Met l y_Machine_fall [.code y_Machine_fall b_Machine_fall 3 none] (xb_rm 2 0 0) (xb_Pc D A σ h [.ref x0, .int x1]) (xb_Qc D A h (fun v h => v = none ∧ Qr h) (fun _ _ => False)) 0 0 A := by
  refine xb_ofAm (cc := b_Machine_fall) (by decide) (Nat.le_of_ble_eq_true rfl) ?_
  unfold w_Machine_fall at hw
  show xb_am l D A σ 2 0 0 h (fun v h => v = none ∧ Qr h) (fun _ _ => False) y_Machine_fall.cls y_Machine_fall.name b_Machine_fall 3 ([] : List ExceptionTableEntry) none 0 [(0, .ref x0), (1, .int x1)] [] h 0 0
  obtain ⟨MC, hMC⟩ : ∃ x, x = 0 := ⟨_, rfl⟩
  obtain ⟨MS, hMS⟩ : ∃ x, x = 0 := ⟨_, rfl⟩
  rw [show xb_am l D A σ 2 0 0 = xb_am l D A σ 2 MC MS by rw [hMC, hMS]]
  obtain ⟨h0, hh0⟩ : ∃ x, x = h := ⟨_, rfl⟩
  rw [show xb_am l D A σ 2 MC MS h = xb_am l D A σ 2 MC MS h0 by rw [hh0]]
  intro p e s m args below meth c hC H locs ls k n hE hl hR hS hk hn
  obtain ⟨hx, hb, hown, hlocks, htab, hml, hr, hB, hA, hnm⟩ := id hC
  have hts := hB.1.1.at args
  refine lv_aload_n hx hb (xb_d D_Machine_fall 0 rfl) rfl (lv_at hl 0 rfl) ?_
  obtain ⟨hk1, hw⟩ := hw
  refine xb_getI (C := R_Machine) (T := F_Machine) (N := 18) hx hb 7 4 hts fin_Machine hown hR hk1 (by decide) rfl (by decide) rfl (hts _ m_61f414b6) (fun _ h9 => h9) (xb_d D_Machine_fall 1 rfl) ?_
  refine lv_if_le (tgt := 11) hx hb (xb_d D_Machine_fall 2 rfl) rfl (fun hc2 => ?_) (fun hc2 => ?_)
  · have hw := hw.1 hc2
    refine lv_iconst (v := 0) hx hb (xb_d D_Machine_fall 5 rfl) (by decide) ?_
    exact am_Machine_fall_L12 l hfl D A σ MC MS h0 Qr x0 x1 0 h hw p e s m args below meth c hC H locs ls k n hE (lv_sub hl [0, 1] rfl) hR hS (by omega) (by omega)
  · have hw := hw.2 hc2
    refine lv_iconst (v := 1) hx hb (xb_d D_Machine_fall 3 rfl) (by decide) ?_
    refine lv_goto (tgt := 12) hx hb (xb_d D_Machine_fall 4 rfl) rfl ?_
    exact am_Machine_fall_L12 l hfl D A σ MC MS h0 Qr x0 x1 1 h hw p e s m args below meth c hC H locs ls k n hE (lv_sub hl [0, 1] rfl) hR hS (by omega) (by omega)

theorem m_1a79dca6 : (.fieldLink "StackHost$Machine" 126 "StackHost$Machine" "latestResult" "J" : Cond) ∈ xt_tbl := xt_in (xt_t2 (List.mem_of_getElem? (i := 28) (by decide +kernel))) (by decide +kernel)
set_option maxRecDepth 100000 in
def T_Machine_finish : List (Nat × Instr × Nat) := [(0, .aload_n 0, 1), (1, .lload_n 1, 1), (2, .putfield 126, 3), (5, .aload_n 0, 1), (6, .iconst 0, 1), (7, .putfield 46, 3), (10, .aload_n 0, 1), (11, .iconst 0, 1), (12, .putfield 50, 3), (15, .return_, 1)]
theorem D_Machine_finish : ∀ q ∈ T_Machine_finish, decode b_Machine_finish q.1 = .ok (q.2.1, q.2.2) := by decide +kernel
def w_Machine_finish (x0 : Nat) (x1 : Int64) (h : xb_H) (Qr : xb_H → Prop) : Prop :=
    xb_k h x0 = 8 ∧ ∀ h2 : xb_H, h2 = xb_L h x0 5 x1 → ∀ h3 : xb_H, h3 = xb_I h2 x0 3 0 → ∀ h4 : xb_H, h4 = xb_I h3 x0 4 0 → Qr h4

set_option maxHeartbeats 4000000 in
set_option maxRecDepth 100000 in
theorem ok_Machine_finish (l : Launch) (hfl : l.flags = pinnedFlags ++ [noTraceFlag]) (D : va_G) (A : Nat → Prop) (σ : Nat) (x0 : Nat) (x1 : Int64) (h : xb_H) (Qr : xb_H → Prop) (hw : w_Machine_finish x0 x1 h Qr) : xt_Met l y_Machine_finish [.code y_Machine_finish b_Machine_finish 3 none] (xb_rm 2 0 0) (xb_Pc D A σ h [.ref x0, .long x1]) (xb_Qc D A h (fun v h => v = none ∧ Qr h) (fun _ _ => False)) 0 0 A := by
  refine xb_ofAm (cc := b_Machine_finish) (by decide) (Nat.le_of_ble_eq_true rfl) ?_
  unfold w_Machine_finish at hw
  show xb_am l D A σ 2 0 0 h (fun v h => v = none ∧ Qr h) (fun _ _ => False) y_Machine_finish.cls y_Machine_finish.name b_Machine_finish 3 ([] : List ExceptionTableEntry) none 0 [(0, .ref x0), (1, .long x1)] [] h 0 0
  obtain ⟨MC, hMC⟩ : ∃ x, x = 0 := ⟨_, rfl⟩
  obtain ⟨MS, hMS⟩ : ∃ x, x = 0 := ⟨_, rfl⟩
  rw [show xb_am l D A σ 2 0 0 = xb_am l D A σ 2 MC MS by rw [hMC, hMS]]
  obtain ⟨h0, hh0⟩ : ∃ x, x = h := ⟨_, rfl⟩
  rw [show xb_am l D A σ 2 MC MS h = xb_am l D A σ 2 MC MS h0 by rw [hh0]]
  intro p e s m args below meth c hC H locs ls k n hE hl hR hS hk hn
  obtain ⟨hx, hb, hown, hlocks, htab, hml, hr, hB, hA, hnm⟩ := id hC
  have hts := hB.1.1.at args
  refine lv_aload_n hx hb (xb_d D_Machine_finish 0 rfl) rfl (lv_at hl 0 rfl) ?_
  refine lv_lload_n hx hb (xb_d D_Machine_finish 1 rfl) rfl (lv_at hl 1 rfl) ?_
  obtain ⟨hk1, hw⟩ := hw
  refine xb_putL (C := R_Machine) (T := F_Machine) (N := 18) (ty := .long) (x := x1) hx hb 7 5 hts fin_Machine t_Machine t_Machine_ok n_Machine hown hR hS hk1 (by decide) rfl (by decide) rfl (hts _ m_1a79dca6) (fun _ h9 => h9) rfl (by decide +kernel) rfl rfl (xb_d D_Machine_finish 2 rfl) (fun H locs hR hS => ?_)
  obtain ⟨h2, eh2⟩ : ∃ x : xb_H, x = xb_L h x0 5 x1 := ⟨_, rfl⟩
  rw [← eh2] at hR
  have hw := hw h2 eh2
  have hE : xb_ext h0 h2 := by rw [eh2]; exact hE
  refine lv_aload_n hx hb (xb_d D_Machine_finish 3 rfl) rfl (lv_at hl 0 rfl) ?_
  refine lv_iconst (v := 0) hx hb (xb_d D_Machine_finish 4 rfl) (by decide) ?_
  have hk1 : xb_k h2 x0 = 8 := by rw [eh2]; exact hk1
  refine xb_putI (C := R_Machine) (T := F_Machine) (N := 18) (ty := .boolean) (x := 0) hx hb 7 3 hts fin_Machine t_Machine t_Machine_ok n_Machine hown hR hS hk1 (by decide) rfl (by decide) rfl (hts _ m_87cf9501) (fun _ h9 => h9) rfl (by decide +kernel) (by decide) (by decide) (xb_d D_Machine_finish 5 rfl) (fun H locs hR hS => ?_)
  obtain ⟨h3, eh3⟩ : ∃ x : xb_H, x = xb_I h2 x0 3 0 := ⟨_, rfl⟩
  rw [← eh3] at hR
  have hw := hw h3 eh3
  have hE : xb_ext h0 h3 := by rw [eh3]; exact hE
  refine lv_aload_n hx hb (xb_d D_Machine_finish 6 rfl) rfl (lv_at hl 0 rfl) ?_
  refine lv_iconst (v := 0) hx hb (xb_d D_Machine_finish 7 rfl) (by decide) ?_
  have hk1 : xb_k h3 x0 = 8 := by rw [eh3]; exact hk1
  refine xb_putI (C := R_Machine) (T := F_Machine) (N := 18) (ty := .int) (x := 0) hx hb 7 4 hts fin_Machine t_Machine t_Machine_ok n_Machine hown hR hS hk1 (by decide) rfl (by decide) rfl (hts _ m_61f414b6) (fun _ h9 => h9) rfl (by decide +kernel) rfl rfl (xb_d D_Machine_finish 8 rfl) (fun H locs hR hS => ?_)
  obtain ⟨h4, eh4⟩ : ∃ x : xb_H, x = xb_I h3 x0 4 0 := ⟨_, rfl⟩
  rw [← eh4] at hR
  have hw := hw h4 eh4
  have hE : xb_ext h0 h4 := by rw [eh4]; exact hE
  exact xb_vret hx hb hr hlocks (show k ≤ MC by omega) (show n ≤ MS by omega) hE hR hS (xb_d D_Machine_finish 9 rfl) hw

set_option maxRecDepth 100000 in
def T_Machine_giveUp : List (Nat × Instr × Nat) := [(0, .aload_n 0, 1), (1, .getfield 50, 3), (4, .istore_n 1, 1), (5, .aload_n 0, 1), (6, .iconst 0, 1), (7, .putfield 46, 3), (10, .aload_n 0, 1), (11, .iconst 0, 1), (12, .putfield 50, 3), (15, .iload_n 1, 1), (16, .ireturn, 1)]
theorem D_Machine_giveUp : ∀ q ∈ T_Machine_giveUp, decode b_Machine_giveUp q.1 = .ok (q.2.1, q.2.2) := by decide +kernel
def w_Machine_giveUp (x0 : Nat) (h : xb_H) (Qr : Int32 → xb_H → Prop) : Prop :=
    xb_k h x0 = 8 ∧ ∀ v2 : Int32, v2 = (xb_i h x0 4) → ∀ h3 : xb_H, h3 = xb_I h x0 3 0 → ∀ h4 : xb_H, h4 = xb_I h3 x0 4 0 → Qr v2 h4

set_option maxHeartbeats 4000000 in
set_option maxRecDepth 100000 in
theorem ok_Machine_giveUp (l : Launch) (hfl : l.flags = pinnedFlags ++ [noTraceFlag]) (D : va_G) (A : Nat → Prop) (σ : Nat) (x0 : Nat) (h : xb_H) (Qr : Int32 → xb_H → Prop) (hw : w_Machine_giveUp x0 h Qr) : xt_Met l y_Machine_giveUp [.code y_Machine_giveUp b_Machine_giveUp 2 (some .int)] (xb_rm 2 0 0) (xb_Pc D A σ h [.ref x0]) (xb_Qc D A h (fun v h => ∃ r, v = some (.int r) ∧ Qr r h) (fun _ _ => False)) 0 0 A := by
  refine xb_ofAm (cc := b_Machine_giveUp) (by decide) (Nat.le_of_ble_eq_true rfl) ?_
  unfold w_Machine_giveUp at hw
  show xb_am l D A σ 2 0 0 h (fun v h => ∃ r, v = some (.int r) ∧ Qr r h) (fun _ _ => False) y_Machine_giveUp.cls y_Machine_giveUp.name b_Machine_giveUp 2 ([] : List ExceptionTableEntry) (some .int) 0 [(0, .ref x0)] [] h 0 0
  obtain ⟨MC, hMC⟩ : ∃ x, x = 0 := ⟨_, rfl⟩
  obtain ⟨MS, hMS⟩ : ∃ x, x = 0 := ⟨_, rfl⟩
  rw [show xb_am l D A σ 2 0 0 = xb_am l D A σ 2 MC MS by rw [hMC, hMS]]
  obtain ⟨h0, hh0⟩ : ∃ x, x = h := ⟨_, rfl⟩
  rw [show xb_am l D A σ 2 MC MS h = xb_am l D A σ 2 MC MS h0 by rw [hh0]]
  intro p e s m args below meth c hC H locs ls k n hE hl hR hS hk hn
  obtain ⟨hx, hb, hown, hlocks, htab, hml, hr, hB, hA, hnm⟩ := id hC
  have hts := hB.1.1.at args
  refine lv_aload_n hx hb (xb_d D_Machine_giveUp 0 rfl) rfl (lv_at hl 0 rfl) ?_
  obtain ⟨hk1, hw⟩ := hw
  refine xb_getI (C := R_Machine) (T := F_Machine) (N := 18) hx hb 7 4 hts fin_Machine hown hR hk1 (by decide) rfl (by decide) rfl (hts _ m_61f414b6) (fun _ h9 => h9) (xb_d D_Machine_giveUp 1 rfl) ?_
  obtain ⟨v2, ev2⟩ : ∃ x : Int32, x = (xb_i h x0 4) := ⟨_, rfl⟩
  have hw := hw v2 ev2
  refine xt_numi (y := v2) ev2.symm ?_
  refine lv_istore_n hx hb (xb_d D_Machine_giveUp 2 rfl) rfl hl (by decide) rfl (fun ls hl => ?_)
  have hl : lv_has ls 2 [(1, .int v2), (0, .ref x0)] := hl
  refine lv_aload_n hx hb (xb_d D_Machine_giveUp 3 rfl) rfl (lv_at hl 1 rfl) ?_
  refine lv_iconst (v := 0) hx hb (xb_d D_Machine_giveUp 4 rfl) (by decide) ?_
  refine xb_putI (C := R_Machine) (T := F_Machine) (N := 18) (ty := .boolean) (x := 0) hx hb 7 3 hts fin_Machine t_Machine t_Machine_ok n_Machine hown hR hS hk1 (by decide) rfl (by decide) rfl (hts _ m_87cf9501) (fun _ h9 => h9) rfl (by decide +kernel) (by decide) (by decide) (xb_d D_Machine_giveUp 5 rfl) (fun H locs hR hS => ?_)
  obtain ⟨h3, eh3⟩ : ∃ x : xb_H, x = xb_I h x0 3 0 := ⟨_, rfl⟩
  rw [← eh3] at hR
  have hw := hw h3 eh3
  have hE : xb_ext h0 h3 := by rw [eh3]; exact hE
  refine lv_aload_n hx hb (xb_d D_Machine_giveUp 6 rfl) rfl (lv_at hl 1 rfl) ?_
  refine lv_iconst (v := 0) hx hb (xb_d D_Machine_giveUp 7 rfl) (by decide) ?_
  have hk1 : xb_k h3 x0 = 8 := by rw [eh3]; exact hk1
  refine xb_putI (C := R_Machine) (T := F_Machine) (N := 18) (ty := .int) (x := 0) hx hb 7 4 hts fin_Machine t_Machine t_Machine_ok n_Machine hown hR hS hk1 (by decide) rfl (by decide) rfl (hts _ m_61f414b6) (fun _ h9 => h9) rfl (by decide +kernel) rfl rfl (xb_d D_Machine_giveUp 8 rfl) (fun H locs hR hS => ?_)
  obtain ⟨h4, eh4⟩ : ∃ x : xb_H, x = xb_I h3 x0 4 0 := ⟨_, rfl⟩
  rw [← eh4] at hR
  have hw := hw h4 eh4
  have hE : xb_ext h0 h4 := by rw [eh4]; exact hE
  refine lv_iload_n hx hb (xb_d D_Machine_giveUp 9 rfl) rfl (lv_at hl 0 rfl) ?_
  exact xb_iret hx hb hr hlocks (show k ≤ MC by omega) (show n ≤ MS by omega) hE hR hS (xb_d D_Machine_giveUp 10 rfl) hw

set_option maxRecDepth 100000 in
def T_Machine_putValue : List (Nat × Instr × Nat) := [(0, .aload_n 0, 1), (1, .getfield 35, 3), (4, .aload_n 0, 1), (5, .getfield 53, 3), (8, .lload_n 1, 1), (9, .lastore, 1), (10, .aload_n 0, 1), (11, .dup, 1), (12, .getfield 53, 3), (15, .iconst 1, 1), (16, .iadd, 1), (17, .putfield 53, 3), (20, .return_, 1)]
theorem D_Machine_putValue : ∀ q ∈ T_Machine_putValue, decode b_Machine_putValue q.1 = .ok (q.2.1, q.2.2) := by decide +kernel
def w_Machine_putValue (x0 : Nat) (x1 : Int64) (h : xb_H) (Qr : xb_H → Prop) : Prop :=
    xb_k h x0 = 8 ∧ ∃ b2 : Nat, (xb_r h x0 9) = some b2 ∧ xb_k h b2 = 103 ∧ vp_in (xb_i h x0 10) (xb_n h b2) ∧ ∀ h5 : xb_H, h5 = xb_L h b2 (Int32.toNatClampNeg (xb_i h x0 10)) x1 → ∀ h6 : xb_H, h6 = xb_I h5 x0 10 ((xb_i h5 x0 10) + 1) → Qr h6

set_option maxHeartbeats 4000000 in
set_option maxRecDepth 100000 in
theorem ok_Machine_putValue (l : Launch) (hfl : l.flags = pinnedFlags ++ [noTraceFlag]) (D : va_G) (A : Nat → Prop) (σ : Nat) (x0 : Nat) (x1 : Int64) (h : xb_H) (Qr : xb_H → Prop) (hw : w_Machine_putValue x0 x1 h Qr) : xt_Met l y_Machine_putValue [.code y_Machine_putValue b_Machine_putValue 3 none] (xb_rm 2 0 0) (xb_Pc D A σ h [.ref x0, .long x1]) (xb_Qc D A h (fun v h => v = none ∧ Qr h) (fun _ _ => False)) 0 0 A := by
  refine xb_ofAm (cc := b_Machine_putValue) (by decide) (Nat.le_of_ble_eq_true rfl) ?_
  unfold w_Machine_putValue at hw
  show xb_am l D A σ 2 0 0 h (fun v h => v = none ∧ Qr h) (fun _ _ => False) y_Machine_putValue.cls y_Machine_putValue.name b_Machine_putValue 3 ([] : List ExceptionTableEntry) none 0 [(0, .ref x0), (1, .long x1)] [] h 0 0
  obtain ⟨MC, hMC⟩ : ∃ x, x = 0 := ⟨_, rfl⟩
  obtain ⟨MS, hMS⟩ : ∃ x, x = 0 := ⟨_, rfl⟩
  rw [show xb_am l D A σ 2 0 0 = xb_am l D A σ 2 MC MS by rw [hMC, hMS]]
  obtain ⟨h0, hh0⟩ : ∃ x, x = h := ⟨_, rfl⟩
  rw [show xb_am l D A σ 2 MC MS h = xb_am l D A σ 2 MC MS h0 by rw [hh0]]
  intro p e s m args below meth c hC H locs ls k n hE hl hR hS hk hn
  obtain ⟨hx, hb, hown, hlocks, htab, hml, hr, hB, hA, hnm⟩ := id hC
  have hts := hB.1.1.at args
  refine lv_aload_n hx hb (xb_d D_Machine_putValue 0 rfl) rfl (lv_at hl 0 rfl) ?_
  obtain ⟨hk1, hw⟩ := hw
  refine xb_getP (C := R_Machine) (T := F_Machine) (N := 18) hx hb 7 9 hts fin_Machine hown hR hk1 (by decide) rfl (by decide) rfl (hts _ m_6904195b) (fun _ h9 => h9) (xb_d D_Machine_putValue 1 rfl) ?_
  obtain ⟨b2, eb2, hw⟩ := hw
  refine xb_some eb2 ?_
  refine lv_aload_n hx hb (xb_d D_Machine_putValue 2 rfl) rfl (lv_at hl 0 rfl) ?_
  refine xb_getI (C := R_Machine) (T := F_Machine) (N := 18) hx hb 7 10 hts fin_Machine hown hR hk1 (by decide) rfl (by decide) rfl (hts _ m_79cf62f6) (fun _ h9 => h9) (xb_d D_Machine_putValue 3 rfl) ?_
  refine lv_lload_n hx hb (xb_d D_Machine_putValue 4 rfl) rfl (lv_at hl 1 rfl) ?_
  obtain ⟨hk3, hw⟩ := hw
  obtain ⟨hi4, hw⟩ := hw
  refine xb_last hx hb hR hS hk3 hi4 (xb_d D_Machine_putValue 5 rfl) (fun H locs hR hS => ?_)
  obtain ⟨h5, eh5⟩ : ∃ x : xb_H, x = xb_L h b2 (Int32.toNatClampNeg (xb_i h x0 10)) x1 := ⟨_, rfl⟩
  rw [← eh5] at hR
  have hw := hw h5 eh5
  have hE : xb_ext h0 h5 := by rw [eh5]; exact hE
  refine lv_aload_n hx hb (xb_d D_Machine_putValue 6 rfl) rfl (lv_at hl 0 rfl) ?_
  refine lv_dup hx hb (xb_d D_Machine_putValue 7 rfl) rfl ?_
  have hk1 : xb_k h5 x0 = 8 := by rw [eh5]; exact hk1
  refine xb_getI (C := R_Machine) (T := F_Machine) (N := 18) hx hb 7 10 hts fin_Machine hown hR hk1 (by decide) rfl (by decide) rfl (hts _ m_79cf62f6) (fun _ h9 => h9) (xb_d D_Machine_putValue 8 rfl) ?_
  refine lv_iconst (v := 1) hx hb (xb_d D_Machine_putValue 9 rfl) (by decide) ?_
  refine lv_iadd hx hb (xb_d D_Machine_putValue 10 rfl) ?_
  refine xb_putI (C := R_Machine) (T := F_Machine) (N := 18) (ty := .int) (x := ((xb_i h5 x0 10) + 1)) hx hb 7 10 hts fin_Machine t_Machine t_Machine_ok n_Machine hown hR hS hk1 (by decide) rfl (by decide) rfl (hts _ m_79cf62f6) (fun _ h9 => h9) rfl (by decide +kernel) rfl rfl (xb_d D_Machine_putValue 11 rfl) (fun H locs hR hS => ?_)
  obtain ⟨h6, eh6⟩ : ∃ x : xb_H, x = xb_I h5 x0 10 ((xb_i h5 x0 10) + 1) := ⟨_, rfl⟩
  rw [← eh6] at hR
  have hw := hw h6 eh6
  have hE : xb_ext h0 h6 := by rw [eh6]; exact hE
  exact xb_vret hx hb hr hlocks (show k ≤ MC by omega) (show n ≤ MS by omega) hE hR hS (xb_d D_Machine_putValue 12 rfl) hw

theorem m_2b0551dd : (.constantLong "StackHost$Machine" 74 4294967295 : Cond) ∈ xt_tbl := xt_in (xt_t7 (List.mem_of_getElem? (i := 192) (by decide +kernel))) (by decide +kernel)
set_option maxRecDepth 100000 in
def T_Machine_widened : List (Nat × Instr × Nat) := [(0, .iload_n 0, 1), (1, .tableswitch 83 44 52 #[51, 83, 60, 83, 69, 83, 74, 83, 79], 51), (52, .lload_n 1, 1), (53, .l2i, 1), (54, .i2b, 1), (55, .i2l, 1), (56, .ldc2_w 74, 3), (59, .land, 1), (60, .lreturn, 1), (61, .lload_n 1, 1), (62, .l2i, 1), (63, .i2s, 1), (64, .i2l, 1), (65, .ldc2_w 74, 3), (68, .land, 1), (69, .lreturn, 1), (70, .lload_n 1, 1), (71, .l2i, 1), (72, .i2b, 1), (73, .i2l, 1), (74, .lreturn, 1), (75, .lload_n 1, 1), (76, .l2i, 1), (77, .i2s, 1), (78, .i2l, 1), (79, .lreturn, 1), (80, .lload_n 1, 1), (81, .l2i, 1), (82, .i2l, 1), (83, .lreturn, 1), (84, .lload_n 1, 1), (85, .lreturn, 1)]
theorem D_Machine_widened : ∀ q ∈ T_Machine_widened, decode b_Machine_widened q.1 = .ok (q.2.1, q.2.2) := by decide +kernel
def w_Machine_widened_L84 (Qr : Int64 → xb_H → Prop) (x1 : Int64) (h : xb_H) : Prop :=
    Qr x1 h

def w_Machine_widened (x0 : Int32) (x1 : Int64) (h : xb_H) (Qr : Int64 → xb_H → Prop) : Prop :=
    ((x0 = 44 → Qr ((Int32.toInt64 ((Int32.toInt8 (Int64.toInt32 x1)).toInt32)) &&& 4294967295) h) ∧ (x0 = 45 → w_Machine_widened_L84 Qr x1 h) ∧ (x0 = 46 → Qr ((Int32.toInt64 ((Int32.toInt16 (Int64.toInt32 x1)).toInt32)) &&& 4294967295) h) ∧ (x0 = 47 → w_Machine_widened_L84 Qr x1 h) ∧ (x0 = 48 → Qr (Int32.toInt64 ((Int32.toInt8 (Int64.toInt32 x1)).toInt32)) h) ∧ (x0 = 49 → w_Machine_widened_L84 Qr x1 h) ∧ (x0 = 50 → Qr (Int32.toInt64 ((Int32.toInt16 (Int64.toInt32 x1)).toInt32)) h) ∧ (x0 = 51 → w_Machine_widened_L84 Qr x1 h) ∧ (x0 = 52 → Qr (Int32.toInt64 (Int64.toInt32 x1)) h) ∧ (¬ x0 = 44 → ¬ x0 = 45 → ¬ x0 = 46 → ¬ x0 = 47 → ¬ x0 = 48 → ¬ x0 = 49 → ¬ x0 = 50 → ¬ x0 = 51 → ¬ x0 = 52 → w_Machine_widened_L84 Qr x1 h))

set_option maxHeartbeats 4000000 in
set_option maxRecDepth 100000 in
theorem am_Machine_widened_L84 (l : Launch) (hfl : l.flags = pinnedFlags ++ [noTraceFlag]) (D : va_G) (A : Nat → Prop) (σ MC MS : Nat) (h0 : xb_H) (Qr : Int64 → xb_H → Prop) (x1 : Int64) (h : xb_H) (hw : w_Machine_widened_L84 Qr x1 h) : xb_am l D A σ 2 MC MS h0 (fun v h => ∃ r, v = some (.long r) ∧ Qr r h) (fun _ _ => False) y_Machine_widened.cls y_Machine_widened.name b_Machine_widened 3 ([] : List ExceptionTableEntry) (some .long) 84 [(1, .long x1)] [] h 0 0 := by
  unfold w_Machine_widened_L84 at hw
  intro p e s m args below meth c hC H locs ls k n hE hl hR hS hk hn
  obtain ⟨hx, hb, hown, hlocks, htab, hml, hr, hB, hA, hnm⟩ := id hC
  have hts := hB.1.1.at args
  refine lv_lload_n hx hb (xb_d D_Machine_widened 30 rfl) rfl (lv_at hl 0 rfl) ?_
  exact xb_lret hx hb hr hlocks (show k ≤ MC by omega) (show n ≤ MS by omega) hE hR hS (xb_d D_Machine_widened 31 rfl) hw

set_option maxHeartbeats 4000000 in
set_option maxRecDepth 100000 in
theorem ok_Machine_widened (l : Launch) (hfl : l.flags = pinnedFlags ++ [noTraceFlag]) (D : va_G) (A : Nat → Prop) (σ : Nat) (x0 : Int32) (x1 : Int64) (h : xb_H) (Qr : Int64 → xb_H → Prop) (hw : w_Machine_widened x0 x1 h Qr) : xt_Met l y_Machine_widened [.code y_Machine_widened b_Machine_widened 3 (some .long)] (xb_rm 2 0 0) (xb_Pc D A σ h [.int x0, .long x1]) (xb_Qc D A h (fun v h => ∃ r, v = some (.long r) ∧ Qr r h) (fun _ _ => False)) 0 0 A := by
  refine xb_ofAm (cc := b_Machine_widened) (by decide) (Nat.le_of_ble_eq_true rfl) ?_
  unfold w_Machine_widened at hw
  show xb_am l D A σ 2 0 0 h (fun v h => ∃ r, v = some (.long r) ∧ Qr r h) (fun _ _ => False) y_Machine_widened.cls y_Machine_widened.name b_Machine_widened 3 ([] : List ExceptionTableEntry) (some .long) 0 [(0, .int x0), (1, .long x1)] [] h 0 0
  obtain ⟨MC, hMC⟩ : ∃ x, x = 0 := ⟨_, rfl⟩
  obtain ⟨MS, hMS⟩ : ∃ x, x = 0 := ⟨_, rfl⟩
  rw [show xb_am l D A σ 2 0 0 = xb_am l D A σ 2 MC MS by rw [hMC, hMS]]
  obtain ⟨h0, hh0⟩ : ∃ x, x = h := ⟨_, rfl⟩
  rw [show xb_am l D A σ 2 MC MS h = xb_am l D A σ 2 MC MS h0 by rw [hh0]]
  intro p e s m args below meth c hC H locs ls k n hE hl hR hS hk hn
  obtain ⟨hx, hb, hown, hlocks, htab, hml, hr, hB, hA, hnm⟩ := id hC
  have hts := hB.1.1.at args
  refine lv_iload_n hx hb (xb_d D_Machine_widened 0 rfl) rfl (lv_at hl 0 rfl) ?_
  by_cases hc1 : x0 = 44
  · have hw := hw.1 hc1
    refine xt_numi hc1 ?_
    refine lv_tableIn (off := 51) (tgt := 52) hx hb (xb_d D_Machine_widened 1 rfl) (by decide +kernel) (by decide +kernel) (by decide +kernel) (by decide) ?_
    refine lv_lload_n hx hb (xb_d D_Machine_widened 2 rfl) rfl (lv_at hl 1 rfl) ?_
    refine lv_l2i hx hb (xb_d D_Machine_widened 3 rfl) rfl ?_
    refine lv_i2b hx hb (xb_d D_Machine_widened 4 rfl) rfl ?_
    refine lv_i2l hx hb (xb_d D_Machine_widened 5 rfl) rfl ?_
    refine lv_ldc2 (v := 4294967295) hx hb hown (hts _ m_2b0551dd) (xb_d D_Machine_widened 6 rfl) ?_
    refine lv_land hx hb (xb_d D_Machine_widened 7 rfl) ?_
    exact xb_lret hx hb hr hlocks (show k ≤ MC by omega) (show n ≤ MS by omega) hE hR hS (xb_d D_Machine_widened 8 rfl) hw
  have hw := hw.2
  by_cases hc2 : x0 = 45
  · have hw := hw.1 hc2
    refine xt_numi hc2 ?_
    refine lv_tableIn (off := 83) (tgt := 84) hx hb (xb_d D_Machine_widened 1 rfl) (by decide +kernel) (by decide +kernel) (by decide +kernel) (by decide) ?_
    exact am_Machine_widened_L84 l hfl D A σ MC MS h0 Qr x1 h hw p e s m args below meth c hC H locs ls k n hE (lv_sub hl [1] rfl) hR hS (by omega) (by omega)
  have hw := hw.2
  by_cases hc3 : x0 = 46
  · have hw := hw.1 hc3
    refine xt_numi hc3 ?_
    refine lv_tableIn (off := 60) (tgt := 61) hx hb (xb_d D_Machine_widened 1 rfl) (by decide +kernel) (by decide +kernel) (by decide +kernel) (by decide) ?_
    refine lv_lload_n hx hb (xb_d D_Machine_widened 9 rfl) rfl (lv_at hl 1 rfl) ?_
    refine lv_l2i hx hb (xb_d D_Machine_widened 10 rfl) rfl ?_
    refine lv_i2s hx hb (xb_d D_Machine_widened 11 rfl) rfl ?_
    refine lv_i2l hx hb (xb_d D_Machine_widened 12 rfl) rfl ?_
    refine lv_ldc2 (v := 4294967295) hx hb hown (hts _ m_2b0551dd) (xb_d D_Machine_widened 13 rfl) ?_
    refine lv_land hx hb (xb_d D_Machine_widened 14 rfl) ?_
    exact xb_lret hx hb hr hlocks (show k ≤ MC by omega) (show n ≤ MS by omega) hE hR hS (xb_d D_Machine_widened 15 rfl) hw
  have hw := hw.2
  by_cases hc4 : x0 = 47
  · have hw := hw.1 hc4
    refine xt_numi hc4 ?_
    refine lv_tableIn (off := 83) (tgt := 84) hx hb (xb_d D_Machine_widened 1 rfl) (by decide +kernel) (by decide +kernel) (by decide +kernel) (by decide) ?_
    exact am_Machine_widened_L84 l hfl D A σ MC MS h0 Qr x1 h hw p e s m args below meth c hC H locs ls k n hE (lv_sub hl [1] rfl) hR hS (by omega) (by omega)
  have hw := hw.2
  by_cases hc5 : x0 = 48
  · have hw := hw.1 hc5
    refine xt_numi hc5 ?_
    refine lv_tableIn (off := 69) (tgt := 70) hx hb (xb_d D_Machine_widened 1 rfl) (by decide +kernel) (by decide +kernel) (by decide +kernel) (by decide) ?_
    refine lv_lload_n hx hb (xb_d D_Machine_widened 16 rfl) rfl (lv_at hl 1 rfl) ?_
    refine lv_l2i hx hb (xb_d D_Machine_widened 17 rfl) rfl ?_
    refine lv_i2b hx hb (xb_d D_Machine_widened 18 rfl) rfl ?_
    refine lv_i2l hx hb (xb_d D_Machine_widened 19 rfl) rfl ?_
    exact xb_lret hx hb hr hlocks (show k ≤ MC by omega) (show n ≤ MS by omega) hE hR hS (xb_d D_Machine_widened 20 rfl) hw
  have hw := hw.2
  by_cases hc6 : x0 = 49
  · have hw := hw.1 hc6
    refine xt_numi hc6 ?_
    refine lv_tableIn (off := 83) (tgt := 84) hx hb (xb_d D_Machine_widened 1 rfl) (by decide +kernel) (by decide +kernel) (by decide +kernel) (by decide) ?_
    exact am_Machine_widened_L84 l hfl D A σ MC MS h0 Qr x1 h hw p e s m args below meth c hC H locs ls k n hE (lv_sub hl [1] rfl) hR hS (by omega) (by omega)
  have hw := hw.2
  by_cases hc7 : x0 = 50
  · have hw := hw.1 hc7
    refine xt_numi hc7 ?_
    refine lv_tableIn (off := 74) (tgt := 75) hx hb (xb_d D_Machine_widened 1 rfl) (by decide +kernel) (by decide +kernel) (by decide +kernel) (by decide) ?_
    refine lv_lload_n hx hb (xb_d D_Machine_widened 21 rfl) rfl (lv_at hl 1 rfl) ?_
    refine lv_l2i hx hb (xb_d D_Machine_widened 22 rfl) rfl ?_
    refine lv_i2s hx hb (xb_d D_Machine_widened 23 rfl) rfl ?_
    refine lv_i2l hx hb (xb_d D_Machine_widened 24 rfl) rfl ?_
    exact xb_lret hx hb hr hlocks (show k ≤ MC by omega) (show n ≤ MS by omega) hE hR hS (xb_d D_Machine_widened 25 rfl) hw
  have hw := hw.2
  by_cases hc8 : x0 = 51
  · have hw := hw.1 hc8
    refine xt_numi hc8 ?_
    refine lv_tableIn (off := 83) (tgt := 84) hx hb (xb_d D_Machine_widened 1 rfl) (by decide +kernel) (by decide +kernel) (by decide +kernel) (by decide) ?_
    exact am_Machine_widened_L84 l hfl D A σ MC MS h0 Qr x1 h hw p e s m args below meth c hC H locs ls k n hE (lv_sub hl [1] rfl) hR hS (by omega) (by omega)
  have hw := hw.2
  by_cases hc9 : x0 = 52
  · have hw := hw.1 hc9
    refine xt_numi hc9 ?_
    refine lv_tableIn (off := 79) (tgt := 80) hx hb (xb_d D_Machine_widened 1 rfl) (by decide +kernel) (by decide +kernel) (by decide +kernel) (by decide) ?_
    refine lv_lload_n hx hb (xb_d D_Machine_widened 26 rfl) rfl (lv_at hl 1 rfl) ?_
    refine lv_l2i hx hb (xb_d D_Machine_widened 27 rfl) rfl ?_
    refine lv_i2l hx hb (xb_d D_Machine_widened 28 rfl) rfl ?_
    exact xb_lret hx hb hr hlocks (show k ≤ MC by omega) (show n ≤ MS by omega) hE hR hS (xb_d D_Machine_widened 29 rfl) hw
  have hw := hw.2
  have hw := hw hc1 hc2 hc3 hc4 hc5 hc6 hc7 hc8 hc9
  refine lv_tableOut (tgt := 84) hx hb (xb_d D_Machine_widened 1 rfl) (by have a0 := xb_nl (44) 44 (by decide) hc1; have a1 := xb_nl (45) 45 (by decide) hc2; have a2 := xb_nl (46) 46 (by decide) hc3; have a3 := xb_nl (47) 47 (by decide) hc4; have a4 := xb_nl (48) 48 (by decide) hc5; have a5 := xb_nl (49) 49 (by decide) hc6; have a6 := xb_nl (50) 50 (by decide) hc7; have a7 := xb_nl (51) 51 (by decide) hc8; have a8 := xb_nl (52) 52 (by decide) hc9; omega) (by decide) ?_
  exact am_Machine_widened_L84 l hfl D A σ MC MS h0 Qr x1 h hw p e s m args below meth c hC H locs ls k n hE (lv_sub hl [1] rfl) hR hS (by omega) (by omega)

theorem m_81e7bfba : (.methodLink "StackHost$Memory" 3 objectInit : Cond) ∈ xt_tbl := xt_in (xt_t7 (List.mem_of_getElem? (i := 72) (by decide +kernel))) (by decide +kernel)
theorem m_56a50a6f : (.fieldLink "StackHost$Memory" 9 "StackHost$Memory" "slots" "[I" : Cond) ∈ xt_tbl := xt_in (xt_t7 (List.mem_of_getElem? (i := 76) (by decide +kernel))) (by decide +kernel)
theorem m_2e5685af : (.fieldLink "StackHost$Memory" 15 "StackHost$Memory" "words" "LStackHost$Row;" : Cond) ∈ xt_tbl := xt_in (xt_t7 (List.mem_of_getElem? (i := 73) (by decide +kernel))) (by decide +kernel)
theorem m_4e6a3ead : (.fieldLink "StackHost$Memory" 19 "StackHost$Memory" "most" "J" : Cond) ∈ xt_tbl := xt_in (xt_t7 (List.mem_of_getElem? (i := 74) (by decide +kernel))) (by decide +kernel)
set_option maxRecDepth 100000 in
def T_Memory_init : List (Nat × Instr × Nat) := [(0, .aload_n 0, 1), (1, .invokespecial 3, 3), (4, .aload_n 0, 1), (5, .bipush 16, 2), (7, .newarray .int, 2), (9, .putfield 9, 3), (12, .aload_n 0, 1), (13, .aload_n 1, 1), (14, .putfield 15, 3), (17, .aload_n 0, 1), (18, .lload_n 2, 1), (19, .putfield 19, 3), (22, .return_, 1)]
theorem D_Memory_init : ∀ q ∈ T_Memory_init, decode b_Memory_init q.1 = .ok (q.2.1, q.2.2) := by decide +kernel
def w_Memory_init (x0 : Nat) (x1 : Nat) (x2 : Int64) (h : xb_H) (bc : Nat) (bs : Nat) (Qr : xb_H → Prop) : Prop :=
    1 ≤ bc ∧ 16 ≤ bs ∧ ∀ q1 : Nat, xb_k h q1 = 0 → ∀ h2 : xb_H, h2 = xb_new h q1 102 16 → xb_k h2 x0 = 13 ∧ ∀ h5 : xb_H, h5 = xb_P h2 x0 2 (some q1) → ∀ h6 : xb_H, h6 = xb_P h5 x0 0 (some x1) → ∀ h7 : xb_H, h7 = xb_L h6 x0 1 x2 → Qr h7

set_option maxHeartbeats 4000000 in
set_option maxRecDepth 100000 in
theorem ok_Memory_init (l : Launch) (hfl : l.flags = pinnedFlags ++ [noTraceFlag]) (D : va_G) (A : Nat → Prop) (σ : Nat) (x0 : Nat) (x1 : Nat) (x2 : Int64) (h : xb_H) (bc : Nat) (bs : Nat) (Qr : xb_H → Prop) (hw : w_Memory_init x0 x1 x2 h bc bs Qr) : xt_Met l y_Memory_init [.code y_Memory_init b_Memory_init 4 none] (xb_rm 2 bc bs) (xb_Pc D A σ h [.ref x0, .ref x1, .long x2]) (xb_Qc D A h (fun v h => v = none ∧ Qr h) (fun _ _ => False)) bc bs A := by
  refine xb_ofAm (cc := b_Memory_init) (by decide) (Nat.le_of_ble_eq_true rfl) ?_
  unfold w_Memory_init at hw
  show xb_am l D A σ 2 bc bs h (fun v h => v = none ∧ Qr h) (fun _ _ => False) y_Memory_init.cls y_Memory_init.name b_Memory_init 4 ([] : List ExceptionTableEntry) none 0 [(0, .ref x0), (1, .ref x1), (2, .long x2)] [] h bc bs
  obtain ⟨MC, hMC⟩ : ∃ x, x = bc := ⟨_, rfl⟩
  obtain ⟨MS, hMS⟩ : ∃ x, x = bs := ⟨_, rfl⟩
  rw [show xb_am l D A σ 2 bc bs = xb_am l D A σ 2 MC MS by rw [hMC, hMS]]
  obtain ⟨h0, hh0⟩ : ∃ x, x = h := ⟨_, rfl⟩
  rw [show xb_am l D A σ 2 MC MS h = xb_am l D A σ 2 MC MS h0 by rw [hh0]]
  intro p e s m args below meth c hC H locs ls k n hE hl hR hS hk hn
  obtain ⟨hx, hb, hown, hlocks, htab, hml, hr, hB, hA, hnm⟩ := id hC
  have hts := hB.1.1.at args
  refine lv_aload_n hx hb (xb_d D_Memory_init 0 rfl) rfl (lv_at hl 0 rfl) ?_
  refine W.objInit hx hb hown (hts _ m_81e7bfba) (hts _ m_fba9d542) (hts _ m_9febdb7e) rfl (hml.trans hl.1.symm).symm rfl (xb_d D_Memory_init 1 rfl) (by show 1 ≤ 8 + _; omega) (Nat.le_trans (Nat.le_of_ble_eq_true rfl : _ ≤ 40) (by show 40 ≤ 120 + _; omega)) ?_
  refine W.eq (g2 := F0 m 4 ls []) rfl ?_
  refine lv_aload_n hx hb (xb_d D_Memory_init 2 rfl) rfl (lv_at hl 0 rfl) ?_
  refine lv_bipush (v := 16) hx hb (xb_d D_Memory_init 3 rfl) (by decide) ?_
  obtain ⟨hcq1, hsq1, hw⟩ := hw
  have enq1 : (16 : Int32).toNatClampNeg = 16 := by decide
  refine xb_newa_i hx hb (hts _ m_d160d5ac) hR hS hA (by decide) (by decide +kernel) (show k + 1 ≤ MC by omega) (show n + _ ≤ MS by rw [enq1]; omega) (xb_d D_Memory_init 4 rfl) (fun q1 H hqq1 hR hS => ?_)
  rw [enq1] at hR ⊢
  have hw := hw q1 hqq1
  obtain ⟨h2, eh2⟩ : ∃ x : xb_H, x = xb_new h q1 102 16 := ⟨_, rfl⟩
  rw [← eh2] at hR
  have hw := hw h2 eh2
  have hE : xb_ext h0 h2 := by rw [eh2]; exact hE.new _ _ hqq1
  have hk3 : xb_k h2 q1 = 102 := by rw [eh2]; exact xb_new_k _ _ _ _
  obtain ⟨hk4, hw⟩ := hw
  refine xb_putPF (C := R_Memory) (T := F_Memory) (N := 4) (ty := .array .int) (x := (some q1)) hx hb 12 2 hts fin_Memory t_Memory t_Memory_ok n_Memory hown hR hS hk4 (by decide) rfl (by decide) rfl (hts _ m_56a50a6f) (fun _ h9 => h9) rfl hnm rfl (by decide +kernel) (xb_pnA _ _).1 (xb_pnA _ _).2 (xb_d D_Memory_init 5 rfl) (fun H locs hR hS => ?_)
  obtain ⟨h5, eh5⟩ : ∃ x : xb_H, x = xb_P h2 x0 2 (some q1) := ⟨_, rfl⟩
  rw [← eh5] at hR
  have hw := hw h5 eh5
  have hE : xb_ext h0 h5 := by rw [eh5]; exact hE
  refine lv_aload_n hx hb (xb_d D_Memory_init 6 rfl) rfl (lv_at hl 0 rfl) ?_
  refine lv_aload_n hx hb (xb_d D_Memory_init 7 rfl) rfl (lv_at hl 1 rfl) ?_
  have hk4 : xb_k h5 x0 = 13 := by rw [eh5]; exact hk4
  refine xb_putPF (C := R_Memory) (T := F_Memory) (N := 4) (ty := .object "StackHost$Row") (x := (some x1)) hx hb 12 0 hts fin_Memory t_Memory t_Memory_ok n_Memory hown hR hS hk4 (by decide) rfl (by decide) rfl (hts _ m_2e5685af) (fun _ h9 => h9) rfl hnm rfl (by decide +kernel) (xb_pnO _ _).1 (xb_pnO _ _).2 (xb_d D_Memory_init 8 rfl) (fun H locs hR hS => ?_)
  obtain ⟨h6, eh6⟩ : ∃ x : xb_H, x = xb_P h5 x0 0 (some x1) := ⟨_, rfl⟩
  rw [← eh6] at hR
  have hw := hw h6 eh6
  have hE : xb_ext h0 h6 := by rw [eh6]; exact hE
  refine lv_aload_n hx hb (xb_d D_Memory_init 9 rfl) rfl (lv_at hl 0 rfl) ?_
  refine lv_lload_n hx hb (xb_d D_Memory_init 10 rfl) rfl (lv_at hl 2 rfl) ?_
  have hk4 : xb_k h6 x0 = 13 := by rw [eh6]; exact hk4
  refine xb_putLF (C := R_Memory) (T := F_Memory) (N := 4) (ty := .long) (x := x2) hx hb 12 1 hts fin_Memory t_Memory t_Memory_ok n_Memory hown hR hS hk4 (by decide) rfl (by decide) rfl (hts _ m_4e6a3ead) (fun _ h9 => h9) rfl hnm rfl (by decide +kernel) rfl rfl (xb_d D_Memory_init 11 rfl) (fun H locs hR hS => ?_)
  obtain ⟨h7, eh7⟩ : ∃ x : xb_H, x = xb_L h6 x0 1 x2 := ⟨_, rfl⟩
  rw [← eh7] at hR
  have hw := hw h7 eh7
  have hE : xb_ext h0 h7 := by rw [eh7]; exact hE
  exact xb_vret hx hb hr hlocks (show (k + 1) ≤ MC by omega) (show (n + 16) ≤ MS by omega) hE hR hS (xb_d D_Memory_init 12 rfl) hw

theorem m_862d66b2 : (.fieldLink "StackHost$Memory" 23 "StackHost$Memory" "pageCount" "I" : Cond) ∈ xt_tbl := xt_in (xt_t7 (List.mem_of_getElem? (i := 78) (by decide +kernel))) (by decide +kernel)
theorem m_3b4331e6 : (.constant "StackHost$Memory" 27 65536 : Cond) ∈ xt_tbl := xt_in (xt_t6 (List.mem_of_getElem? (i := 228) (by decide +kernel))) (by decide +kernel)
set_option maxRecDepth 100000 in
def T_Memory_bytes : List (Nat × Instr × Nat) := [(0, .aload_n 0, 1), (1, .getfield 23, 3), (4, .ldc 27, 2), (6, .imul, 1), (7, .ireturn, 1)]
theorem D_Memory_bytes : ∀ q ∈ T_Memory_bytes, decode b_Memory_bytes q.1 = .ok (q.2.1, q.2.2) := by decide +kernel
def w_Memory_bytes (x0 : Nat) (h : xb_H) (Qr : Int32 → xb_H → Prop) : Prop :=
    xb_k h x0 = 13 ∧ Qr ((xb_i h x0 3) * 65536) h

set_option maxHeartbeats 4000000 in
set_option maxRecDepth 100000 in
theorem ok_Memory_bytes (l : Launch) (hfl : l.flags = pinnedFlags ++ [noTraceFlag]) (D : va_G) (A : Nat → Prop) (σ : Nat) (x0 : Nat) (h : xb_H) (Qr : Int32 → xb_H → Prop) (hw : w_Memory_bytes x0 h Qr) : xt_Met l y_Memory_bytes [.code y_Memory_bytes b_Memory_bytes 1 (some .int)] (xb_rm 2 0 0) (xb_Pc D A σ h [.ref x0]) (xb_Qc D A h (fun v h => ∃ r, v = some (.int r) ∧ Qr r h) (fun _ _ => False)) 0 0 A := by
  refine xb_ofAm (cc := b_Memory_bytes) (by decide) (Nat.le_of_ble_eq_true rfl) ?_
  unfold w_Memory_bytes at hw
  show xb_am l D A σ 2 0 0 h (fun v h => ∃ r, v = some (.int r) ∧ Qr r h) (fun _ _ => False) y_Memory_bytes.cls y_Memory_bytes.name b_Memory_bytes 1 ([] : List ExceptionTableEntry) (some .int) 0 [(0, .ref x0)] [] h 0 0
  obtain ⟨MC, hMC⟩ : ∃ x, x = 0 := ⟨_, rfl⟩
  obtain ⟨MS, hMS⟩ : ∃ x, x = 0 := ⟨_, rfl⟩
  rw [show xb_am l D A σ 2 0 0 = xb_am l D A σ 2 MC MS by rw [hMC, hMS]]
  obtain ⟨h0, hh0⟩ : ∃ x, x = h := ⟨_, rfl⟩
  rw [show xb_am l D A σ 2 MC MS h = xb_am l D A σ 2 MC MS h0 by rw [hh0]]
  intro p e s m args below meth c hC H locs ls k n hE hl hR hS hk hn
  obtain ⟨hx, hb, hown, hlocks, htab, hml, hr, hB, hA, hnm⟩ := id hC
  have hts := hB.1.1.at args
  refine lv_aload_n hx hb (xb_d D_Memory_bytes 0 rfl) rfl (lv_at hl 0 rfl) ?_
  obtain ⟨hk1, hw⟩ := hw
  refine xb_getI (C := R_Memory) (T := F_Memory) (N := 4) hx hb 12 3 hts fin_Memory hown hR hk1 (by decide) rfl (by decide) rfl (hts _ m_862d66b2) (fun _ h9 => h9) (xb_d D_Memory_bytes 1 rfl) ?_
  refine lv_ldc (v := 65536) hx hb hown (hts _ m_3b4331e6) (xb_d D_Memory_bytes 2 rfl) ?_
  refine lv_imul hx hb (xb_d D_Memory_bytes 3 rfl) ?_
  exact xb_iret hx hb hr hlocks (show k ≤ MC by omega) (show n ≤ MS by omega) hE hR hS (xb_d D_Memory_bytes 4 rfl) hw

theorem m_63fbcb17 : (.constant "StackHost$Memory" 28 65535 : Cond) ∈ xt_tbl := xt_in (xt_t7 (List.mem_of_getElem? (i := 112) (by decide +kernel))) (by decide +kernel)
set_option maxRecDepth 100000 in
def T_Memory_wordOf : List (Nat × Instr × Nat) := [(0, .aload_n 0, 1), (1, .getfield 9, 3), (4, .iload_n 1, 1), (5, .bipush 16, 2), (7, .iushr, 1), (8, .iaload, 1), (9, .sipush 8192, 3), (12, .imul, 1), (13, .iload_n 1, 1), (14, .ldc 28, 2), (16, .iand, 1), (17, .iconst 3, 1), (18, .iushr, 1), (19, .iadd, 1), (20, .ireturn, 1)]
theorem D_Memory_wordOf : ∀ q ∈ T_Memory_wordOf, decode b_Memory_wordOf q.1 = .ok (q.2.1, q.2.2) := by decide +kernel
def w_Memory_wordOf (x0 : Nat) (x1 : Int32) (h : xb_H) (Qr : Int32 → xb_H → Prop) : Prop :=
    xb_k h x0 = 13 ∧ ∃ b2 : Nat, (xb_r h x0 2) = some b2 ∧ xb_k h b2 = 102 ∧ vp_in (xb_ushr x1 16) (xb_n h b2) ∧ Qr (((xb_i h b2 (Int32.toNatClampNeg (xb_ushr x1 16))) * 8192) + (xb_ushr (x1 &&& 65535) 3)) h

set_option maxHeartbeats 4000000 in
set_option maxRecDepth 100000 in
theorem ok_Memory_wordOf (l : Launch) (hfl : l.flags = pinnedFlags ++ [noTraceFlag]) (D : va_G) (A : Nat → Prop) (σ : Nat) (x0 : Nat) (x1 : Int32) (h : xb_H) (Qr : Int32 → xb_H → Prop) (hw : w_Memory_wordOf x0 x1 h Qr) : xt_Met l y_Memory_wordOf [.code y_Memory_wordOf b_Memory_wordOf 2 (some .int)] (xb_rm 2 0 0) (xb_Pc D A σ h [.ref x0, .int x1]) (xb_Qc D A h (fun v h => ∃ r, v = some (.int r) ∧ Qr r h) (fun _ _ => False)) 0 0 A := by
  refine xb_ofAm (cc := b_Memory_wordOf) (by decide) (Nat.le_of_ble_eq_true rfl) ?_
  unfold w_Memory_wordOf at hw
  show xb_am l D A σ 2 0 0 h (fun v h => ∃ r, v = some (.int r) ∧ Qr r h) (fun _ _ => False) y_Memory_wordOf.cls y_Memory_wordOf.name b_Memory_wordOf 2 ([] : List ExceptionTableEntry) (some .int) 0 [(0, .ref x0), (1, .int x1)] [] h 0 0
  obtain ⟨MC, hMC⟩ : ∃ x, x = 0 := ⟨_, rfl⟩
  obtain ⟨MS, hMS⟩ : ∃ x, x = 0 := ⟨_, rfl⟩
  rw [show xb_am l D A σ 2 0 0 = xb_am l D A σ 2 MC MS by rw [hMC, hMS]]
  obtain ⟨h0, hh0⟩ : ∃ x, x = h := ⟨_, rfl⟩
  rw [show xb_am l D A σ 2 MC MS h = xb_am l D A σ 2 MC MS h0 by rw [hh0]]
  intro p e s m args below meth c hC H locs ls k n hE hl hR hS hk hn
  obtain ⟨hx, hb, hown, hlocks, htab, hml, hr, hB, hA, hnm⟩ := id hC
  have hts := hB.1.1.at args
  refine lv_aload_n hx hb (xb_d D_Memory_wordOf 0 rfl) rfl (lv_at hl 0 rfl) ?_
  obtain ⟨hk1, hw⟩ := hw
  refine xb_getP (C := R_Memory) (T := F_Memory) (N := 4) hx hb 12 2 hts fin_Memory hown hR hk1 (by decide) rfl (by decide) rfl (hts _ m_56a50a6f) (fun _ h9 => h9) (xb_d D_Memory_wordOf 1 rfl) ?_
  obtain ⟨b2, eb2, hw⟩ := hw
  refine xb_some eb2 ?_
  refine lv_iload_n hx hb (xb_d D_Memory_wordOf 2 rfl) rfl (lv_at hl 1 rfl) ?_
  refine lv_bipush (v := 16) hx hb (xb_d D_Memory_wordOf 3 rfl) (by decide) ?_
  refine lv_iushr (v := xb_ushr x1 16) hx hb (xb_d D_Memory_wordOf 4 rfl) rfl ?_
  obtain ⟨hk4, hw⟩ := hw
  obtain ⟨hi3, hw⟩ := hw
  refine xb_iald hx hb hR hk4 hi3 (xb_d D_Memory_wordOf 5 rfl) ?_
  refine lv_sipush (v := 8192) hx hb (xb_d D_Memory_wordOf 6 rfl) (by decide) ?_
  refine lv_imul hx hb (xb_d D_Memory_wordOf 7 rfl) ?_
  refine lv_iload_n hx hb (xb_d D_Memory_wordOf 8 rfl) rfl (lv_at hl 1 rfl) ?_
  refine lv_ldc (v := 65535) hx hb hown (hts _ m_63fbcb17) (xb_d D_Memory_wordOf 9 rfl) ?_
  refine lv_iand hx hb (xb_d D_Memory_wordOf 10 rfl) ?_
  refine lv_iconst (v := 3) hx hb (xb_d D_Memory_wordOf 11 rfl) (by decide) ?_
  refine lv_iushr (v := xb_ushr (x1 &&& 65535) 3) hx hb (xb_d D_Memory_wordOf 12 rfl) rfl ?_
  refine lv_iadd hx hb (xb_d D_Memory_wordOf 13 rfl) ?_
  exact xb_iret hx hb hr hlocks (show k ≤ MC by omega) (show n ≤ MS by omega) hE hR hS (xb_d D_Memory_wordOf 14 rfl) hw

theorem m_fd6399d7 : (.methodLink "StackHost$Reader" 3 objectInit : Cond) ∈ xt_tbl := xt_in (xt_t1 (List.mem_of_getElem? (i := 49) (by decide +kernel))) (by decide +kernel)
theorem m_59e07c6d : (.fieldLink "StackHost$Reader" 9 "StackHost$Reader" "opened" "[I" : Cond) ∈ xt_tbl := xt_in (xt_t1 (List.mem_of_getElem? (i := 55) (by decide +kernel))) (by decide +kernel)
set_option maxRecDepth 100000 in
def T_Reader_init : List (Nat × Instr × Nat) := [(0, .aload_n 0, 1), (1, .invokespecial 3, 3), (4, .aload_n 0, 1), (5, .sipush 200, 3), (8, .newarray .int, 2), (10, .putfield 9, 3), (13, .return_, 1)]
theorem D_Reader_init : ∀ q ∈ T_Reader_init, decode b_Reader_init q.1 = .ok (q.2.1, q.2.2) := by decide +kernel
def w_Reader_init (x0 : Nat) (h : xb_H) (bc : Nat) (bs : Nat) (Qr : xb_H → Prop) : Prop :=
    1 ≤ bc ∧ 200 ≤ bs ∧ ∀ q1 : Nat, xb_k h q1 = 0 → ∀ h2 : xb_H, h2 = xb_new h q1 102 200 → xb_k h2 x0 = 4 ∧ ∀ h5 : xb_H, h5 = xb_P h2 x0 5 (some q1) → Qr h5

set_option maxHeartbeats 4000000 in
set_option maxRecDepth 100000 in
theorem ok_Reader_init (l : Launch) (hfl : l.flags = pinnedFlags ++ [noTraceFlag]) (D : va_G) (A : Nat → Prop) (σ : Nat) (x0 : Nat) (h : xb_H) (bc : Nat) (bs : Nat) (Qr : xb_H → Prop) (hw : w_Reader_init x0 h bc bs Qr) : xt_Met l y_Reader_init [.code y_Reader_init b_Reader_init 1 none] (xb_rm 2 bc bs) (xb_Pc D A σ h [.ref x0]) (xb_Qc D A h (fun v h => v = none ∧ Qr h) (fun _ _ => False)) bc bs A := by
  refine xb_ofAm (cc := b_Reader_init) (by decide) (Nat.le_of_ble_eq_true rfl) ?_
  unfold w_Reader_init at hw
  show xb_am l D A σ 2 bc bs h (fun v h => v = none ∧ Qr h) (fun _ _ => False) y_Reader_init.cls y_Reader_init.name b_Reader_init 1 ([] : List ExceptionTableEntry) none 0 [(0, .ref x0)] [] h bc bs
  obtain ⟨MC, hMC⟩ : ∃ x, x = bc := ⟨_, rfl⟩
  obtain ⟨MS, hMS⟩ : ∃ x, x = bs := ⟨_, rfl⟩
  rw [show xb_am l D A σ 2 bc bs = xb_am l D A σ 2 MC MS by rw [hMC, hMS]]
  obtain ⟨h0, hh0⟩ : ∃ x, x = h := ⟨_, rfl⟩
  rw [show xb_am l D A σ 2 MC MS h = xb_am l D A σ 2 MC MS h0 by rw [hh0]]
  intro p e s m args below meth c hC H locs ls k n hE hl hR hS hk hn
  obtain ⟨hx, hb, hown, hlocks, htab, hml, hr, hB, hA, hnm⟩ := id hC
  have hts := hB.1.1.at args
  refine lv_aload_n hx hb (xb_d D_Reader_init 0 rfl) rfl (lv_at hl 0 rfl) ?_
  refine W.objInit hx hb hown (hts _ m_fd6399d7) (hts _ m_fba9d542) (hts _ m_9febdb7e) rfl (hml.trans hl.1.symm).symm rfl (xb_d D_Reader_init 1 rfl) (by show 1 ≤ 8 + _; omega) (Nat.le_trans (Nat.le_of_ble_eq_true rfl : _ ≤ 40) (by show 40 ≤ 120 + _; omega)) ?_
  refine W.eq (g2 := F0 m 4 ls []) rfl ?_
  refine lv_aload_n hx hb (xb_d D_Reader_init 2 rfl) rfl (lv_at hl 0 rfl) ?_
  refine lv_sipush (v := 200) hx hb (xb_d D_Reader_init 3 rfl) (by decide) ?_
  obtain ⟨hcq1, hsq1, hw⟩ := hw
  have enq1 : (200 : Int32).toNatClampNeg = 200 := by decide
  refine xb_newa_i hx hb (hts _ m_d160d5ac) hR hS hA (by decide) (by decide +kernel) (show k + 1 ≤ MC by omega) (show n + _ ≤ MS by rw [enq1]; omega) (xb_d D_Reader_init 4 rfl) (fun q1 H hqq1 hR hS => ?_)
  rw [enq1] at hR ⊢
  have hw := hw q1 hqq1
  obtain ⟨h2, eh2⟩ : ∃ x : xb_H, x = xb_new h q1 102 200 := ⟨_, rfl⟩
  rw [← eh2] at hR
  have hw := hw h2 eh2
  have hE : xb_ext h0 h2 := by rw [eh2]; exact hE.new _ _ hqq1
  have hk3 : xb_k h2 q1 = 102 := by rw [eh2]; exact xb_new_k _ _ _ _
  obtain ⟨hk4, hw⟩ := hw
  refine xb_putPF (C := R_Reader) (T := F_Reader) (N := 6) (ty := .array .int) (x := (some q1)) hx hb 3 5 hts fin_Reader t_Reader t_Reader_ok n_Reader hown hR hS hk4 (by decide) rfl (by decide) rfl (hts _ m_59e07c6d) (fun _ h9 => h9) rfl hnm rfl (by decide +kernel) (xb_pnA _ _).1 (xb_pnA _ _).2 (xb_d D_Reader_init 5 rfl) (fun H locs hR hS => ?_)
  obtain ⟨h5, eh5⟩ : ∃ x : xb_H, x = xb_P h2 x0 5 (some q1) := ⟨_, rfl⟩
  rw [← eh5] at hR
  have hw := hw h5 eh5
  have hE : xb_ext h0 h5 := by rw [eh5]; exact hE
  exact xb_vret hx hb hr hlocks (show (k + 1) ≤ MC by omega) (show (n + 200) ≤ MS by omega) hE hR hS (xb_d D_Reader_init 6 rfl) hw

set_option maxRecDepth 100000 in
def T_Reader_endsSigned : List (Nat × Instr × Nat) := [(0, .iload_n 1, 1), (1, .iconst 5, 1), (2, .if_icmp .ne 27, 3), (5, .iload_n 0, 1), (6, .bipush 7, 2), (8, .if_icmp .le 15, 3), (11, .iload_n 0, 1), (12, .bipush 120, 2), (14, .if_icmp .lt 13, 3), (17, .iload_n 0, 1), (18, .bipush 127, 2), (20, .if_icmp .gt 7, 3), (23, .iconst 1, 1), (24, .goto 4, 3), (27, .iconst 0, 1), (28, .ireturn, 1), (29, .iload_n 0, 1), (30, .ifCond .eq 9, 3), (33, .iload_n 0, 1), (34, .bipush 127, 2), (36, .if_icmp .ne 7, 3), (39, .iconst 1, 1), (40, .goto 4, 3), (43, .iconst 0, 1), (44, .ireturn, 1)]
theorem D_Reader_endsSigned : ∀ q ∈ T_Reader_endsSigned, decode b_Reader_endsSigned q.1 = .ok (q.2.1, q.2.2) := by decide +kernel
def w_Reader_endsSigned_L44 (Qr : Int32 → xb_H → Prop) (y0 : Int32) (h : xb_H) : Prop :=
    (y0 = 0 ∨ y0 = 1) ∧ Qr y0 h

def w_Reader_endsSigned_L39 (Qr : Int32 → xb_H → Prop) (h : xb_H) : Prop :=
    w_Reader_endsSigned_L44 Qr 1 h

def w_Reader_endsSigned_L28 (Qr : Int32 → xb_H → Prop) (y0 : Int32) (h : xb_H) : Prop :=
    (y0 = 0 ∨ y0 = 1) ∧ Qr y0 h

def w_Reader_endsSigned_L27 (Qr : Int32 → xb_H → Prop) (h : xb_H) : Prop :=
    w_Reader_endsSigned_L28 Qr 0 h

def w_Reader_endsSigned_L23 (Qr : Int32 → xb_H → Prop) (h : xb_H) : Prop :=
    w_Reader_endsSigned_L28 Qr 1 h

def w_Reader_endsSigned (x0 : Int32) (x1 : Int32) (h : xb_H) (Qr : Int32 → xb_H → Prop) : Prop :=
    ((¬ x1 = (5 : Int32) → ((x0 = (0 : Int32) → w_Reader_endsSigned_L39 Qr h) ∧ (¬ x0 = (0 : Int32) → ((¬ x0 = (127 : Int32) → w_Reader_endsSigned_L44 Qr 0 h) ∧ (x0 = (127 : Int32) → w_Reader_endsSigned_L39 Qr h))))) ∧ (x1 = (5 : Int32) → ((x0 ≤ (7 : Int32) → w_Reader_endsSigned_L23 Qr h) ∧ (¬ x0 ≤ (7 : Int32) → ((x0 < (120 : Int32) → w_Reader_endsSigned_L27 Qr h) ∧ (¬ x0 < (120 : Int32) → (((127 : Int32) < x0 → w_Reader_endsSigned_L27 Qr h) ∧ (¬ (127 : Int32) < x0 → w_Reader_endsSigned_L23 Qr h))))))))

set_option maxHeartbeats 4000000 in
set_option maxRecDepth 100000 in
theorem am_Reader_endsSigned_L44 (l : Launch) (hfl : l.flags = pinnedFlags ++ [noTraceFlag]) (D : va_G) (A : Nat → Prop) (σ MC MS : Nat) (h0 : xb_H) (Qr : Int32 → xb_H → Prop) (y0 : Int32) (h : xb_H) (hw : w_Reader_endsSigned_L44 Qr y0 h) : xb_am l D A σ 2 MC MS h0 (fun v h => ∃ r, v = some (.int r) ∧ Qr r h) (fun _ _ => False) y_Reader_endsSigned.cls y_Reader_endsSigned.name b_Reader_endsSigned 2 ([] : List ExceptionTableEntry) (some .boolean) 44 [] [.int y0] h 0 0 := by
  unfold w_Reader_endsSigned_L44 at hw
  intro p e s m args below meth c hC H locs ls k n hE hl hR hS hk hn
  obtain ⟨hx, hb, hown, hlocks, htab, hml, hr, hB, hA, hnm⟩ := id hC
  have hts := hB.1.1.at args
  exact xb_zret hx hb hr hlocks (show k ≤ MC by omega) (show n ≤ MS by omega) hw.1 hE hR hS (xb_d D_Reader_endsSigned 24 rfl) hw.2

set_option maxHeartbeats 4000000 in
set_option maxRecDepth 100000 in
theorem am_Reader_endsSigned_L39 (l : Launch) (hfl : l.flags = pinnedFlags ++ [noTraceFlag]) (D : va_G) (A : Nat → Prop) (σ MC MS : Nat) (h0 : xb_H) (Qr : Int32 → xb_H → Prop) (h : xb_H) (hw : w_Reader_endsSigned_L39 Qr h) : xb_am l D A σ 2 MC MS h0 (fun v h => ∃ r, v = some (.int r) ∧ Qr r h) (fun _ _ => False) y_Reader_endsSigned.cls y_Reader_endsSigned.name b_Reader_endsSigned 2 ([] : List ExceptionTableEntry) (some .boolean) 39 [] [] h 0 0 := by
  unfold w_Reader_endsSigned_L39 at hw
  intro p e s m args below meth c hC H locs ls k n hE hl hR hS hk hn
  obtain ⟨hx, hb, hown, hlocks, htab, hml, hr, hB, hA, hnm⟩ := id hC
  have hts := hB.1.1.at args
  refine lv_iconst (v := 1) hx hb (xb_d D_Reader_endsSigned 21 rfl) (by decide) ?_
  refine lv_goto (tgt := 44) hx hb (xb_d D_Reader_endsSigned 22 rfl) rfl ?_
  exact am_Reader_endsSigned_L44 l hfl D A σ MC MS h0 Qr 1 h hw p e s m args below meth c hC H locs ls k n hE (lv_sub hl [] rfl) hR hS (by omega) (by omega)

set_option maxHeartbeats 4000000 in
set_option maxRecDepth 100000 in
theorem am_Reader_endsSigned_L28 (l : Launch) (hfl : l.flags = pinnedFlags ++ [noTraceFlag]) (D : va_G) (A : Nat → Prop) (σ MC MS : Nat) (h0 : xb_H) (Qr : Int32 → xb_H → Prop) (y0 : Int32) (h : xb_H) (hw : w_Reader_endsSigned_L28 Qr y0 h) : xb_am l D A σ 2 MC MS h0 (fun v h => ∃ r, v = some (.int r) ∧ Qr r h) (fun _ _ => False) y_Reader_endsSigned.cls y_Reader_endsSigned.name b_Reader_endsSigned 2 ([] : List ExceptionTableEntry) (some .boolean) 28 [] [.int y0] h 0 0 := by
  unfold w_Reader_endsSigned_L28 at hw
  intro p e s m args below meth c hC H locs ls k n hE hl hR hS hk hn
  obtain ⟨hx, hb, hown, hlocks, htab, hml, hr, hB, hA, hnm⟩ := id hC
  have hts := hB.1.1.at args
  exact xb_zret hx hb hr hlocks (show k ≤ MC by omega) (show n ≤ MS by omega) hw.1 hE hR hS (xb_d D_Reader_endsSigned 15 rfl) hw.2

set_option maxHeartbeats 4000000 in
set_option maxRecDepth 100000 in
theorem am_Reader_endsSigned_L27 (l : Launch) (hfl : l.flags = pinnedFlags ++ [noTraceFlag]) (D : va_G) (A : Nat → Prop) (σ MC MS : Nat) (h0 : xb_H) (Qr : Int32 → xb_H → Prop) (h : xb_H) (hw : w_Reader_endsSigned_L27 Qr h) : xb_am l D A σ 2 MC MS h0 (fun v h => ∃ r, v = some (.int r) ∧ Qr r h) (fun _ _ => False) y_Reader_endsSigned.cls y_Reader_endsSigned.name b_Reader_endsSigned 2 ([] : List ExceptionTableEntry) (some .boolean) 27 [] [] h 0 0 := by
  unfold w_Reader_endsSigned_L27 at hw
  intro p e s m args below meth c hC H locs ls k n hE hl hR hS hk hn
  obtain ⟨hx, hb, hown, hlocks, htab, hml, hr, hB, hA, hnm⟩ := id hC
  have hts := hB.1.1.at args
  refine lv_iconst (v := 0) hx hb (xb_d D_Reader_endsSigned 14 rfl) (by decide) ?_
  exact am_Reader_endsSigned_L28 l hfl D A σ MC MS h0 Qr 0 h hw p e s m args below meth c hC H locs ls k n hE (lv_sub hl [] rfl) hR hS (by omega) (by omega)

set_option maxHeartbeats 4000000 in
set_option maxRecDepth 100000 in
theorem am_Reader_endsSigned_L23 (l : Launch) (hfl : l.flags = pinnedFlags ++ [noTraceFlag]) (D : va_G) (A : Nat → Prop) (σ MC MS : Nat) (h0 : xb_H) (Qr : Int32 → xb_H → Prop) (h : xb_H) (hw : w_Reader_endsSigned_L23 Qr h) : xb_am l D A σ 2 MC MS h0 (fun v h => ∃ r, v = some (.int r) ∧ Qr r h) (fun _ _ => False) y_Reader_endsSigned.cls y_Reader_endsSigned.name b_Reader_endsSigned 2 ([] : List ExceptionTableEntry) (some .boolean) 23 [] [] h 0 0 := by
  unfold w_Reader_endsSigned_L23 at hw
  intro p e s m args below meth c hC H locs ls k n hE hl hR hS hk hn
  obtain ⟨hx, hb, hown, hlocks, htab, hml, hr, hB, hA, hnm⟩ := id hC
  have hts := hB.1.1.at args
  refine lv_iconst (v := 1) hx hb (xb_d D_Reader_endsSigned 12 rfl) (by decide) ?_
  refine lv_goto (tgt := 28) hx hb (xb_d D_Reader_endsSigned 13 rfl) rfl ?_
  exact am_Reader_endsSigned_L28 l hfl D A σ MC MS h0 Qr 1 h hw p e s m args below meth c hC H locs ls k n hE (lv_sub hl [] rfl) hR hS (by omega) (by omega)

set_option maxHeartbeats 4000000 in
set_option maxRecDepth 100000 in
theorem ok_Reader_endsSigned (l : Launch) (hfl : l.flags = pinnedFlags ++ [noTraceFlag]) (D : va_G) (A : Nat → Prop) (σ : Nat) (x0 : Int32) (x1 : Int32) (h : xb_H) (Qr : Int32 → xb_H → Prop) (hw : w_Reader_endsSigned x0 x1 h Qr) : xt_Met l y_Reader_endsSigned [.code y_Reader_endsSigned b_Reader_endsSigned 2 (some .boolean)] (xb_rm 2 0 0) (xb_Pc D A σ h [.int x0, .int x1]) (xb_Qc D A h (fun v h => ∃ r, v = some (.int r) ∧ Qr r h) (fun _ _ => False)) 0 0 A := by
  refine xb_ofAm (cc := b_Reader_endsSigned) (by decide) (Nat.le_of_ble_eq_true rfl) ?_
  unfold w_Reader_endsSigned at hw
  show xb_am l D A σ 2 0 0 h (fun v h => ∃ r, v = some (.int r) ∧ Qr r h) (fun _ _ => False) y_Reader_endsSigned.cls y_Reader_endsSigned.name b_Reader_endsSigned 2 ([] : List ExceptionTableEntry) (some .boolean) 0 [(0, .int x0), (1, .int x1)] [] h 0 0
  obtain ⟨MC, hMC⟩ : ∃ x, x = 0 := ⟨_, rfl⟩
  obtain ⟨MS, hMS⟩ : ∃ x, x = 0 := ⟨_, rfl⟩
  rw [show xb_am l D A σ 2 0 0 = xb_am l D A σ 2 MC MS by rw [hMC, hMS]]
  obtain ⟨h0, hh0⟩ : ∃ x, x = h := ⟨_, rfl⟩
  rw [show xb_am l D A σ 2 MC MS h = xb_am l D A σ 2 MC MS h0 by rw [hh0]]
  intro p e s m args below meth c hC H locs ls k n hE hl hR hS hk hn
  obtain ⟨hx, hb, hown, hlocks, htab, hml, hr, hB, hA, hnm⟩ := id hC
  have hts := hB.1.1.at args
  refine lv_iload_n hx hb (xb_d D_Reader_endsSigned 0 rfl) rfl (lv_at hl 1 rfl) ?_
  refine lv_iconst (v := 5) hx hb (xb_d D_Reader_endsSigned 1 rfl) (by decide) ?_
  refine lv_icmp_ne (tgt := 29) hx hb (xb_d D_Reader_endsSigned 2 rfl) rfl (fun hc1 => ?_) (fun hc1 => ?_)
  · have hw := hw.1 hc1
    refine lv_iload_n hx hb (xb_d D_Reader_endsSigned 16 rfl) rfl (lv_at hl 0 rfl) ?_
    refine lv_if_eq (tgt := 39) hx hb (xb_d D_Reader_endsSigned 17 rfl) rfl (fun hc2 => ?_) (fun hc2 => ?_)
    · have hw := hw.1 hc2
      exact am_Reader_endsSigned_L39 l hfl D A σ MC MS h0 Qr h hw p e s m args below meth c hC H locs ls k n hE (lv_sub hl [] rfl) hR hS (by omega) (by omega)
    · have hw := hw.2 hc2
      refine lv_iload_n hx hb (xb_d D_Reader_endsSigned 18 rfl) rfl (lv_at hl 0 rfl) ?_
      refine lv_bipush (v := 127) hx hb (xb_d D_Reader_endsSigned 19 rfl) (by decide) ?_
      refine lv_icmp_ne (tgt := 43) hx hb (xb_d D_Reader_endsSigned 20 rfl) rfl (fun hc3 => ?_) (fun hc3 => ?_)
      · have hw := hw.1 hc3
        refine lv_iconst (v := 0) hx hb (xb_d D_Reader_endsSigned 23 rfl) (by decide) ?_
        exact am_Reader_endsSigned_L44 l hfl D A σ MC MS h0 Qr 0 h hw p e s m args below meth c hC H locs ls k n hE (lv_sub hl [] rfl) hR hS (by omega) (by omega)
      · have hw := hw.2 hc3
        exact am_Reader_endsSigned_L39 l hfl D A σ MC MS h0 Qr h hw p e s m args below meth c hC H locs ls k n hE (lv_sub hl [] rfl) hR hS (by omega) (by omega)
  · have hw := hw.2 hc1
    refine lv_iload_n hx hb (xb_d D_Reader_endsSigned 3 rfl) rfl (lv_at hl 0 rfl) ?_
    refine lv_bipush (v := 7) hx hb (xb_d D_Reader_endsSigned 4 rfl) (by decide) ?_
    refine lv_icmp_le (tgt := 23) hx hb (xb_d D_Reader_endsSigned 5 rfl) rfl (fun hc4 => ?_) (fun hc4 => ?_)
    · have hw := hw.1 hc4
      exact am_Reader_endsSigned_L23 l hfl D A σ MC MS h0 Qr h hw p e s m args below meth c hC H locs ls k n hE (lv_sub hl [] rfl) hR hS (by omega) (by omega)
    · have hw := hw.2 hc4
      refine lv_iload_n hx hb (xb_d D_Reader_endsSigned 6 rfl) rfl (lv_at hl 0 rfl) ?_
      refine lv_bipush (v := 120) hx hb (xb_d D_Reader_endsSigned 7 rfl) (by decide) ?_
      refine lv_icmp_lt (tgt := 27) hx hb (xb_d D_Reader_endsSigned 8 rfl) rfl (fun hc5 => ?_) (fun hc5 => ?_)
      · have hw := hw.1 hc5
        exact am_Reader_endsSigned_L27 l hfl D A σ MC MS h0 Qr h hw p e s m args below meth c hC H locs ls k n hE (lv_sub hl [] rfl) hR hS (by omega) (by omega)
      · have hw := hw.2 hc5
        refine lv_iload_n hx hb (xb_d D_Reader_endsSigned 9 rfl) rfl (lv_at hl 0 rfl) ?_
        refine lv_bipush (v := 127) hx hb (xb_d D_Reader_endsSigned 10 rfl) (by decide) ?_
        refine lv_icmp_gt (tgt := 27) hx hb (xb_d D_Reader_endsSigned 11 rfl) rfl (fun hc6 => ?_) (fun hc6 => ?_)
        · have hw := hw.1 hc6
          exact am_Reader_endsSigned_L27 l hfl D A σ MC MS h0 Qr h hw p e s m args below meth c hC H locs ls k n hE (lv_sub hl [] rfl) hR hS (by omega) (by omega)
        · have hw := hw.2 hc6
          exact am_Reader_endsSigned_L23 l hfl D A σ MC MS h0 Qr h hw p e s m args below meth c hC H locs ls k n hE (lv_sub hl [] rfl) hR hS (by omega) (by omega)

