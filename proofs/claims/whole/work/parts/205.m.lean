theorem m_8158dce5 : (.fieldLink "StackHostModel" 613 "StackHostModel" "bad" "Z" : Cond) ∈ xt_tbl := xt_in (xt_t9 (List.mem_of_getElem? (i := 232) (by decide +kernel))) (by decide +kernel)
set_option maxRecDepth 100000 in
def T_M_pop : List (Nat × Instr × Nat) := [(0, .aload_n 0, 1), (1, .getfield 610, 3), (4, .ifCond .le 21, 3), (7, .aload_n 0, 1), (8, .getfield 607, 3), (11, .aload_n 0, 1), (12, .getfield 170, 3), (15, .aload_n 0, 1), (16, .getfield 610, 3), (19, .iconst 1, 1), (20, .isub, 1), (21, .iaload, 1), (22, .if_icmp .le 10, 3), (25, .aload_n 0, 1), (26, .getfield 607, 3), (29, .ifCond .ne 10, 3), (32, .aload_n 0, 1), (33, .iconst 1, 1), (34, .putfield 613, 3), (37, .lconst 0, 1), (38, .lreturn, 1), (39, .aload_n 0, 1), (40, .dup, 1), (41, .getfield 607, 3), (44, .iconst 1, 1), (45, .isub, 1), (46, .putfield 607, 3), (49, .aload_n 0, 1), (50, .aload_n 0, 1), (51, .getfield 613, 3), (54, .ifCond .ne 20, 3), (57, .iload_n 1, 1), (58, .ifCond .eq 20, 3), (61, .aload_n 0, 1), (62, .getfield 157, 3), (65, .aload_n 0, 1), (66, .getfield 607, 3), (69, .baload, 1), (70, .iload_n 1, 1), (71, .if_icmp .eq 7, 3), (74, .iconst 1, 1), (75, .goto 4, 3), (78, .iconst 0, 1), (79, .putfield 613, 3), (82, .aload_n 0, 1), (83, .getfield 154, 3), (86, .aload_n 0, 1), (87, .getfield 607, 3), (90, .laload, 1), (91, .lreturn, 1)]
theorem D_M_pop : ∀ q ∈ T_M_pop, decode b_M_pop q.1 = .ok (q.2.1, q.2.2) := by decide +kernel
def w_M_pop_L79 (Qr : Int64 → xb_H → Prop) (x0 : Nat) (y0 : Int32) (y1 : Nat) (h : xb_H) : Prop :=
    xb_k h y1 = 9 ∧ (y0 = 0 ∨ y0 = 1) ∧ ∀ h3 : xb_H, h3 = xb_I h y1 94 y0 → xb_k h3 x0 = 9 ∧ ∃ b5 : Nat, (xb_r h3 x0 74) = some b5 ∧ xb_k h3 b5 = 103 ∧ vp_in (xb_i h3 x0 76) (xb_n h3 b5) ∧ Qr (xb_l h3 b5 (Int32.toNatClampNeg (xb_i h3 x0 76))) h3

def w_M_pop_L78 (Qr : Int64 → xb_H → Prop) (x0 : Nat) (y0 : Nat) (h : xb_H) : Prop :=
    w_M_pop_L79 Qr x0 0 y0 h

def w_M_pop_L74 (Qr : Int64 → xb_H → Prop) (x0 : Nat) (y0 : Nat) (h : xb_H) : Prop :=
    w_M_pop_L79 Qr x0 1 y0 h

def w_M_pop_L32 (Qr : Int64 → xb_H → Prop) (x0 : Nat) (h : xb_H) : Prop :=
    xb_k h x0 = 9 ∧ ∀ h2 : xb_H, h2 = xb_I h x0 94 1 → Qr 0 h2

def w_M_pop_L25 (Qr : Int64 → xb_H → Prop) (x0 : Nat) (x1 : Int32) (h : xb_H) : Prop :=
    xb_k h x0 = 9 ∧ ((¬ (xb_i h x0 76) = (0 : Int32) → ∀ h3 : xb_H, h3 = xb_I h x0 76 ((xb_i h x0 76) - 1) → ((¬ (xb_i h3 x0 94) = (0 : Int32) → w_M_pop_L74 Qr x0 x0 h3) ∧ ((xb_i h3 x0 94) = (0 : Int32) → ((x1 = (0 : Int32) → w_M_pop_L78 Qr x0 x0 h3) ∧ (¬ x1 = (0 : Int32) → ∃ b6 : Nat, (xb_r h3 x0 75) = some b6 ∧ xb_k h3 b6 = 100 ∧ vp_in (xb_i h3 x0 76) (xb_n h3 b6) ∧ (((xb_i h3 b6 (Int32.toNatClampNeg (xb_i h3 x0 76))) = x1 → w_M_pop_L78 Qr x0 x0 h3) ∧ (¬ (xb_i h3 b6 (Int32.toNatClampNeg (xb_i h3 x0 76))) = x1 → w_M_pop_L74 Qr x0 x0 h3))))))) ∧ ((xb_i h x0 76) = (0 : Int32) → w_M_pop_L32 Qr x0 h))

def w_M_pop (x0 : Nat) (x1 : Int32) (h : xb_H) (Qr : Int64 → xb_H → Prop) : Prop :=
    xb_k h x0 = 9 ∧ (((xb_i h x0 81) ≤ (0 : Int32) → w_M_pop_L25 Qr x0 x1 h) ∧ (¬ (xb_i h x0 81) ≤ (0 : Int32) → ∃ b3 : Nat, (xb_r h x0 80) = some b3 ∧ xb_k h b3 = 102 ∧ vp_in ((xb_i h x0 81) - 1) (xb_n h b3) ∧ (((xb_i h x0 76) ≤ (xb_i h b3 (Int32.toNatClampNeg ((xb_i h x0 81) - 1))) → w_M_pop_L32 Qr x0 h) ∧ (¬ (xb_i h x0 76) ≤ (xb_i h b3 (Int32.toNatClampNeg ((xb_i h x0 81) - 1))) → w_M_pop_L25 Qr x0 x1 h))))

set_option maxHeartbeats 4000000 in
set_option maxRecDepth 100000 in
theorem am_M_pop_L79 (l : Launch) (hfl : l.flags = pinnedFlags ++ [noTraceFlag]) (D : va_G) (A : Nat → Prop) (σ MC MS : Nat) (h0 : xb_H) (Qr : Int64 → xb_H → Prop) (x0 : Nat) (y0 : Int32) (y1 : Nat) (h : xb_H) (hw : w_M_pop_L79 Qr x0 y0 y1 h) : xb_am l D A σ 2 MC MS h0 (fun v h => ∃ r, v = some (.long r) ∧ Qr r h) (fun _ _ => False) y_M_pop.cls y_M_pop.name b_M_pop 2 ([] : List ExceptionTableEntry) (some .long) 79 [(0, .ref x0)] [.int y0, .ref y1] h 0 0 := by
  unfold w_M_pop_L79 at hw
  intro p e s m args below meth c hC H locs ls k n hE hl hR hS hk hn
  obtain ⟨hx, hb, hown, hlocks, htab, hml, hr, hB, hA, hnm⟩ := id hC
  have hts := hB.1.1.at args
  obtain ⟨hk1, hw⟩ := hw
  obtain ⟨hz2, hw⟩ := hw
  refine xb_putI (C := R_M) (T := F_M) (N := 97) (ty := .boolean) (x := y0) hx hb 8 94 hts fin_M t_M t_M_ok n_M hown hR hS hk1 (by decide) rfl (by decide) rfl (hts _ m_8158dce5) (fun _ h9 => h9) rfl (by decide +kernel) (xb_bn hz2).1 (xb_bn hz2).2 (xb_d D_M_pop 43 rfl) (fun H locs hR hS => ?_)
  obtain ⟨h3, eh3⟩ : ∃ x : xb_H, x = xb_I h y1 94 y0 := ⟨_, rfl⟩
  rw [← eh3] at hR
  have hw := hw h3 eh3
  have hE : xb_ext h0 h3 := by rw [eh3]; exact hE
  refine lv_aload_n hx hb (xb_d D_M_pop 44 rfl) rfl (lv_at hl 0 rfl) ?_
  obtain ⟨hk4, hw⟩ := hw
  refine xb_getP (C := R_M) (T := F_M) (N := 97) hx hb 8 74 hts fin_M hown hR hk4 (by decide) rfl (by decide) rfl (hts _ m_f82105f7) (fun _ h9 => h9) (xb_d D_M_pop 45 rfl) ?_
  obtain ⟨b5, eb5, hw⟩ := hw
  refine xb_some eb5 ?_
  refine lv_aload_n hx hb (xb_d D_M_pop 46 rfl) rfl (lv_at hl 0 rfl) ?_
  refine xb_getI (C := R_M) (T := F_M) (N := 97) hx hb 8 76 hts fin_M hown hR hk4 (by decide) rfl (by decide) rfl (hts _ m_d6ddfcd8) (fun _ h9 => h9) (xb_d D_M_pop 47 rfl) ?_
  obtain ⟨hk7, hw⟩ := hw
  obtain ⟨hi6, hw⟩ := hw
  refine xb_lald hx hb hR hk7 hi6 (xb_d D_M_pop 48 rfl) ?_
  exact xb_lret hx hb hr hlocks (show k ≤ MC by omega) (show n ≤ MS by omega) hE hR hS (xb_d D_M_pop 49 rfl) hw

set_option maxHeartbeats 4000000 in
set_option maxRecDepth 100000 in
theorem am_M_pop_L78 (l : Launch) (hfl : l.flags = pinnedFlags ++ [noTraceFlag]) (D : va_G) (A : Nat → Prop) (σ MC MS : Nat) (h0 : xb_H) (Qr : Int64 → xb_H → Prop) (x0 : Nat) (y0 : Nat) (h : xb_H) (hw : w_M_pop_L78 Qr x0 y0 h) : xb_am l D A σ 2 MC MS h0 (fun v h => ∃ r, v = some (.long r) ∧ Qr r h) (fun _ _ => False) y_M_pop.cls y_M_pop.name b_M_pop 2 ([] : List ExceptionTableEntry) (some .long) 78 [(0, .ref x0)] [.ref y0] h 0 0 := by
  unfold w_M_pop_L78 at hw
  intro p e s m args below meth c hC H locs ls k n hE hl hR hS hk hn
  obtain ⟨hx, hb, hown, hlocks, htab, hml, hr, hB, hA, hnm⟩ := id hC
  have hts := hB.1.1.at args
  refine lv_iconst (v := 0) hx hb (xb_d D_M_pop 42 rfl) (by decide) ?_
  exact am_M_pop_L79 l hfl D A σ MC MS h0 Qr x0 0 y0 h hw p e s m args below meth c hC H locs ls k n hE (lv_sub hl [0] rfl) hR hS (by omega) (by omega)

set_option maxHeartbeats 4000000 in
set_option maxRecDepth 100000 in
theorem am_M_pop_L74 (l : Launch) (hfl : l.flags = pinnedFlags ++ [noTraceFlag]) (D : va_G) (A : Nat → Prop) (σ MC MS : Nat) (h0 : xb_H) (Qr : Int64 → xb_H → Prop) (x0 : Nat) (y0 : Nat) (h : xb_H) (hw : w_M_pop_L74 Qr x0 y0 h) : xb_am l D A σ 2 MC MS h0 (fun v h => ∃ r, v = some (.long r) ∧ Qr r h) (fun _ _ => False) y_M_pop.cls y_M_pop.name b_M_pop 2 ([] : List ExceptionTableEntry) (some .long) 74 [(0, .ref x0)] [.ref y0] h 0 0 := by
  unfold w_M_pop_L74 at hw
  intro p e s m args below meth c hC H locs ls k n hE hl hR hS hk hn
  obtain ⟨hx, hb, hown, hlocks, htab, hml, hr, hB, hA, hnm⟩ := id hC
  have hts := hB.1.1.at args
  refine lv_iconst (v := 1) hx hb (xb_d D_M_pop 40 rfl) (by decide) ?_
  refine lv_goto (tgt := 79) hx hb (xb_d D_M_pop 41 rfl) rfl ?_
  exact am_M_pop_L79 l hfl D A σ MC MS h0 Qr x0 1 y0 h hw p e s m args below meth c hC H locs ls k n hE (lv_sub hl [0] rfl) hR hS (by omega) (by omega)

set_option maxHeartbeats 4000000 in
set_option maxRecDepth 100000 in
theorem am_M_pop_L32 (l : Launch) (hfl : l.flags = pinnedFlags ++ [noTraceFlag]) (D : va_G) (A : Nat → Prop) (σ MC MS : Nat) (h0 : xb_H) (Qr : Int64 → xb_H → Prop) (x0 : Nat) (h : xb_H) (hw : w_M_pop_L32 Qr x0 h) : xb_am l D A σ 2 MC MS h0 (fun v h => ∃ r, v = some (.long r) ∧ Qr r h) (fun _ _ => False) y_M_pop.cls y_M_pop.name b_M_pop 2 ([] : List ExceptionTableEntry) (some .long) 32 [(0, .ref x0)] [] h 0 0 := by
  unfold w_M_pop_L32 at hw
  intro p e s m args below meth c hC H locs ls k n hE hl hR hS hk hn
  obtain ⟨hx, hb, hown, hlocks, htab, hml, hr, hB, hA, hnm⟩ := id hC
  have hts := hB.1.1.at args
  refine lv_aload_n hx hb (xb_d D_M_pop 16 rfl) rfl (lv_at hl 0 rfl) ?_
  refine lv_iconst (v := 1) hx hb (xb_d D_M_pop 17 rfl) (by decide) ?_
  obtain ⟨hk1, hw⟩ := hw
  refine xb_putI (C := R_M) (T := F_M) (N := 97) (ty := .boolean) (x := 1) hx hb 8 94 hts fin_M t_M t_M_ok n_M hown hR hS hk1 (by decide) rfl (by decide) rfl (hts _ m_8158dce5) (fun _ h9 => h9) rfl (by decide +kernel) (by decide) (by decide) (xb_d D_M_pop 18 rfl) (fun H locs hR hS => ?_)
  obtain ⟨h2, eh2⟩ : ∃ x : xb_H, x = xb_I h x0 94 1 := ⟨_, rfl⟩
  rw [← eh2] at hR
  have hw := hw h2 eh2
  have hE : xb_ext h0 h2 := by rw [eh2]; exact hE
  refine lv_lconst (v := 0) hx hb (xb_d D_M_pop 19 rfl) (by decide) ?_
  exact xb_lret hx hb hr hlocks (show k ≤ MC by omega) (show n ≤ MS by omega) hE hR hS (xb_d D_M_pop 20 rfl) hw

set_option maxHeartbeats 4000000 in
set_option maxRecDepth 100000 in
theorem am_M_pop_L25 (l : Launch) (hfl : l.flags = pinnedFlags ++ [noTraceFlag]) (D : va_G) (A : Nat → Prop) (σ MC MS : Nat) (h0 : xb_H) (Qr : Int64 → xb_H → Prop) (x0 : Nat) (x1 : Int32) (h : xb_H) (hw : w_M_pop_L25 Qr x0 x1 h) : xb_am l D A σ 2 MC MS h0 (fun v h => ∃ r, v = some (.long r) ∧ Qr r h) (fun _ _ => False) y_M_pop.cls y_M_pop.name b_M_pop 2 ([] : List ExceptionTableEntry) (some .long) 25 [(0, .ref x0), (1, .int x1)] [] h 0 0 := by
  unfold w_M_pop_L25 at hw
  intro p e s m args below meth c hC H locs ls k n hE hl hR hS hk hn
  obtain ⟨hx, hb, hown, hlocks, htab, hml, hr, hB, hA, hnm⟩ := id hC
  have hts := hB.1.1.at args
  refine lv_aload_n hx hb (xb_d D_M_pop 13 rfl) rfl (lv_at hl 0 rfl) ?_
  obtain ⟨hk1, hw⟩ := hw
  refine xb_getI (C := R_M) (T := F_M) (N := 97) hx hb 8 76 hts fin_M hown hR hk1 (by decide) rfl (by decide) rfl (hts _ m_d6ddfcd8) (fun _ h9 => h9) (xb_d D_M_pop 14 rfl) ?_
  refine lv_if_ne (tgt := 39) hx hb (xb_d D_M_pop 15 rfl) rfl (fun hc2 => ?_) (fun hc2 => ?_)
  · have hw := hw.1 hc2
    refine lv_aload_n hx hb (xb_d D_M_pop 21 rfl) rfl (lv_at hl 0 rfl) ?_
    refine lv_dup hx hb (xb_d D_M_pop 22 rfl) rfl ?_
    refine xb_getI (C := R_M) (T := F_M) (N := 97) hx hb 8 76 hts fin_M hown hR hk1 (by decide) rfl (by decide) rfl (hts _ m_d6ddfcd8) (fun _ h9 => h9) (xb_d D_M_pop 23 rfl) ?_
    refine lv_iconst (v := 1) hx hb (xb_d D_M_pop 24 rfl) (by decide) ?_
    refine lv_isub hx hb (xb_d D_M_pop 25 rfl) ?_
    refine xb_putI (C := R_M) (T := F_M) (N := 97) (ty := .int) (x := ((xb_i h x0 76) - 1)) hx hb 8 76 hts fin_M t_M t_M_ok n_M hown hR hS hk1 (by decide) rfl (by decide) rfl (hts _ m_d6ddfcd8) (fun _ h9 => h9) rfl (by decide +kernel) rfl rfl (xb_d D_M_pop 26 rfl) (fun H locs hR hS => ?_)
    obtain ⟨h3, eh3⟩ : ∃ x : xb_H, x = xb_I h x0 76 ((xb_i h x0 76) - 1) := ⟨_, rfl⟩
    rw [← eh3] at hR
    have hw := hw h3 eh3
    have hE : xb_ext h0 h3 := by rw [eh3]; exact hE
    refine lv_aload_n hx hb (xb_d D_M_pop 27 rfl) rfl (lv_at hl 0 rfl) ?_
    refine lv_aload_n hx hb (xb_d D_M_pop 28 rfl) rfl (lv_at hl 0 rfl) ?_
    have hk1 : xb_k h3 x0 = 9 := by rw [eh3]; exact hk1
    refine xb_getI (C := R_M) (T := F_M) (N := 97) hx hb 8 94 hts fin_M hown hR hk1 (by decide) rfl (by decide) rfl (hts _ m_8158dce5) (fun _ h9 => h9) (xb_d D_M_pop 29 rfl) ?_
    refine lv_if_ne (tgt := 74) hx hb (xb_d D_M_pop 30 rfl) rfl (fun hc4 => ?_) (fun hc4 => ?_)
    · have hw := hw.1 hc4
      exact am_M_pop_L74 l hfl D A σ MC MS h0 Qr x0 x0 h3 hw p e s m args below meth c hC H locs ls k n hE (lv_sub hl [0] rfl) hR hS (by omega) (by omega)
    · have hw := hw.2 hc4
      refine lv_iload_n hx hb (xb_d D_M_pop 31 rfl) rfl (lv_at hl 1 rfl) ?_
      refine lv_if_eq (tgt := 78) hx hb (xb_d D_M_pop 32 rfl) rfl (fun hc5 => ?_) (fun hc5 => ?_)
      · have hw := hw.1 hc5
        exact am_M_pop_L78 l hfl D A σ MC MS h0 Qr x0 x0 h3 hw p e s m args below meth c hC H locs ls k n hE (lv_sub hl [0] rfl) hR hS (by omega) (by omega)
      · have hw := hw.2 hc5
        refine lv_aload_n hx hb (xb_d D_M_pop 33 rfl) rfl (lv_at hl 0 rfl) ?_
        refine xb_getP (C := R_M) (T := F_M) (N := 97) hx hb 8 75 hts fin_M hown hR hk1 (by decide) rfl (by decide) rfl (hts _ m_6b215119) (fun _ h9 => h9) (xb_d D_M_pop 34 rfl) ?_
        obtain ⟨b6, eb6, hw⟩ := hw
        refine xb_some eb6 ?_
        refine lv_aload_n hx hb (xb_d D_M_pop 35 rfl) rfl (lv_at hl 0 rfl) ?_
        refine xb_getI (C := R_M) (T := F_M) (N := 97) hx hb 8 76 hts fin_M hown hR hk1 (by decide) rfl (by decide) rfl (hts _ m_d6ddfcd8) (fun _ h9 => h9) (xb_d D_M_pop 36 rfl) ?_
        obtain ⟨hk8, hw⟩ := hw
        obtain ⟨hi7, hw⟩ := hw
        refine xb_bald hx hb hR hk8 hi7 (xb_d D_M_pop 37 rfl) ?_
        refine lv_iload_n hx hb (xb_d D_M_pop 38 rfl) rfl (lv_at hl 1 rfl) ?_
        refine lv_icmp_eq (tgt := 78) hx hb (xb_d D_M_pop 39 rfl) rfl (fun hc9 => ?_) (fun hc9 => ?_)
        · have hw := hw.1 hc9
          exact am_M_pop_L78 l hfl D A σ MC MS h0 Qr x0 x0 h3 hw p e s m args below meth c hC H locs ls k n hE (lv_sub hl [0] rfl) hR hS (by omega) (by omega)
        · have hw := hw.2 hc9
          exact am_M_pop_L74 l hfl D A σ MC MS h0 Qr x0 x0 h3 hw p e s m args below meth c hC H locs ls k n hE (lv_sub hl [0] rfl) hR hS (by omega) (by omega)
  · have hw := hw.2 hc2
    exact am_M_pop_L32 l hfl D A σ MC MS h0 Qr x0 h hw p e s m args below meth c hC H locs ls k n hE (lv_sub hl [0] rfl) hR hS (by omega) (by omega)

set_option maxHeartbeats 4000000 in
set_option maxRecDepth 100000 in
theorem ok_M_pop (l : Launch) (hfl : l.flags = pinnedFlags ++ [noTraceFlag]) (D : va_G) (A : Nat → Prop) (σ : Nat) (x0 : Nat) (x1 : Int32) (h : xb_H) (Qr : Int64 → xb_H → Prop) (hw : w_M_pop x0 x1 h Qr) : xt_Met l y_M_pop [.code y_M_pop b_M_pop 2 (some .long)] (xb_rm 2 0 0) (xb_Pc D A σ h [.ref x0, .int x1]) (xb_Qc D A h (fun v h => ∃ r, v = some (.long r) ∧ Qr r h) (fun _ _ => False)) 0 0 A := by
  refine xb_ofAm (cc := b_M_pop) (by decide) (Nat.le_of_ble_eq_true rfl) ?_
  unfold w_M_pop at hw
  show xb_am l D A σ 2 0 0 h (fun v h => ∃ r, v = some (.long r) ∧ Qr r h) (fun _ _ => False) y_M_pop.cls y_M_pop.name b_M_pop 2 ([] : List ExceptionTableEntry) (some .long) 0 [(0, .ref x0), (1, .int x1)] [] h 0 0
  obtain ⟨MC, hMC⟩ : ∃ x, x = 0 := ⟨_, rfl⟩
  obtain ⟨MS, hMS⟩ : ∃ x, x = 0 := ⟨_, rfl⟩
  rw [show xb_am l D A σ 2 0 0 = xb_am l D A σ 2 MC MS by rw [hMC, hMS]]
  obtain ⟨h0, hh0⟩ : ∃ x, x = h := ⟨_, rfl⟩
  rw [show xb_am l D A σ 2 MC MS h = xb_am l D A σ 2 MC MS h0 by rw [hh0]]
  intro p e s m args below meth c hC H locs ls k n hE hl hR hS hk hn
  obtain ⟨hx, hb, hown, hlocks, htab, hml, hr, hB, hA, hnm⟩ := id hC
  have hts := hB.1.1.at args
  refine lv_aload_n hx hb (xb_d D_M_pop 0 rfl) rfl (lv_at hl 0 rfl) ?_
  obtain ⟨hk1, hw⟩ := hw
  refine xb_getI (C := R_M) (T := F_M) (N := 97) hx hb 8 81 hts fin_M hown hR hk1 (by decide) rfl (by decide) rfl (hts _ m_65743087) (fun _ h9 => h9) (xb_d D_M_pop 1 rfl) ?_
  refine lv_if_le (tgt := 25) hx hb (xb_d D_M_pop 2 rfl) rfl (fun hc2 => ?_) (fun hc2 => ?_)
  · have hw := hw.1 hc2
    exact am_M_pop_L25 l hfl D A σ MC MS h0 Qr x0 x1 h hw p e s m args below meth c hC H locs ls k n hE (lv_sub hl [0, 1] rfl) hR hS (by omega) (by omega)
  · have hw := hw.2 hc2
    refine lv_aload_n hx hb (xb_d D_M_pop 3 rfl) rfl (lv_at hl 0 rfl) ?_
    refine xb_getI (C := R_M) (T := F_M) (N := 97) hx hb 8 76 hts fin_M hown hR hk1 (by decide) rfl (by decide) rfl (hts _ m_d6ddfcd8) (fun _ h9 => h9) (xb_d D_M_pop 4 rfl) ?_
    refine lv_aload_n hx hb (xb_d D_M_pop 5 rfl) rfl (lv_at hl 0 rfl) ?_
    refine xb_getP (C := R_M) (T := F_M) (N := 97) hx hb 8 80 hts fin_M hown hR hk1 (by decide) rfl (by decide) rfl (hts _ m_24ba043b) (fun _ h9 => h9) (xb_d D_M_pop 6 rfl) ?_
    obtain ⟨b3, eb3, hw⟩ := hw
    refine xb_some eb3 ?_
    refine lv_aload_n hx hb (xb_d D_M_pop 7 rfl) rfl (lv_at hl 0 rfl) ?_
    refine xb_getI (C := R_M) (T := F_M) (N := 97) hx hb 8 81 hts fin_M hown hR hk1 (by decide) rfl (by decide) rfl (hts _ m_65743087) (fun _ h9 => h9) (xb_d D_M_pop 8 rfl) ?_
    refine lv_iconst (v := 1) hx hb (xb_d D_M_pop 9 rfl) (by decide) ?_
    refine lv_isub hx hb (xb_d D_M_pop 10 rfl) ?_
    obtain ⟨hk5, hw⟩ := hw
    obtain ⟨hi4, hw⟩ := hw
    refine xb_iald hx hb hR hk5 hi4 (xb_d D_M_pop 11 rfl) ?_
    refine lv_icmp_le (tgt := 32) hx hb (xb_d D_M_pop 12 rfl) rfl (fun hc6 => ?_) (fun hc6 => ?_)
    · have hw := hw.1 hc6
      exact am_M_pop_L32 l hfl D A σ MC MS h0 Qr x0 h hw p e s m args below meth c hC H locs ls k n hE (lv_sub hl [0] rfl) hR hS (by omega) (by omega)
    · have hw := hw.2 hc6
      exact am_M_pop_L25 l hfl D A σ MC MS h0 Qr x0 x1 h hw p e s m args below meth c hC H locs ls k n hE (lv_sub hl [0, 1] rfl) hR hS (by omega) (by omega)

theorem m_37875847 : (.fieldLink "StackHostModel" 133 "StackHostModel" "arguments" "[J" : Cond) ∈ xt_tbl := xt_in (xt_t9 (List.mem_of_getElem? (i := 204) (by decide +kernel))) (by decide +kernel)
theorem m_d42439d2 : (.fieldLink "StackHostModel" 604 "StackHostModel" "argumentCount" "I" : Cond) ∈ xt_tbl := xt_in (xt_t9 (List.mem_of_getElem? (i := 205) (by decide +kernel))) (by decide +kernel)
set_option maxRecDepth 100000 in
def T_M_push : List (Nat × Instr × Nat) := [(0, .aload_n 0, 1), (1, .aload_n 0, 1), (2, .getfield 604, 3), (5, .sipush 1000, 3), (8, .if_icmp .ne 7, 3), (11, .iconst 1, 1), (12, .goto 4, 3), (15, .iconst 0, 1), (16, .putfield 189, 3), (19, .aload_n 0, 1), (20, .getfield 189, 3), (23, .ifCond .le 5, 3), (26, .iconst 0, 1), (27, .ireturn, 1), (28, .aload_n 0, 1), (29, .getfield 133, 3), (32, .aload_n 0, 1), (33, .getfield 604, 3), (36, .lload_n 1, 1), (37, .lastore, 1), (38, .aload_n 0, 1), (39, .dup, 1), (40, .getfield 604, 3), (43, .iconst 1, 1), (44, .iadd, 1), (45, .putfield 604, 3), (48, .aload_n 0, 1), (49, .getfield 604, 3), (52, .ireturn, 1)]
theorem D_M_push : ∀ q ∈ T_M_push, decode b_M_push q.1 = .ok (q.2.1, q.2.2) := by decide +kernel
def w_M_push_L16 (Qr : Int32 → xb_H → Prop) (x0 : Nat) (x1 : Int64) (y0 : Int32) (y1 : Nat) (h : xb_H) : Prop :=
    xb_k h y1 = 9 ∧ ∀ h2 : xb_H, h2 = xb_I h y1 0 y0 → xb_k h2 x0 = 9 ∧ (((xb_i h2 x0 0) ≤ (0 : Int32) → ∃ b5 : Nat, (xb_r h2 x0 65) = some b5 ∧ xb_k h2 b5 = 103 ∧ vp_in (xb_i h2 x0 66) (xb_n h2 b5) ∧ ∀ h8 : xb_H, h8 = xb_L h2 b5 (Int32.toNatClampNeg (xb_i h2 x0 66)) x1 → ∀ h9 : xb_H, h9 = xb_I h8 x0 66 ((xb_i h8 x0 66) + 1) → Qr (xb_i h9 x0 66) h9) ∧ (¬ (xb_i h2 x0 0) ≤ (0 : Int32) → Qr 0 h2))

def w_M_push (x0 : Nat) (x1 : Int64) (h : xb_H) (Qr : Int32 → xb_H → Prop) : Prop :=
    xb_k h x0 = 9 ∧ ((¬ (xb_i h x0 66) = (1000 : Int32) → w_M_push_L16 Qr x0 x1 0 x0 h) ∧ ((xb_i h x0 66) = (1000 : Int32) → w_M_push_L16 Qr x0 x1 1 x0 h))

set_option maxHeartbeats 4000000 in
set_option maxRecDepth 100000 in
theorem am_M_push_L16 (l : Launch) (hfl : l.flags = pinnedFlags ++ [noTraceFlag]) (D : va_G) (A : Nat → Prop) (σ MC MS : Nat) (h0 : xb_H) (Qr : Int32 → xb_H → Prop) (x0 : Nat) (x1 : Int64) (y0 : Int32) (y1 : Nat) (h : xb_H) (hw : w_M_push_L16 Qr x0 x1 y0 y1 h) : xb_am l D A σ 2 MC MS h0 (fun v h => ∃ r, v = some (.int r) ∧ Qr r h) (fun _ _ => False) y_M_push.cls y_M_push.name b_M_push 3 ([] : List ExceptionTableEntry) (some .int) 16 [(0, .ref x0), (1, .long x1)] [.int y0, .ref y1] h 0 0 := by
  unfold w_M_push_L16 at hw
  intro p e s m args below meth c hC H locs ls k n hE hl hR hS hk hn
  obtain ⟨hx, hb, hown, hlocks, htab, hml, hr, hB, hA, hnm⟩ := id hC
  have hts := hB.1.1.at args
  obtain ⟨hk1, hw⟩ := hw
  refine xb_putI (C := R_M) (T := F_M) (N := 97) (ty := .int) (x := y0) hx hb 8 0 hts fin_M t_M t_M_ok n_M hown hR hS hk1 (by decide) rfl (by decide) rfl (hts _ m_afabd6a0) (fun _ h9 => h9) rfl (by decide +kernel) rfl rfl (xb_d D_M_push 8 rfl) (fun H locs hR hS => ?_)
  obtain ⟨h2, eh2⟩ : ∃ x : xb_H, x = xb_I h y1 0 y0 := ⟨_, rfl⟩
  rw [← eh2] at hR
  have hw := hw h2 eh2
  have hE : xb_ext h0 h2 := by rw [eh2]; exact hE
  refine lv_aload_n hx hb (xb_d D_M_push 9 rfl) rfl (lv_at hl 0 rfl) ?_
  obtain ⟨hk3, hw⟩ := hw
  refine xb_getI (C := R_M) (T := F_M) (N := 97) hx hb 8 0 hts fin_M hown hR hk3 (by decide) rfl (by decide) rfl (hts _ m_afabd6a0) (fun _ h9 => h9) (xb_d D_M_push 10 rfl) ?_
  refine lv_if_le (tgt := 28) hx hb (xb_d D_M_push 11 rfl) rfl (fun hc4 => ?_) (fun hc4 => ?_)
  · have hw := hw.1 hc4
    refine lv_aload_n hx hb (xb_d D_M_push 14 rfl) rfl (lv_at hl 0 rfl) ?_
    refine xb_getP (C := R_M) (T := F_M) (N := 97) hx hb 8 65 hts fin_M hown hR hk3 (by decide) rfl (by decide) rfl (hts _ m_37875847) (fun _ h9 => h9) (xb_d D_M_push 15 rfl) ?_
    obtain ⟨b5, eb5, hw⟩ := hw
    refine xb_some eb5 ?_
    refine lv_aload_n hx hb (xb_d D_M_push 16 rfl) rfl (lv_at hl 0 rfl) ?_
    refine xb_getI (C := R_M) (T := F_M) (N := 97) hx hb 8 66 hts fin_M hown hR hk3 (by decide) rfl (by decide) rfl (hts _ m_d42439d2) (fun _ h9 => h9) (xb_d D_M_push 17 rfl) ?_
    refine lv_lload_n hx hb (xb_d D_M_push 18 rfl) rfl (lv_at hl 1 rfl) ?_
    obtain ⟨hk6, hw⟩ := hw
    obtain ⟨hi7, hw⟩ := hw
    refine xb_last hx hb hR hS hk6 hi7 (xb_d D_M_push 19 rfl) (fun H locs hR hS => ?_)
    obtain ⟨h8, eh8⟩ : ∃ x : xb_H, x = xb_L h2 b5 (Int32.toNatClampNeg (xb_i h2 x0 66)) x1 := ⟨_, rfl⟩
    rw [← eh8] at hR
    have hw := hw h8 eh8
    have hE : xb_ext h0 h8 := by rw [eh8]; exact hE
    refine lv_aload_n hx hb (xb_d D_M_push 20 rfl) rfl (lv_at hl 0 rfl) ?_
    refine lv_dup hx hb (xb_d D_M_push 21 rfl) rfl ?_
    have hk3 : xb_k h8 x0 = 9 := by rw [eh8]; exact hk3
    refine xb_getI (C := R_M) (T := F_M) (N := 97) hx hb 8 66 hts fin_M hown hR hk3 (by decide) rfl (by decide) rfl (hts _ m_d42439d2) (fun _ h9 => h9) (xb_d D_M_push 22 rfl) ?_
    refine lv_iconst (v := 1) hx hb (xb_d D_M_push 23 rfl) (by decide) ?_
    refine lv_iadd hx hb (xb_d D_M_push 24 rfl) ?_
    refine xb_putI (C := R_M) (T := F_M) (N := 97) (ty := .int) (x := ((xb_i h8 x0 66) + 1)) hx hb 8 66 hts fin_M t_M t_M_ok n_M hown hR hS hk3 (by decide) rfl (by decide) rfl (hts _ m_d42439d2) (fun _ h9 => h9) rfl (by decide +kernel) rfl rfl (xb_d D_M_push 25 rfl) (fun H locs hR hS => ?_)
    obtain ⟨h9, eh9⟩ : ∃ x : xb_H, x = xb_I h8 x0 66 ((xb_i h8 x0 66) + 1) := ⟨_, rfl⟩
    rw [← eh9] at hR
    have hw := hw h9 eh9
    have hE : xb_ext h0 h9 := by rw [eh9]; exact hE
    refine lv_aload_n hx hb (xb_d D_M_push 26 rfl) rfl (lv_at hl 0 rfl) ?_
    have hk3 : xb_k h9 x0 = 9 := by rw [eh9]; exact hk3
    refine xb_getI (C := R_M) (T := F_M) (N := 97) hx hb 8 66 hts fin_M hown hR hk3 (by decide) rfl (by decide) rfl (hts _ m_d42439d2) (fun _ h9 => h9) (xb_d D_M_push 27 rfl) ?_
    exact xb_iret hx hb hr hlocks (show k ≤ MC by omega) (show n ≤ MS by omega) hE hR hS (xb_d D_M_push 28 rfl) hw
  · have hw := hw.2 hc4
    refine lv_iconst (v := 0) hx hb (xb_d D_M_push 12 rfl) (by decide) ?_
    exact xb_iret hx hb hr hlocks (show k ≤ MC by omega) (show n ≤ MS by omega) hE hR hS (xb_d D_M_push 13 rfl) hw

set_option maxHeartbeats 4000000 in
set_option maxRecDepth 100000 in
theorem ok_M_push (l : Launch) (hfl : l.flags = pinnedFlags ++ [noTraceFlag]) (D : va_G) (A : Nat → Prop) (σ : Nat) (x0 : Nat) (x1 : Int64) (h : xb_H) (Qr : Int32 → xb_H → Prop) (hw : w_M_push x0 x1 h Qr) : xt_Met l y_M_push [.code y_M_push b_M_push 3 (some .int)] (xb_rm 2 0 0) (xb_Pc D A σ h [.ref x0, .long x1]) (xb_Qc D A h (fun v h => ∃ r, v = some (.int r) ∧ Qr r h) (fun _ _ => False)) 0 0 A := by
  refine xb_ofAm (cc := b_M_push) (by decide) (Nat.le_of_ble_eq_true rfl) ?_
  unfold w_M_push at hw
  show xb_am l D A σ 2 0 0 h (fun v h => ∃ r, v = some (.int r) ∧ Qr r h) (fun _ _ => False) y_M_push.cls y_M_push.name b_M_push 3 ([] : List ExceptionTableEntry) (some .int) 0 [(0, .ref x0), (1, .long x1)] [] h 0 0
  obtain ⟨MC, hMC⟩ : ∃ x, x = 0 := ⟨_, rfl⟩
  obtain ⟨MS, hMS⟩ : ∃ x, x = 0 := ⟨_, rfl⟩
  rw [show xb_am l D A σ 2 0 0 = xb_am l D A σ 2 MC MS by rw [hMC, hMS]]
  obtain ⟨h0, hh0⟩ : ∃ x, x = h := ⟨_, rfl⟩
  rw [show xb_am l D A σ 2 MC MS h = xb_am l D A σ 2 MC MS h0 by rw [hh0]]
  intro p e s m args below meth c hC H locs ls k n hE hl hR hS hk hn
  obtain ⟨hx, hb, hown, hlocks, htab, hml, hr, hB, hA, hnm⟩ := id hC
  have hts := hB.1.1.at args
  refine lv_aload_n hx hb (xb_d D_M_push 0 rfl) rfl (lv_at hl 0 rfl) ?_
  refine lv_aload_n hx hb (xb_d D_M_push 1 rfl) rfl (lv_at hl 0 rfl) ?_
  obtain ⟨hk1, hw⟩ := hw
  refine xb_getI (C := R_M) (T := F_M) (N := 97) hx hb 8 66 hts fin_M hown hR hk1 (by decide) rfl (by decide) rfl (hts _ m_d42439d2) (fun _ h9 => h9) (xb_d D_M_push 2 rfl) ?_
  refine lv_sipush (v := 1000) hx hb (xb_d D_M_push 3 rfl) (by decide) ?_
  refine lv_icmp_ne (tgt := 15) hx hb (xb_d D_M_push 4 rfl) rfl (fun hc2 => ?_) (fun hc2 => ?_)
  · have hw := hw.1 hc2
    refine lv_iconst (v := 0) hx hb (xb_d D_M_push 7 rfl) (by decide) ?_
    exact am_M_push_L16 l hfl D A σ MC MS h0 Qr x0 x1 0 x0 h hw p e s m args below meth c hC H locs ls k n hE (lv_sub hl [0, 1] rfl) hR hS (by omega) (by omega)
  · have hw := hw.2 hc2
    refine lv_iconst (v := 1) hx hb (xb_d D_M_push 5 rfl) (by decide) ?_
    refine lv_goto (tgt := 16) hx hb (xb_d D_M_push 6 rfl) rfl ?_
    exact am_M_push_L16 l hfl D A σ MC MS h0 Qr x0 x1 1 x0 h hw p e s m args below meth c hC H locs ls k n hE (lv_sub hl [0, 1] rfl) hR hS (by omega) (by omega)

theorem m_bee2a5e5 : (.fieldLink "StackHostModel" 393 "StackHostModel" "most" "I" : Cond) ∈ xt_tbl := xt_in (xt_t9 (List.mem_of_getElem? (i := 162) (by decide +kernel))) (by decide +kernel)
theorem m_a8b072e8 : (.fieldLink "StackHostModel" 43 "StackHostModel" "operands" "[B" : Cond) ∈ xt_tbl := xt_in (xt_t9 (List.mem_of_getElem? (i := 160) (by decide +kernel))) (by decide +kernel)
set_option maxRecDepth 100000 in
def T_M_put : List (Nat × Instr × Nat) := [(0, .aload_n 0, 1), (1, .getfield 43, 3), (4, .aload_n 0, 1), (5, .getfield 390, 3), (8, .iload_n 1, 1), (9, .i2b, 1), (10, .bastore, 1), (11, .aload_n 0, 1), (12, .dup, 1), (13, .getfield 390, 3), (16, .iconst 1, 1), (17, .iadd, 1), (18, .putfield 390, 3), (21, .aload_n 0, 1), (22, .aload_n 0, 1), (23, .getfield 390, 3), (26, .aload_n 0, 1), (27, .getfield 393, 3), (30, .if_icmp .le 10, 3), (33, .aload_n 0, 1), (34, .getfield 390, 3), (37, .goto 7, 3), (40, .aload_n 0, 1), (41, .getfield 393, 3), (44, .putfield 393, 3), (47, .return_, 1)]
theorem D_M_put : ∀ q ∈ T_M_put, decode b_M_put q.1 = .ok (q.2.1, q.2.2) := by decide +kernel
def w_M_put_L44 (Qr : xb_H → Prop) (y0 : Int32) (y1 : Nat) (h : xb_H) : Prop :=
    xb_k h y1 = 9 ∧ ∀ h2 : xb_H, h2 = xb_I h y1 23 y0 → Qr h2

def w_M_put (x0 : Nat) (x1 : Int32) (h : xb_H) (Qr : xb_H → Prop) : Prop :=
    xb_k h x0 = 9 ∧ ∃ b2 : Nat, (xb_r h x0 21) = some b2 ∧ xb_k h b2 = 100 ∧ vp_in (xb_i h x0 22) (xb_n h b2) ∧ ∀ h5 : xb_H, h5 = xb_I h b2 (Int32.toNatClampNeg (xb_i h x0 22)) (vp_nar .byte ((Int32.toInt8 x1).toInt32)) → ∀ h6 : xb_H, h6 = xb_I h5 x0 22 ((xb_i h5 x0 22) + 1) → (((xb_i h6 x0 22) ≤ (xb_i h6 x0 23) → w_M_put_L44 Qr (xb_i h6 x0 23) x0 h6) ∧ (¬ (xb_i h6 x0 22) ≤ (xb_i h6 x0 23) → w_M_put_L44 Qr (xb_i h6 x0 22) x0 h6))

set_option maxHeartbeats 4000000 in
set_option maxRecDepth 100000 in
theorem am_M_put_L44 (l : Launch) (hfl : l.flags = pinnedFlags ++ [noTraceFlag]) (D : va_G) (A : Nat → Prop) (σ MC MS : Nat) (h0 : xb_H) (Qr : xb_H → Prop) (y0 : Int32) (y1 : Nat) (h : xb_H) (hw : w_M_put_L44 Qr y0 y1 h) : xb_am l D A σ 2 MC MS h0 (fun v h => v = none ∧ Qr h) (fun _ _ => False) y_M_put.cls y_M_put.name b_M_put 2 ([] : List ExceptionTableEntry) none 44 [] [.int y0, .ref y1] h 0 0 := by
  unfold w_M_put_L44 at hw
  intro p e s m args below meth c hC H locs ls k n hE hl hR hS hk hn
  obtain ⟨hx, hb, hown, hlocks, htab, hml, hr, hB, hA, hnm⟩ := id hC
  have hts := hB.1.1.at args
  obtain ⟨hk1, hw⟩ := hw
  refine xb_putI (C := R_M) (T := F_M) (N := 97) (ty := .int) (x := y0) hx hb 8 23 hts fin_M t_M t_M_ok n_M hown hR hS hk1 (by decide) rfl (by decide) rfl (hts _ m_bee2a5e5) (fun _ h9 => h9) rfl (by decide +kernel) rfl rfl (xb_d D_M_put 24 rfl) (fun H locs hR hS => ?_)
  obtain ⟨h2, eh2⟩ : ∃ x : xb_H, x = xb_I h y1 23 y0 := ⟨_, rfl⟩
  rw [← eh2] at hR
  have hw := hw h2 eh2
  have hE : xb_ext h0 h2 := by rw [eh2]; exact hE
  exact xb_vret hx hb hr hlocks (show k ≤ MC by omega) (show n ≤ MS by omega) hE hR hS (xb_d D_M_put 25 rfl) hw

set_option maxHeartbeats 4000000 in
set_option maxRecDepth 100000 in
theorem ok_M_put (l : Launch) (hfl : l.flags = pinnedFlags ++ [noTraceFlag]) (D : va_G) (A : Nat → Prop) (σ : Nat) (x0 : Nat) (x1 : Int32) (h : xb_H) (Qr : xb_H → Prop) (hw : w_M_put x0 x1 h Qr) : xt_Met l y_M_put [.code y_M_put b_M_put 2 none] (xb_rm 2 0 0) (xb_Pc D A σ h [.ref x0, .int x1]) (xb_Qc D A h (fun v h => v = none ∧ Qr h) (fun _ _ => False)) 0 0 A := by
  refine xb_ofAm (cc := b_M_put) (by decide) (Nat.le_of_ble_eq_true rfl) ?_
  unfold w_M_put at hw
  show xb_am l D A σ 2 0 0 h (fun v h => v = none ∧ Qr h) (fun _ _ => False) y_M_put.cls y_M_put.name b_M_put 2 ([] : List ExceptionTableEntry) none 0 [(0, .ref x0), (1, .int x1)] [] h 0 0
  obtain ⟨MC, hMC⟩ : ∃ x, x = 0 := ⟨_, rfl⟩
  obtain ⟨MS, hMS⟩ : ∃ x, x = 0 := ⟨_, rfl⟩
  rw [show xb_am l D A σ 2 0 0 = xb_am l D A σ 2 MC MS by rw [hMC, hMS]]
  obtain ⟨h0, hh0⟩ : ∃ x, x = h := ⟨_, rfl⟩
  rw [show xb_am l D A σ 2 MC MS h = xb_am l D A σ 2 MC MS h0 by rw [hh0]]
  intro p e s m args below meth c hC H locs ls k n hE hl hR hS hk hn
  obtain ⟨hx, hb, hown, hlocks, htab, hml, hr, hB, hA, hnm⟩ := id hC
  have hts := hB.1.1.at args
  refine lv_aload_n hx hb (xb_d D_M_put 0 rfl) rfl (lv_at hl 0 rfl) ?_
  obtain ⟨hk1, hw⟩ := hw
  refine xb_getP (C := R_M) (T := F_M) (N := 97) hx hb 8 21 hts fin_M hown hR hk1 (by decide) rfl (by decide) rfl (hts _ m_a8b072e8) (fun _ h9 => h9) (xb_d D_M_put 1 rfl) ?_
  obtain ⟨b2, eb2, hw⟩ := hw
  refine xb_some eb2 ?_
  refine lv_aload_n hx hb (xb_d D_M_put 2 rfl) rfl (lv_at hl 0 rfl) ?_
  refine xb_getI (C := R_M) (T := F_M) (N := 97) hx hb 8 22 hts fin_M hown hR hk1 (by decide) rfl (by decide) rfl (hts _ m_01d0a072) (fun _ h9 => h9) (xb_d D_M_put 3 rfl) ?_
  refine lv_iload_n hx hb (xb_d D_M_put 4 rfl) rfl (lv_at hl 1 rfl) ?_
  refine lv_i2b hx hb (xb_d D_M_put 5 rfl) rfl ?_
  obtain ⟨hk3, hw⟩ := hw
  obtain ⟨hi4, hw⟩ := hw
  refine xb_bast hx hb hR hS hk3 hi4 (xb_d D_M_put 6 rfl) (fun H locs hR hS => ?_)
  obtain ⟨h5, eh5⟩ : ∃ x : xb_H, x = xb_I h b2 (Int32.toNatClampNeg (xb_i h x0 22)) (vp_nar .byte ((Int32.toInt8 x1).toInt32)) := ⟨_, rfl⟩
  rw [← eh5] at hR
  have hw := hw h5 eh5
  have hE : xb_ext h0 h5 := by rw [eh5]; exact hE
  refine lv_aload_n hx hb (xb_d D_M_put 7 rfl) rfl (lv_at hl 0 rfl) ?_
  refine lv_dup hx hb (xb_d D_M_put 8 rfl) rfl ?_
  have hk1 : xb_k h5 x0 = 9 := by rw [eh5]; exact hk1
  refine xb_getI (C := R_M) (T := F_M) (N := 97) hx hb 8 22 hts fin_M hown hR hk1 (by decide) rfl (by decide) rfl (hts _ m_01d0a072) (fun _ h9 => h9) (xb_d D_M_put 9 rfl) ?_
  refine lv_iconst (v := 1) hx hb (xb_d D_M_put 10 rfl) (by decide) ?_
  refine lv_iadd hx hb (xb_d D_M_put 11 rfl) ?_
  refine xb_putI (C := R_M) (T := F_M) (N := 97) (ty := .int) (x := ((xb_i h5 x0 22) + 1)) hx hb 8 22 hts fin_M t_M t_M_ok n_M hown hR hS hk1 (by decide) rfl (by decide) rfl (hts _ m_01d0a072) (fun _ h9 => h9) rfl (by decide +kernel) rfl rfl (xb_d D_M_put 12 rfl) (fun H locs hR hS => ?_)
  obtain ⟨h6, eh6⟩ : ∃ x : xb_H, x = xb_I h5 x0 22 ((xb_i h5 x0 22) + 1) := ⟨_, rfl⟩
  rw [← eh6] at hR
  have hw := hw h6 eh6
  have hE : xb_ext h0 h6 := by rw [eh6]; exact hE
  refine lv_aload_n hx hb (xb_d D_M_put 13 rfl) rfl (lv_at hl 0 rfl) ?_
  refine lv_aload_n hx hb (xb_d D_M_put 14 rfl) rfl (lv_at hl 0 rfl) ?_
  have hk1 : xb_k h6 x0 = 9 := by rw [eh6]; exact hk1
  refine xb_getI (C := R_M) (T := F_M) (N := 97) hx hb 8 22 hts fin_M hown hR hk1 (by decide) rfl (by decide) rfl (hts _ m_01d0a072) (fun _ h9 => h9) (xb_d D_M_put 15 rfl) ?_
  refine lv_aload_n hx hb (xb_d D_M_put 16 rfl) rfl (lv_at hl 0 rfl) ?_
  refine xb_getI (C := R_M) (T := F_M) (N := 97) hx hb 8 23 hts fin_M hown hR hk1 (by decide) rfl (by decide) rfl (hts _ m_bee2a5e5) (fun _ h9 => h9) (xb_d D_M_put 17 rfl) ?_
  refine lv_icmp_le (tgt := 40) hx hb (xb_d D_M_put 18 rfl) rfl (fun hc7 => ?_) (fun hc7 => ?_)
  · have hw := hw.1 hc7
    refine lv_aload_n hx hb (xb_d D_M_put 22 rfl) rfl (lv_at hl 0 rfl) ?_
    refine xb_getI (C := R_M) (T := F_M) (N := 97) hx hb 8 23 hts fin_M hown hR hk1 (by decide) rfl (by decide) rfl (hts _ m_bee2a5e5) (fun _ h9 => h9) (xb_d D_M_put 23 rfl) ?_
    exact am_M_put_L44 l hfl D A σ MC MS h0 Qr (xb_i h6 x0 23) x0 h6 hw p e s m args below meth c hC H locs ls k n hE (lv_sub hl [] rfl) hR hS (by omega) (by omega)
  · have hw := hw.2 hc7
    refine lv_aload_n hx hb (xb_d D_M_put 19 rfl) rfl (lv_at hl 0 rfl) ?_
    refine xb_getI (C := R_M) (T := F_M) (N := 97) hx hb 8 22 hts fin_M hown hR hk1 (by decide) rfl (by decide) rfl (hts _ m_01d0a072) (fun _ h9 => h9) (xb_d D_M_put 20 rfl) ?_
    refine lv_goto (tgt := 44) hx hb (xb_d D_M_put 21 rfl) rfl ?_
    exact am_M_put_L44 l hfl D A σ MC MS h0 Qr (xb_i h6 x0 22) x0 h6 hw p e s m args below meth c hC H locs ls k n hE (lv_sub hl [] rfl) hR hS (by omega) (by omega)

set_option maxRecDepth 100000 in
def T_M_refuse : List (Nat × Instr × Nat) := [(0, .aload_n 0, 1), (1, .getfield 179, 3), (4, .iconst 0, 1), (5, .iload_n 1, 1), (6, .iastore, 1), (7, .aload_n 0, 1), (8, .getfield 179, 3), (11, .iconst 1, 1), (12, .iload_n 2, 1), (13, .iastore, 1), (14, .iconst (-1), 1), (15, .ireturn, 1)]
theorem D_M_refuse : ∀ q ∈ T_M_refuse, decode b_M_refuse q.1 = .ok (q.2.1, q.2.2) := by decide +kernel
def w_M_refuse (x0 : Nat) (x1 : Int32) (x2 : Int32) (h : xb_H) (Qr : Int32 → xb_H → Prop) : Prop :=
    xb_k h x0 = 9 ∧ ∃ b2 : Nat, (xb_r h x0 89) = some b2 ∧ xb_k h b2 = 102 ∧ vp_in 0 (xb_n h b2) ∧ ∀ h5 : xb_H, h5 = xb_I h b2 (Int32.toNatClampNeg 0) x1 → ∃ b6 : Nat, (xb_r h5 x0 89) = some b6 ∧ xb_k h5 b6 = 102 ∧ vp_in 1 (xb_n h5 b6) ∧ ∀ h9 : xb_H, h9 = xb_I h5 b6 (Int32.toNatClampNeg 1) x2 → Qr (-1) h9

set_option maxHeartbeats 4000000 in
set_option maxRecDepth 100000 in
theorem ok_M_refuse (l : Launch) (hfl : l.flags = pinnedFlags ++ [noTraceFlag]) (D : va_G) (A : Nat → Prop) (σ : Nat) (x0 : Nat) (x1 : Int32) (x2 : Int32) (h : xb_H) (Qr : Int32 → xb_H → Prop) (hw : w_M_refuse x0 x1 x2 h Qr) : xt_Met l y_M_refuse [.code y_M_refuse b_M_refuse 3 (some .int)] (xb_rm 2 0 0) (xb_Pc D A σ h [.ref x0, .int x1, .int x2]) (xb_Qc D A h (fun v h => ∃ r, v = some (.int r) ∧ Qr r h) (fun _ _ => False)) 0 0 A := by
  refine xb_ofAm (cc := b_M_refuse) (by decide) (Nat.le_of_ble_eq_true rfl) ?_
  unfold w_M_refuse at hw
  show xb_am l D A σ 2 0 0 h (fun v h => ∃ r, v = some (.int r) ∧ Qr r h) (fun _ _ => False) y_M_refuse.cls y_M_refuse.name b_M_refuse 3 ([] : List ExceptionTableEntry) (some .int) 0 [(0, .ref x0), (1, .int x1), (2, .int x2)] [] h 0 0
  obtain ⟨MC, hMC⟩ : ∃ x, x = 0 := ⟨_, rfl⟩
  obtain ⟨MS, hMS⟩ : ∃ x, x = 0 := ⟨_, rfl⟩
  rw [show xb_am l D A σ 2 0 0 = xb_am l D A σ 2 MC MS by rw [hMC, hMS]]
  obtain ⟨h0, hh0⟩ : ∃ x, x = h := ⟨_, rfl⟩
  rw [show xb_am l D A σ 2 MC MS h = xb_am l D A σ 2 MC MS h0 by rw [hh0]]
  intro p e s m args below meth c hC H locs ls k n hE hl hR hS hk hn
  obtain ⟨hx, hb, hown, hlocks, htab, hml, hr, hB, hA, hnm⟩ := id hC
  have hts := hB.1.1.at args
  refine lv_aload_n hx hb (xb_d D_M_refuse 0 rfl) rfl (lv_at hl 0 rfl) ?_
  obtain ⟨hk1, hw⟩ := hw
  refine xb_getP (C := R_M) (T := F_M) (N := 97) hx hb 8 89 hts fin_M hown hR hk1 (by decide) rfl (by decide) rfl (hts _ m_8367c681) (fun _ h9 => h9) (xb_d D_M_refuse 1 rfl) ?_
  obtain ⟨b2, eb2, hw⟩ := hw
  refine xb_some eb2 ?_
  refine lv_iconst (v := 0) hx hb (xb_d D_M_refuse 2 rfl) (by decide) ?_
  refine lv_iload_n hx hb (xb_d D_M_refuse 3 rfl) rfl (lv_at hl 1 rfl) ?_
  obtain ⟨hk3, hw⟩ := hw
  obtain ⟨hi4, hw⟩ := hw
  refine xb_iast hx hb hR hS hk3 hi4 (xb_d D_M_refuse 4 rfl) (fun H locs hR hS => ?_)
  obtain ⟨h5, eh5⟩ : ∃ x : xb_H, x = xb_I h b2 (Int32.toNatClampNeg 0) x1 := ⟨_, rfl⟩
  rw [← eh5] at hR
  have hw := hw h5 eh5
  have hE : xb_ext h0 h5 := by rw [eh5]; exact hE
  refine lv_aload_n hx hb (xb_d D_M_refuse 5 rfl) rfl (lv_at hl 0 rfl) ?_
  have hk1 : xb_k h5 x0 = 9 := by rw [eh5]; exact hk1
  refine xb_getP (C := R_M) (T := F_M) (N := 97) hx hb 8 89 hts fin_M hown hR hk1 (by decide) rfl (by decide) rfl (hts _ m_8367c681) (fun _ h9 => h9) (xb_d D_M_refuse 6 rfl) ?_
  obtain ⟨b6, eb6, hw⟩ := hw
  refine xb_some eb6 ?_
  refine lv_iconst (v := 1) hx hb (xb_d D_M_refuse 7 rfl) (by decide) ?_
  refine lv_iload_n hx hb (xb_d D_M_refuse 8 rfl) rfl (lv_at hl 2 rfl) ?_
  obtain ⟨hk7, hw⟩ := hw
  obtain ⟨hi8, hw⟩ := hw
  refine xb_iast hx hb hR hS hk7 hi8 (xb_d D_M_refuse 9 rfl) (fun H locs hR hS => ?_)
  obtain ⟨h9, eh9⟩ : ∃ x : xb_H, x = xb_I h5 b6 (Int32.toNatClampNeg 1) x2 := ⟨_, rfl⟩
  rw [← eh9] at hR
  have hw := hw h9 eh9
  have hE : xb_ext h0 h9 := by rw [eh9]; exact hE
  refine lv_iconst (v := (-1)) hx hb (xb_d D_M_refuse 10 rfl) (by decide) ?_
  exact xb_iret hx hb hr hlocks (show k ≤ MC by omega) (show n ≤ MS by omega) hE hR hS (xb_d D_M_refuse 11 rfl) hw

theorem m_a4223f90 : (.fieldLink "StackHostModel" 262 "StackHostModel" "stored" "I" : Cond) ∈ xt_tbl := xt_in (xt_t9 (List.mem_of_getElem? (i := 143) (by decide +kernel))) (by decide +kernel)
set_option maxRecDepth 100000 in
def T_M_reserve : List (Nat × Instr × Nat) := [(0, .aload_n 0, 1), (1, .getfield 262, 3), (4, .iload_n 1, 1), (5, .iadd, 1), (6, .aload_n 0, 1), (7, .getfield 14, 3), (10, .arraylength, 1), (11, .if_icmp .le 44, 3), (14, .iconst 2, 1), (15, .aload_n 0, 1), (16, .getfield 262, 3), (19, .iload_n 1, 1), (20, .iadd, 1), (21, .imul, 1), (22, .newarray .byte, 2), (24, .astore_n 2, 1), (25, .iconst 0, 1), (26, .istore_n 3, 1), (27, .iload_n 3, 1), (28, .aload_n 0, 1), (29, .getfield 262, 3), (32, .if_icmp .ge 18, 3), (35, .aload_n 2, 1), (36, .iload_n 3, 1), (37, .aload_n 0, 1), (38, .getfield 14, 3), (41, .iload_n 3, 1), (42, .baload, 1), (43, .bastore, 1), (44, .iinc 3 1, 3), (47, .goto (-20), 3), (50, .aload_n 0, 1), (51, .aload_n 2, 1), (52, .putfield 14, 3), (55, .return_, 1)]
theorem D_M_reserve : ∀ q ∈ T_M_reserve, decode b_M_reserve q.1 = .ok (q.2.1, q.2.2) := by decide +kernel
def w_M_reserve_L55 (Qr : xb_H → Prop) (h : xb_H) (bc : Nat) (bs : Nat) : Prop :=
    Qr h

def w_M_reserve_L27 (Qr : xb_H → Prop) : Nat → Nat → Nat → Int32 → xb_H → Nat → Nat → Prop
  | 0, _, _, _, _, _, _ => False
  | n9 + 1, x0, x2, x3, h, bc, bs =>
    xb_k h x0 = 9 ∧ (((xb_i h x0 4) ≤ x3 → ∀ h3 : xb_H, h3 = xb_P h x0 3 (some x2) → w_M_reserve_L55 Qr h3 bc bs) ∧ (¬ (xb_i h x0 4) ≤ x3 → ∃ b4 : Nat, (xb_r h x0 3) = some b4 ∧ xb_k h b4 = 100 ∧ vp_in x3 (xb_n h b4) ∧ xb_k h x2 = 100 ∧ vp_in x3 (xb_n h x2) ∧ ∀ h9 : xb_H, h9 = xb_I h x2 (Int32.toNatClampNeg x3) (vp_nar .byte (xb_i h b4 (Int32.toNatClampNeg x3))) → w_M_reserve_L27 Qr n9 x0 x2 (x3 + 1) h9 bc bs))

def w_M_reserve (x0 : Nat) (x1 : Int32) (h : xb_H) (bc : Nat) (bs : Nat) (Qr : xb_H → Prop) : Prop :=
    xb_k h x0 = 9 ∧ ∃ b2 : Nat, (xb_r h x0 3) = some b2 ∧ xb_k h b2 = 100 ∧ ((((xb_i h x0 4) + x1) ≤ (nI (xb_n h b2)) → w_M_reserve_L55 Qr h bc bs) ∧ (¬ ((xb_i h x0 4) + x1) ≤ (nI (xb_n h b2)) → ¬ (2 * ((xb_i h x0 4) + x1)) < 0 ∧ (Int32.toNatClampNeg (2 * ((xb_i h x0 4) + x1))) * 1 ≤ 536870912 ∧ 1 ≤ bc ∧ (Int32.toNatClampNeg (2 * ((xb_i h x0 4) + x1))) ≤ bs ∧ ∀ q5 : Nat, xb_k h q5 = 0 → ∀ h6 : xb_H, h6 = xb_new h q5 100 (Int32.toNatClampNeg (2 * ((xb_i h x0 4) + x1))) → (∃ n8 : Nat, w_M_reserve_L27 Qr n8 x0 q5 0 h6 (bc - 1) (bs - (Int32.toNatClampNeg (2 * ((xb_i h x0 4) + x1)))))))

set_option maxHeartbeats 4000000 in
set_option maxRecDepth 100000 in
theorem am_M_reserve_L55 (l : Launch) (hfl : l.flags = pinnedFlags ++ [noTraceFlag]) (D : va_G) (A : Nat → Prop) (σ MC MS : Nat) (h0 : xb_H) (Qr : xb_H → Prop) (h : xb_H) (bc : Nat) (bs : Nat) (hw : w_M_reserve_L55 Qr h bc bs) : xb_am l D A σ 2 MC MS h0 (fun v h => v = none ∧ Qr h) (fun _ _ => False) y_M_reserve.cls y_M_reserve.name b_M_reserve 4 ([] : List ExceptionTableEntry) none 55 [] [] h bc bs := by
  unfold w_M_reserve_L55 at hw
  intro p e s m args below meth c hC H locs ls k n hE hl hR hS hk hn
  obtain ⟨hx, hb, hown, hlocks, htab, hml, hr, hB, hA, hnm⟩ := id hC
  have hts := hB.1.1.at args
  exact xb_vret hx hb hr hlocks (show k ≤ MC by omega) (show n ≤ MS by omega) hE hR hS (xb_d D_M_reserve 34 rfl) hw

set_option maxHeartbeats 4000000 in
set_option maxRecDepth 100000 in
theorem am_M_reserve_L27 (l : Launch) (hfl : l.flags = pinnedFlags ++ [noTraceFlag]) (D : va_G) (A : Nat → Prop) (σ MC MS : Nat) (h0 : xb_H) (Qr : xb_H → Prop) (n9 : Nat) : ∀ (x0 : Nat) (x2 : Nat) (x3 : Int32) (h : xb_H) (bc : Nat) (bs : Nat), w_M_reserve_L27 Qr n9 x0 x2 x3 h bc bs → xb_am l D A σ 2 MC MS h0 (fun v h => v = none ∧ Qr h) (fun _ _ => False) y_M_reserve.cls y_M_reserve.name b_M_reserve 4 ([] : List ExceptionTableEntry) none 27 [(0, .ref x0), (2, .ref x2), (3, .int x3)] [] h bc bs := by
  induction n9 with
  | zero => intro x0 x2 x3 h bc bs hw; exact False.elim hw
  | succ n9 ih =>
    intro x0 x2 x3 h bc bs hw
    unfold w_M_reserve_L27 at hw
    intro p e s m args below meth c hC H locs ls k n hE hl hR hS hk hn
    obtain ⟨hx, hb, hown, hlocks, htab, hml, hr, hB, hA, hnm⟩ := id hC
    have hts := hB.1.1.at args
    refine lv_iload_n hx hb (xb_d D_M_reserve 18 rfl) rfl (lv_at hl 2 rfl) ?_
    refine lv_aload_n hx hb (xb_d D_M_reserve 19 rfl) rfl (lv_at hl 0 rfl) ?_
    obtain ⟨hk1, hw⟩ := hw
    refine xb_getI (C := R_M) (T := F_M) (N := 97) hx hb 8 4 hts fin_M hown hR hk1 (by decide) rfl (by decide) rfl (hts _ m_a4223f90) (fun _ h9 => h9) (xb_d D_M_reserve 20 rfl) ?_
    refine lv_icmp_ge (tgt := 50) hx hb (xb_d D_M_reserve 21 rfl) rfl (fun hc2 => ?_) (fun hc2 => ?_)
    · have hw := hw.1 hc2
      refine lv_aload_n hx hb (xb_d D_M_reserve 31 rfl) rfl (lv_at hl 0 rfl) ?_
      refine lv_aload_n hx hb (xb_d D_M_reserve 32 rfl) rfl (lv_at hl 1 rfl) ?_
      refine xb_putP (C := R_M) (T := F_M) (N := 97) (ty := .array .byte) (x := (some x2)) hx hb 8 3 hts fin_M t_M t_M_ok n_M hown hR hS hk1 (by decide) rfl (by decide) rfl (hts _ m_4f0568af) (fun _ h9 => h9) rfl (by decide +kernel) (xb_pnA _ _).1 (xb_pnA _ _).2 (xb_d D_M_reserve 33 rfl) (fun H locs hR hS => ?_)
      obtain ⟨h3, eh3⟩ : ∃ x : xb_H, x = xb_P h x0 3 (some x2) := ⟨_, rfl⟩
      rw [← eh3] at hR
      have hw := hw h3 eh3
      have hE : xb_ext h0 h3 := by rw [eh3]; exact hE
      exact am_M_reserve_L55 l hfl D A σ MC MS h0 Qr h3 bc bs hw p e s m args below meth c hC H locs ls k n hE (lv_sub hl [] rfl) hR hS (by omega) (by omega)
    · have hw := hw.2 hc2
      refine lv_aload_n hx hb (xb_d D_M_reserve 22 rfl) rfl (lv_at hl 1 rfl) ?_
      refine lv_iload_n hx hb (xb_d D_M_reserve 23 rfl) rfl (lv_at hl 2 rfl) ?_
      refine lv_aload_n hx hb (xb_d D_M_reserve 24 rfl) rfl (lv_at hl 0 rfl) ?_
      refine xb_getP (C := R_M) (T := F_M) (N := 97) hx hb 8 3 hts fin_M hown hR hk1 (by decide) rfl (by decide) rfl (hts _ m_4f0568af) (fun _ h9 => h9) (xb_d D_M_reserve 25 rfl) ?_
      obtain ⟨b4, eb4, hw⟩ := hw
      refine xb_some eb4 ?_
      refine lv_iload_n hx hb (xb_d D_M_reserve 26 rfl) rfl (lv_at hl 2 rfl) ?_
      obtain ⟨hk6, hw⟩ := hw
      obtain ⟨hi5, hw⟩ := hw
      refine xb_bald hx hb hR hk6 hi5 (xb_d D_M_reserve 27 rfl) ?_
      obtain ⟨hk7, hw⟩ := hw
      obtain ⟨hi8, hw⟩ := hw
      refine xb_bast hx hb hR hS hk7 hi8 (xb_d D_M_reserve 28 rfl) (fun H locs hR hS => ?_)
      obtain ⟨h9, eh9⟩ : ∃ x : xb_H, x = xb_I h x2 (Int32.toNatClampNeg x3) (vp_nar .byte (xb_i h b4 (Int32.toNatClampNeg x3))) := ⟨_, rfl⟩
      rw [← eh9] at hR
      have hw := hw h9 eh9
      have hE : xb_ext h0 h9 := by rw [eh9]; exact hE
      refine lv_iinc (v := (x3 + 1)) (k := 2) hx hb (xb_d D_M_reserve 29 rfl) hl rfl (by first | rfl | decide) (by decide) rfl (fun ls hl => ?_)
      have hl : lv_has ls 4 [(3, .int (x3 + 1)), (0, .ref x0), (2, .ref x2)] := hl
      refine lv_goto (tgt := 27) hx hb (xb_d D_M_reserve 30 rfl) rfl ?_
      exact ih x0 x2 (x3 + 1) h9 bc bs hw p e s m args below meth c hC H locs ls k n hE (lv_sub hl [1, 2, 0] rfl) hR hS (by omega) (by omega)

set_option maxHeartbeats 4000000 in
set_option maxRecDepth 100000 in
theorem ok_M_reserve (l : Launch) (hfl : l.flags = pinnedFlags ++ [noTraceFlag]) (D : va_G) (A : Nat → Prop) (σ : Nat) (x0 : Nat) (x1 : Int32) (h : xb_H) (bc : Nat) (bs : Nat) (Qr : xb_H → Prop) (hw : w_M_reserve x0 x1 h bc bs Qr) : xt_Met l y_M_reserve [.code y_M_reserve b_M_reserve 4 none] (xb_rm 2 bc bs) (xb_Pc D A σ h [.ref x0, .int x1]) (xb_Qc D A h (fun v h => v = none ∧ Qr h) (fun _ _ => False)) bc bs A := by
  refine xb_ofAm (cc := b_M_reserve) (by decide) (Nat.le_of_ble_eq_true rfl) ?_
  unfold w_M_reserve at hw
  show xb_am l D A σ 2 bc bs h (fun v h => v = none ∧ Qr h) (fun _ _ => False) y_M_reserve.cls y_M_reserve.name b_M_reserve 4 ([] : List ExceptionTableEntry) none 0 [(0, .ref x0), (1, .int x1)] [] h bc bs
  obtain ⟨MC, hMC⟩ : ∃ x, x = bc := ⟨_, rfl⟩
  obtain ⟨MS, hMS⟩ : ∃ x, x = bs := ⟨_, rfl⟩
  rw [show xb_am l D A σ 2 bc bs = xb_am l D A σ 2 MC MS by rw [hMC, hMS]]
  obtain ⟨h0, hh0⟩ : ∃ x, x = h := ⟨_, rfl⟩
  rw [show xb_am l D A σ 2 MC MS h = xb_am l D A σ 2 MC MS h0 by rw [hh0]]
  intro p e s m args below meth c hC H locs ls k n hE hl hR hS hk hn
  obtain ⟨hx, hb, hown, hlocks, htab, hml, hr, hB, hA, hnm⟩ := id hC
  have hts := hB.1.1.at args
  refine lv_aload_n hx hb (xb_d D_M_reserve 0 rfl) rfl (lv_at hl 0 rfl) ?_
  obtain ⟨hk1, hw⟩ := hw
  refine xb_getI (C := R_M) (T := F_M) (N := 97) hx hb 8 4 hts fin_M hown hR hk1 (by decide) rfl (by decide) rfl (hts _ m_a4223f90) (fun _ h9 => h9) (xb_d D_M_reserve 1 rfl) ?_
  refine lv_iload_n hx hb (xb_d D_M_reserve 2 rfl) rfl (lv_at hl 1 rfl) ?_
  refine lv_iadd hx hb (xb_d D_M_reserve 3 rfl) ?_
  refine lv_aload_n hx hb (xb_d D_M_reserve 4 rfl) rfl (lv_at hl 0 rfl) ?_
  refine xb_getP (C := R_M) (T := F_M) (N := 97) hx hb 8 3 hts fin_M hown hR hk1 (by decide) rfl (by decide) rfl (hts _ m_4f0568af) (fun _ h9 => h9) (xb_d D_M_reserve 5 rfl) ?_
  obtain ⟨b2, eb2, hw⟩ := hw
  refine xb_some eb2 ?_
  obtain ⟨hk3, hw⟩ := hw
  refine xb_alen hx hb hR hk3 (by decide) (xb_d D_M_reserve 6 rfl) ?_
  refine lv_icmp_le (tgt := 55) hx hb (xb_d D_M_reserve 7 rfl) rfl (fun hc4 => ?_) (fun hc4 => ?_)
  · have hw := hw.1 hc4
    exact am_M_reserve_L55 l hfl D A σ MC MS h0 Qr h bc bs hw p e s m args below meth c hC H locs ls k n hE (lv_sub hl [] rfl) hR hS (by omega) (by omega)
  · have hw := hw.2 hc4
    refine lv_iconst (v := 2) hx hb (xb_d D_M_reserve 8 rfl) (by decide) ?_
    refine lv_aload_n hx hb (xb_d D_M_reserve 9 rfl) rfl (lv_at hl 0 rfl) ?_
    refine xb_getI (C := R_M) (T := F_M) (N := 97) hx hb 8 4 hts fin_M hown hR hk1 (by decide) rfl (by decide) rfl (hts _ m_a4223f90) (fun _ h9 => h9) (xb_d D_M_reserve 10 rfl) ?_
    refine lv_iload_n hx hb (xb_d D_M_reserve 11 rfl) rfl (lv_at hl 1 rfl) ?_
    refine lv_iadd hx hb (xb_d D_M_reserve 12 rfl) ?_
    refine lv_imul hx hb (xb_d D_M_reserve 13 rfl) ?_
    obtain ⟨hnq5, hbq5, hcq5, hsq5, hw⟩ := hw
    have enq5 : (Int32.toNatClampNeg (2 * ((xb_i h x0 4) + x1))) = (Int32.toNatClampNeg (2 * ((xb_i h x0 4) + x1))) := rfl
    refine xb_newa_b hx hb (hts _ m_2503b19f) hR hS hA hnq5 hbq5 (show k + 1 ≤ MC by omega) (show n + _ ≤ MS by rw [enq5]; omega) (xb_d D_M_reserve 14 rfl) (fun q5 H hqq5 hR hS => ?_)
    rw [enq5] at hR ⊢
    have hw := hw q5 hqq5
    obtain ⟨h6, eh6⟩ : ∃ x : xb_H, x = xb_new h q5 100 (Int32.toNatClampNeg (2 * ((xb_i h x0 4) + x1))) := ⟨_, rfl⟩
    rw [← eh6] at hR
    have hw := hw h6 eh6
    have hE : xb_ext h0 h6 := by rw [eh6]; exact hE.new _ _ hqq5
    have hk7 : xb_k h6 q5 = 100 := by rw [eh6]; exact xb_new_k _ _ _ _
    refine lv_astore_n hx hb (xb_d D_M_reserve 15 rfl) rfl hl (by decide) rfl (fun ls hl => ?_)
    have hl : lv_has ls 4 [(2, .ref q5), (0, .ref x0), (1, .int x1)] := hl
    refine lv_iconst (v := 0) hx hb (xb_d D_M_reserve 16 rfl) (by decide) ?_
    refine lv_istore_n hx hb (xb_d D_M_reserve 17 rfl) rfl hl (by decide) rfl (fun ls hl => ?_)
    have hl : lv_has ls 4 [(3, .int 0), (2, .ref q5), (0, .ref x0), (1, .int x1)] := hl
    obtain ⟨n8, hw⟩ := hw
    exact am_M_reserve_L27 l hfl D A σ MC MS h0 Qr n8 x0 q5 0 h6 (bc - 1) (bs - (Int32.toNatClampNeg (2 * ((xb_i h x0 4) + x1)))) hw p e s m args below meth c hC H locs ls (k + 1) (n + (Int32.toNatClampNeg (2 * ((xb_i h x0 4) + x1)))) hE (lv_sub hl [2, 1, 0] rfl) hR hS (by omega) (by omega)

theorem m_82d2871e : (.fieldLink "StackHostModel" 519 "StackHostModel" "resolvedCount" "I" : Cond) ∈ xt_tbl := xt_in (xt_t9 (List.mem_of_getElem? (i := 173) (by decide +kernel))) (by decide +kernel)
theorem m_e6997b7a : (.fieldLink "StackHostModel" 68 "StackHostModel" "resolved" "[I" : Cond) ∈ xt_tbl := xt_in (xt_t9 (List.mem_of_getElem? (i := 172) (by decide +kernel))) (by decide +kernel)
set_option maxRecDepth 100000 in
def T_M_reserveImports : List (Nat × Instr × Nat) := [(0, .aload_n 0, 1), (1, .getfield 519, 3), (4, .iload_n 1, 1), (5, .iadd, 1), (6, .aload_n 0, 1), (7, .getfield 68, 3), (10, .arraylength, 1), (11, .if_icmp .le 44, 3), (14, .iconst 2, 1), (15, .aload_n 0, 1), (16, .getfield 519, 3), (19, .iload_n 1, 1), (20, .iadd, 1), (21, .imul, 1), (22, .newarray .int, 2), (24, .astore_n 2, 1), (25, .iconst 0, 1), (26, .istore_n 3, 1), (27, .iload_n 3, 1), (28, .aload_n 0, 1), (29, .getfield 519, 3), (32, .if_icmp .ge 18, 3), (35, .aload_n 2, 1), (36, .iload_n 3, 1), (37, .aload_n 0, 1), (38, .getfield 68, 3), (41, .iload_n 3, 1), (42, .iaload, 1), (43, .iastore, 1), (44, .iinc 3 1, 3), (47, .goto (-20), 3), (50, .aload_n 0, 1), (51, .aload_n 2, 1), (52, .putfield 68, 3), (55, .return_, 1)]
theorem D_M_reserveImports : ∀ q ∈ T_M_reserveImports, decode b_M_reserveImports q.1 = .ok (q.2.1, q.2.2) := by decide +kernel
def w_M_reserveImports_L55 (Qr : xb_H → Prop) (h : xb_H) (bc : Nat) (bs : Nat) : Prop :=
    Qr h

def w_M_reserveImports_L27 (Qr : xb_H → Prop) : Nat → Nat → Nat → Int32 → xb_H → Nat → Nat → Prop
  | 0, _, _, _, _, _, _ => False
  | n9 + 1, x0, x2, x3, h, bc, bs =>
    xb_k h x0 = 9 ∧ (((xb_i h x0 34) ≤ x3 → ∀ h3 : xb_H, h3 = xb_P h x0 33 (some x2) → w_M_reserveImports_L55 Qr h3 bc bs) ∧ (¬ (xb_i h x0 34) ≤ x3 → ∃ b4 : Nat, (xb_r h x0 33) = some b4 ∧ xb_k h b4 = 102 ∧ vp_in x3 (xb_n h b4) ∧ xb_k h x2 = 102 ∧ vp_in x3 (xb_n h x2) ∧ ∀ h9 : xb_H, h9 = xb_I h x2 (Int32.toNatClampNeg x3) (xb_i h b4 (Int32.toNatClampNeg x3)) → w_M_reserveImports_L27 Qr n9 x0 x2 (x3 + 1) h9 bc bs))

def w_M_reserveImports (x0 : Nat) (x1 : Int32) (h : xb_H) (bc : Nat) (bs : Nat) (Qr : xb_H → Prop) : Prop :=
    xb_k h x0 = 9 ∧ ∃ b2 : Nat, (xb_r h x0 33) = some b2 ∧ xb_k h b2 = 102 ∧ ((((xb_i h x0 34) + x1) ≤ (nI (xb_n h b2)) → w_M_reserveImports_L55 Qr h bc bs) ∧ (¬ ((xb_i h x0 34) + x1) ≤ (nI (xb_n h b2)) → ¬ (2 * ((xb_i h x0 34) + x1)) < 0 ∧ (Int32.toNatClampNeg (2 * ((xb_i h x0 34) + x1))) * 4 ≤ 536870912 ∧ 1 ≤ bc ∧ (Int32.toNatClampNeg (2 * ((xb_i h x0 34) + x1))) ≤ bs ∧ ∀ q5 : Nat, xb_k h q5 = 0 → ∀ h6 : xb_H, h6 = xb_new h q5 102 (Int32.toNatClampNeg (2 * ((xb_i h x0 34) + x1))) → (∃ n8 : Nat, w_M_reserveImports_L27 Qr n8 x0 q5 0 h6 (bc - 1) (bs - (Int32.toNatClampNeg (2 * ((xb_i h x0 34) + x1)))))))

set_option maxHeartbeats 4000000 in
set_option maxRecDepth 100000 in
theorem am_M_reserveImports_L55 (l : Launch) (hfl : l.flags = pinnedFlags ++ [noTraceFlag]) (D : va_G) (A : Nat → Prop) (σ MC MS : Nat) (h0 : xb_H) (Qr : xb_H → Prop) (h : xb_H) (bc : Nat) (bs : Nat) (hw : w_M_reserveImports_L55 Qr h bc bs) : xb_am l D A σ 2 MC MS h0 (fun v h => v = none ∧ Qr h) (fun _ _ => False) y_M_reserveImports.cls y_M_reserveImports.name b_M_reserveImports 4 ([] : List ExceptionTableEntry) none 55 [] [] h bc bs := by
  unfold w_M_reserveImports_L55 at hw
  intro p e s m args below meth c hC H locs ls k n hE hl hR hS hk hn
  obtain ⟨hx, hb, hown, hlocks, htab, hml, hr, hB, hA, hnm⟩ := id hC
  have hts := hB.1.1.at args
  exact xb_vret hx hb hr hlocks (show k ≤ MC by omega) (show n ≤ MS by omega) hE hR hS (xb_d D_M_reserveImports 34 rfl) hw

set_option maxHeartbeats 4000000 in
set_option maxRecDepth 100000 in
theorem am_M_reserveImports_L27 (l : Launch) (hfl : l.flags = pinnedFlags ++ [noTraceFlag]) (D : va_G) (A : Nat → Prop) (σ MC MS : Nat) (h0 : xb_H) (Qr : xb_H → Prop) (n9 : Nat) : ∀ (x0 : Nat) (x2 : Nat) (x3 : Int32) (h : xb_H) (bc : Nat) (bs : Nat), w_M_reserveImports_L27 Qr n9 x0 x2 x3 h bc bs → xb_am l D A σ 2 MC MS h0 (fun v h => v = none ∧ Qr h) (fun _ _ => False) y_M_reserveImports.cls y_M_reserveImports.name b_M_reserveImports 4 ([] : List ExceptionTableEntry) none 27 [(0, .ref x0), (2, .ref x2), (3, .int x3)] [] h bc bs := by
  induction n9 with
  | zero => intro x0 x2 x3 h bc bs hw; exact False.elim hw
  | succ n9 ih =>
    intro x0 x2 x3 h bc bs hw
    unfold w_M_reserveImports_L27 at hw
    intro p e s m args below meth c hC H locs ls k n hE hl hR hS hk hn
    obtain ⟨hx, hb, hown, hlocks, htab, hml, hr, hB, hA, hnm⟩ := id hC
    have hts := hB.1.1.at args
    refine lv_iload_n hx hb (xb_d D_M_reserveImports 18 rfl) rfl (lv_at hl 2 rfl) ?_
    refine lv_aload_n hx hb (xb_d D_M_reserveImports 19 rfl) rfl (lv_at hl 0 rfl) ?_
    obtain ⟨hk1, hw⟩ := hw
    refine xb_getI (C := R_M) (T := F_M) (N := 97) hx hb 8 34 hts fin_M hown hR hk1 (by decide) rfl (by decide) rfl (hts _ m_82d2871e) (fun _ h9 => h9) (xb_d D_M_reserveImports 20 rfl) ?_
    refine lv_icmp_ge (tgt := 50) hx hb (xb_d D_M_reserveImports 21 rfl) rfl (fun hc2 => ?_) (fun hc2 => ?_)
    · have hw := hw.1 hc2
      refine lv_aload_n hx hb (xb_d D_M_reserveImports 31 rfl) rfl (lv_at hl 0 rfl) ?_
      refine lv_aload_n hx hb (xb_d D_M_reserveImports 32 rfl) rfl (lv_at hl 1 rfl) ?_
      refine xb_putP (C := R_M) (T := F_M) (N := 97) (ty := .array .int) (x := (some x2)) hx hb 8 33 hts fin_M t_M t_M_ok n_M hown hR hS hk1 (by decide) rfl (by decide) rfl (hts _ m_e6997b7a) (fun _ h9 => h9) rfl (by decide +kernel) (xb_pnA _ _).1 (xb_pnA _ _).2 (xb_d D_M_reserveImports 33 rfl) (fun H locs hR hS => ?_)
      obtain ⟨h3, eh3⟩ : ∃ x : xb_H, x = xb_P h x0 33 (some x2) := ⟨_, rfl⟩
      rw [← eh3] at hR
      have hw := hw h3 eh3
      have hE : xb_ext h0 h3 := by rw [eh3]; exact hE
      exact am_M_reserveImports_L55 l hfl D A σ MC MS h0 Qr h3 bc bs hw p e s m args below meth c hC H locs ls k n hE (lv_sub hl [] rfl) hR hS (by omega) (by omega)
    · have hw := hw.2 hc2
      refine lv_aload_n hx hb (xb_d D_M_reserveImports 22 rfl) rfl (lv_at hl 1 rfl) ?_
      refine lv_iload_n hx hb (xb_d D_M_reserveImports 23 rfl) rfl (lv_at hl 2 rfl) ?_
      refine lv_aload_n hx hb (xb_d D_M_reserveImports 24 rfl) rfl (lv_at hl 0 rfl) ?_
      refine xb_getP (C := R_M) (T := F_M) (N := 97) hx hb 8 33 hts fin_M hown hR hk1 (by decide) rfl (by decide) rfl (hts _ m_e6997b7a) (fun _ h9 => h9) (xb_d D_M_reserveImports 25 rfl) ?_
      obtain ⟨b4, eb4, hw⟩ := hw
      refine xb_some eb4 ?_
      refine lv_iload_n hx hb (xb_d D_M_reserveImports 26 rfl) rfl (lv_at hl 2 rfl) ?_
      obtain ⟨hk6, hw⟩ := hw
      obtain ⟨hi5, hw⟩ := hw
      refine xb_iald hx hb hR hk6 hi5 (xb_d D_M_reserveImports 27 rfl) ?_
      obtain ⟨hk7, hw⟩ := hw
      obtain ⟨hi8, hw⟩ := hw
      refine xb_iast hx hb hR hS hk7 hi8 (xb_d D_M_reserveImports 28 rfl) (fun H locs hR hS => ?_)
      obtain ⟨h9, eh9⟩ : ∃ x : xb_H, x = xb_I h x2 (Int32.toNatClampNeg x3) (xb_i h b4 (Int32.toNatClampNeg x3)) := ⟨_, rfl⟩
      rw [← eh9] at hR
      have hw := hw h9 eh9
      have hE : xb_ext h0 h9 := by rw [eh9]; exact hE
      refine lv_iinc (v := (x3 + 1)) (k := 2) hx hb (xb_d D_M_reserveImports 29 rfl) hl rfl (by first | rfl | decide) (by decide) rfl (fun ls hl => ?_)
      have hl : lv_has ls 4 [(3, .int (x3 + 1)), (0, .ref x0), (2, .ref x2)] := hl
      refine lv_goto (tgt := 27) hx hb (xb_d D_M_reserveImports 30 rfl) rfl ?_
      exact ih x0 x2 (x3 + 1) h9 bc bs hw p e s m args below meth c hC H locs ls k n hE (lv_sub hl [1, 2, 0] rfl) hR hS (by omega) (by omega)

set_option maxHeartbeats 4000000 in
set_option maxRecDepth 100000 in
theorem ok_M_reserveImports (l : Launch) (hfl : l.flags = pinnedFlags ++ [noTraceFlag]) (D : va_G) (A : Nat → Prop) (σ : Nat) (x0 : Nat) (x1 : Int32) (h : xb_H) (bc : Nat) (bs : Nat) (Qr : xb_H → Prop) (hw : w_M_reserveImports x0 x1 h bc bs Qr) : xt_Met l y_M_reserveImports [.code y_M_reserveImports b_M_reserveImports 4 none] (xb_rm 2 bc bs) (xb_Pc D A σ h [.ref x0, .int x1]) (xb_Qc D A h (fun v h => v = none ∧ Qr h) (fun _ _ => False)) bc bs A := by
  refine xb_ofAm (cc := b_M_reserveImports) (by decide) (Nat.le_of_ble_eq_true rfl) ?_
  unfold w_M_reserveImports at hw
  show xb_am l D A σ 2 bc bs h (fun v h => v = none ∧ Qr h) (fun _ _ => False) y_M_reserveImports.cls y_M_reserveImports.name b_M_reserveImports 4 ([] : List ExceptionTableEntry) none 0 [(0, .ref x0), (1, .int x1)] [] h bc bs
  obtain ⟨MC, hMC⟩ : ∃ x, x = bc := ⟨_, rfl⟩
  obtain ⟨MS, hMS⟩ : ∃ x, x = bs := ⟨_, rfl⟩
  rw [show xb_am l D A σ 2 bc bs = xb_am l D A σ 2 MC MS by rw [hMC, hMS]]
  obtain ⟨h0, hh0⟩ : ∃ x, x = h := ⟨_, rfl⟩
  rw [show xb_am l D A σ 2 MC MS h = xb_am l D A σ 2 MC MS h0 by rw [hh0]]
  intro p e s m args below meth c hC H locs ls k n hE hl hR hS hk hn
  obtain ⟨hx, hb, hown, hlocks, htab, hml, hr, hB, hA, hnm⟩ := id hC
  have hts := hB.1.1.at args
  refine lv_aload_n hx hb (xb_d D_M_reserveImports 0 rfl) rfl (lv_at hl 0 rfl) ?_
  obtain ⟨hk1, hw⟩ := hw
  refine xb_getI (C := R_M) (T := F_M) (N := 97) hx hb 8 34 hts fin_M hown hR hk1 (by decide) rfl (by decide) rfl (hts _ m_82d2871e) (fun _ h9 => h9) (xb_d D_M_reserveImports 1 rfl) ?_
  refine lv_iload_n hx hb (xb_d D_M_reserveImports 2 rfl) rfl (lv_at hl 1 rfl) ?_
  refine lv_iadd hx hb (xb_d D_M_reserveImports 3 rfl) ?_
  refine lv_aload_n hx hb (xb_d D_M_reserveImports 4 rfl) rfl (lv_at hl 0 rfl) ?_
  refine xb_getP (C := R_M) (T := F_M) (N := 97) hx hb 8 33 hts fin_M hown hR hk1 (by decide) rfl (by decide) rfl (hts _ m_e6997b7a) (fun _ h9 => h9) (xb_d D_M_reserveImports 5 rfl) ?_
  obtain ⟨b2, eb2, hw⟩ := hw
  refine xb_some eb2 ?_
  obtain ⟨hk3, hw⟩ := hw
  refine xb_alen hx hb hR hk3 (by decide) (xb_d D_M_reserveImports 6 rfl) ?_
  refine lv_icmp_le (tgt := 55) hx hb (xb_d D_M_reserveImports 7 rfl) rfl (fun hc4 => ?_) (fun hc4 => ?_)
  · have hw := hw.1 hc4
    exact am_M_reserveImports_L55 l hfl D A σ MC MS h0 Qr h bc bs hw p e s m args below meth c hC H locs ls k n hE (lv_sub hl [] rfl) hR hS (by omega) (by omega)
  · have hw := hw.2 hc4
    refine lv_iconst (v := 2) hx hb (xb_d D_M_reserveImports 8 rfl) (by decide) ?_
    refine lv_aload_n hx hb (xb_d D_M_reserveImports 9 rfl) rfl (lv_at hl 0 rfl) ?_
    refine xb_getI (C := R_M) (T := F_M) (N := 97) hx hb 8 34 hts fin_M hown hR hk1 (by decide) rfl (by decide) rfl (hts _ m_82d2871e) (fun _ h9 => h9) (xb_d D_M_reserveImports 10 rfl) ?_
    refine lv_iload_n hx hb (xb_d D_M_reserveImports 11 rfl) rfl (lv_at hl 1 rfl) ?_
    refine lv_iadd hx hb (xb_d D_M_reserveImports 12 rfl) ?_
    refine lv_imul hx hb (xb_d D_M_reserveImports 13 rfl) ?_
    obtain ⟨hnq5, hbq5, hcq5, hsq5, hw⟩ := hw
    have enq5 : (Int32.toNatClampNeg (2 * ((xb_i h x0 34) + x1))) = (Int32.toNatClampNeg (2 * ((xb_i h x0 34) + x1))) := rfl
    refine xb_newa_i hx hb (hts _ m_d160d5ac) hR hS hA hnq5 hbq5 (show k + 1 ≤ MC by omega) (show n + _ ≤ MS by rw [enq5]; omega) (xb_d D_M_reserveImports 14 rfl) (fun q5 H hqq5 hR hS => ?_)
    rw [enq5] at hR ⊢
    have hw := hw q5 hqq5
    obtain ⟨h6, eh6⟩ : ∃ x : xb_H, x = xb_new h q5 102 (Int32.toNatClampNeg (2 * ((xb_i h x0 34) + x1))) := ⟨_, rfl⟩
    rw [← eh6] at hR
    have hw := hw h6 eh6
    have hE : xb_ext h0 h6 := by rw [eh6]; exact hE.new _ _ hqq5
    have hk7 : xb_k h6 q5 = 102 := by rw [eh6]; exact xb_new_k _ _ _ _
    refine lv_astore_n hx hb (xb_d D_M_reserveImports 15 rfl) rfl hl (by decide) rfl (fun ls hl => ?_)
    have hl : lv_has ls 4 [(2, .ref q5), (0, .ref x0), (1, .int x1)] := hl
    refine lv_iconst (v := 0) hx hb (xb_d D_M_reserveImports 16 rfl) (by decide) ?_
    refine lv_istore_n hx hb (xb_d D_M_reserveImports 17 rfl) rfl hl (by decide) rfl (fun ls hl => ?_)
    have hl : lv_has ls 4 [(3, .int 0), (2, .ref q5), (0, .ref x0), (1, .int x1)] := hl
    obtain ⟨n8, hw⟩ := hw
    exact am_M_reserveImports_L27 l hfl D A σ MC MS h0 Qr n8 x0 q5 0 h6 (bc - 1) (bs - (Int32.toNatClampNeg (2 * ((xb_i h x0 34) + x1)))) hw p e s m args below meth c hC H locs ls (k + 1) (n + (Int32.toNatClampNeg (2 * ((xb_i h x0 34) + x1)))) hE (lv_sub hl [2, 1, 0] rfl) hR hS (by omega) (by omega)

theorem m_4386cc76 : (.fieldLink "StackHostModel" 666 "StackHostModel" "result" "J" : Cond) ∈ xt_tbl := xt_in (xt_t9 (List.mem_of_getElem? (i := 223) (by decide +kernel))) (by decide +kernel)
set_option maxRecDepth 100000 in
def T_M_result : List (Nat × Instr × Nat) := [(0, .aload_n 0, 1), (1, .iconst 0, 1), (2, .putfield 189, 3), (5, .aload_n 0, 1), (6, .getfield 666, 3), (9, .lreturn, 1)]
theorem D_M_result : ∀ q ∈ T_M_result, decode b_M_result q.1 = .ok (q.2.1, q.2.2) := by decide +kernel
def w_M_result (x0 : Nat) (h : xb_H) (Qr : Int64 → xb_H → Prop) : Prop :=
    xb_k h x0 = 9 ∧ ∀ h2 : xb_H, h2 = xb_I h x0 0 0 → Qr (xb_l h2 x0 85) h2

set_option maxHeartbeats 4000000 in
set_option maxRecDepth 100000 in
theorem ok_M_result (l : Launch) (hfl : l.flags = pinnedFlags ++ [noTraceFlag]) (D : va_G) (A : Nat → Prop) (σ : Nat) (x0 : Nat) (h : xb_H) (Qr : Int64 → xb_H → Prop) (hw : w_M_result x0 h Qr) : xt_Met l y_M_result [.code y_M_result b_M_result 1 (some .long)] (xb_rm 2 0 0) (xb_Pc D A σ h [.ref x0]) (xb_Qc D A h (fun v h => ∃ r, v = some (.long r) ∧ Qr r h) (fun _ _ => False)) 0 0 A := by
  refine xb_ofAm (cc := b_M_result) (by decide) (Nat.le_of_ble_eq_true rfl) ?_
  unfold w_M_result at hw
  show xb_am l D A σ 2 0 0 h (fun v h => ∃ r, v = some (.long r) ∧ Qr r h) (fun _ _ => False) y_M_result.cls y_M_result.name b_M_result 1 ([] : List ExceptionTableEntry) (some .long) 0 [(0, .ref x0)] [] h 0 0
  obtain ⟨MC, hMC⟩ : ∃ x, x = 0 := ⟨_, rfl⟩
  obtain ⟨MS, hMS⟩ : ∃ x, x = 0 := ⟨_, rfl⟩
  rw [show xb_am l D A σ 2 0 0 = xb_am l D A σ 2 MC MS by rw [hMC, hMS]]
  obtain ⟨h0, hh0⟩ : ∃ x, x = h := ⟨_, rfl⟩
  rw [show xb_am l D A σ 2 MC MS h = xb_am l D A σ 2 MC MS h0 by rw [hh0]]
  intro p e s m args below meth c hC H locs ls k n hE hl hR hS hk hn
  obtain ⟨hx, hb, hown, hlocks, htab, hml, hr, hB, hA, hnm⟩ := id hC
  have hts := hB.1.1.at args
  refine lv_aload_n hx hb (xb_d D_M_result 0 rfl) rfl (lv_at hl 0 rfl) ?_
  refine lv_iconst (v := 0) hx hb (xb_d D_M_result 1 rfl) (by decide) ?_
  obtain ⟨hk1, hw⟩ := hw
  refine xb_putI (C := R_M) (T := F_M) (N := 97) (ty := .int) (x := 0) hx hb 8 0 hts fin_M t_M t_M_ok n_M hown hR hS hk1 (by decide) rfl (by decide) rfl (hts _ m_afabd6a0) (fun _ h9 => h9) rfl (by decide +kernel) rfl rfl (xb_d D_M_result 2 rfl) (fun H locs hR hS => ?_)
  obtain ⟨h2, eh2⟩ : ∃ x : xb_H, x = xb_I h x0 0 0 := ⟨_, rfl⟩
  rw [← eh2] at hR
  have hw := hw h2 eh2
  have hE : xb_ext h0 h2 := by rw [eh2]; exact hE
  refine lv_aload_n hx hb (xb_d D_M_result 3 rfl) rfl (lv_at hl 0 rfl) ?_
  have hk1 : xb_k h2 x0 = 9 := by rw [eh2]; exact hk1
  refine xb_getL (C := R_M) (T := F_M) (N := 97) hx hb 8 85 hts fin_M hown hR hk1 (by decide) rfl (by decide) rfl (hts _ m_4386cc76) (fun _ h9 => h9) (xb_d D_M_result 4 rfl) ?_
  exact xb_lret hx hb hr hlocks (show k ≤ MC by omega) (show n ≤ MS by omega) hE hR hS (xb_d D_M_result 5 rfl) hw

set_option maxRecDepth 100000 in
def T_M_stop : List (Nat × Instr × Nat) := [(0, .aload_n 0, 1), (1, .iconst 0, 1), (2, .putfield 189, 3), (5, .aload_n 0, 1), (6, .getfield 539, 3), (9, .ifCond .eq 10, 3), (12, .aload_n 0, 1), (13, .getfield 616, 3), (16, .goto 4, 3), (19, .iconst 0, 1), (20, .istore_n 1, 1), (21, .aload_n 0, 1), (22, .iconst 0, 1), (23, .putfield 539, 3), (26, .aload_n 0, 1), (27, .iconst 0, 1), (28, .putfield 616, 3), (31, .iload_n 1, 1), (32, .ireturn, 1)]
theorem D_M_stop : ∀ q ∈ T_M_stop, decode b_M_stop q.1 = .ok (q.2.1, q.2.2) := by decide +kernel
def w_M_stop_L20 (Qr : Int32 → xb_H → Prop) (x0 : Nat) (y0 : Int32) (h : xb_H) : Prop :=
    xb_k h x0 = 9 ∧ ∀ h2 : xb_H, h2 = xb_I h x0 62 0 → ∀ h3 : xb_H, h3 = xb_I h2 x0 68 0 → Qr y0 h3

def w_M_stop (x0 : Nat) (h : xb_H) (Qr : Int32 → xb_H → Prop) : Prop :=
    xb_k h x0 = 9 ∧ ∀ h2 : xb_H, h2 = xb_I h x0 0 0 → (((xb_i h2 x0 62) = (0 : Int32) → w_M_stop_L20 Qr x0 0 h2) ∧ (¬ (xb_i h2 x0 62) = (0 : Int32) → w_M_stop_L20 Qr x0 (xb_i h2 x0 68) h2))

set_option maxHeartbeats 4000000 in
set_option maxRecDepth 100000 in
theorem am_M_stop_L20 (l : Launch) (hfl : l.flags = pinnedFlags ++ [noTraceFlag]) (D : va_G) (A : Nat → Prop) (σ MC MS : Nat) (h0 : xb_H) (Qr : Int32 → xb_H → Prop) (x0 : Nat) (y0 : Int32) (h : xb_H) (hw : w_M_stop_L20 Qr x0 y0 h) : xb_am l D A σ 2 MC MS h0 (fun v h => ∃ r, v = some (.int r) ∧ Qr r h) (fun _ _ => False) y_M_stop.cls y_M_stop.name b_M_stop 2 ([] : List ExceptionTableEntry) (some .int) 20 [(0, .ref x0)] [.int y0] h 0 0 := by
  unfold w_M_stop_L20 at hw
  intro p e s m args below meth c hC H locs ls k n hE hl hR hS hk hn
  obtain ⟨hx, hb, hown, hlocks, htab, hml, hr, hB, hA, hnm⟩ := id hC
  have hts := hB.1.1.at args
  refine lv_istore_n hx hb (xb_d D_M_stop 10 rfl) rfl hl (by decide) rfl (fun ls hl => ?_)
  have hl : lv_has ls 2 [(1, .int y0), (0, .ref x0)] := hl
  refine lv_aload_n hx hb (xb_d D_M_stop 11 rfl) rfl (lv_at hl 1 rfl) ?_
  refine lv_iconst (v := 0) hx hb (xb_d D_M_stop 12 rfl) (by decide) ?_
  obtain ⟨hk1, hw⟩ := hw
  refine xb_putI (C := R_M) (T := F_M) (N := 97) (ty := .boolean) (x := 0) hx hb 8 62 hts fin_M t_M t_M_ok n_M hown hR hS hk1 (by decide) rfl (by decide) rfl (hts _ m_71a5ca12) (fun _ h9 => h9) rfl (by decide +kernel) (by decide) (by decide) (xb_d D_M_stop 13 rfl) (fun H locs hR hS => ?_)
  obtain ⟨h2, eh2⟩ : ∃ x : xb_H, x = xb_I h x0 62 0 := ⟨_, rfl⟩
  rw [← eh2] at hR
  have hw := hw h2 eh2
  have hE : xb_ext h0 h2 := by rw [eh2]; exact hE
  refine lv_aload_n hx hb (xb_d D_M_stop 14 rfl) rfl (lv_at hl 1 rfl) ?_
  refine lv_iconst (v := 0) hx hb (xb_d D_M_stop 15 rfl) (by decide) ?_
  have hk1 : xb_k h2 x0 = 9 := by rw [eh2]; exact hk1
  refine xb_putI (C := R_M) (T := F_M) (N := 97) (ty := .int) (x := 0) hx hb 8 68 hts fin_M t_M t_M_ok n_M hown hR hS hk1 (by decide) rfl (by decide) rfl (hts _ m_11712ae1) (fun _ h9 => h9) rfl (by decide +kernel) rfl rfl (xb_d D_M_stop 16 rfl) (fun H locs hR hS => ?_)
  obtain ⟨h3, eh3⟩ : ∃ x : xb_H, x = xb_I h2 x0 68 0 := ⟨_, rfl⟩
  rw [← eh3] at hR
  have hw := hw h3 eh3
  have hE : xb_ext h0 h3 := by rw [eh3]; exact hE
  refine lv_iload_n hx hb (xb_d D_M_stop 17 rfl) rfl (lv_at hl 0 rfl) ?_
  exact xb_iret hx hb hr hlocks (show k ≤ MC by omega) (show n ≤ MS by omega) hE hR hS (xb_d D_M_stop 18 rfl) hw

set_option maxHeartbeats 4000000 in
set_option maxRecDepth 100000 in
theorem ok_M_stop (l : Launch) (hfl : l.flags = pinnedFlags ++ [noTraceFlag]) (D : va_G) (A : Nat → Prop) (σ : Nat) (x0 : Nat) (h : xb_H) (Qr : Int32 → xb_H → Prop) (hw : w_M_stop x0 h Qr) : xt_Met l y_M_stop [.code y_M_stop b_M_stop 2 (some .int)] (xb_rm 2 0 0) (xb_Pc D A σ h [.ref x0]) (xb_Qc D A h (fun v h => ∃ r, v = some (.int r) ∧ Qr r h) (fun _ _ => False)) 0 0 A := by
  refine xb_ofAm (cc := b_M_stop) (by decide) (Nat.le_of_ble_eq_true rfl) ?_
  unfold w_M_stop at hw
  show xb_am l D A σ 2 0 0 h (fun v h => ∃ r, v = some (.int r) ∧ Qr r h) (fun _ _ => False) y_M_stop.cls y_M_stop.name b_M_stop 2 ([] : List ExceptionTableEntry) (some .int) 0 [(0, .ref x0)] [] h 0 0
  obtain ⟨MC, hMC⟩ : ∃ x, x = 0 := ⟨_, rfl⟩
  obtain ⟨MS, hMS⟩ : ∃ x, x = 0 := ⟨_, rfl⟩
  rw [show xb_am l D A σ 2 0 0 = xb_am l D A σ 2 MC MS by rw [hMC, hMS]]
  obtain ⟨h0, hh0⟩ : ∃ x, x = h := ⟨_, rfl⟩
  rw [show xb_am l D A σ 2 MC MS h = xb_am l D A σ 2 MC MS h0 by rw [hh0]]
  intro p e s m args below meth c hC H locs ls k n hE hl hR hS hk hn
  obtain ⟨hx, hb, hown, hlocks, htab, hml, hr, hB, hA, hnm⟩ := id hC
  have hts := hB.1.1.at args
  refine lv_aload_n hx hb (xb_d D_M_stop 0 rfl) rfl (lv_at hl 0 rfl) ?_
  refine lv_iconst (v := 0) hx hb (xb_d D_M_stop 1 rfl) (by decide) ?_
  obtain ⟨hk1, hw⟩ := hw
  refine xb_putI (C := R_M) (T := F_M) (N := 97) (ty := .int) (x := 0) hx hb 8 0 hts fin_M t_M t_M_ok n_M hown hR hS hk1 (by decide) rfl (by decide) rfl (hts _ m_afabd6a0) (fun _ h9 => h9) rfl (by decide +kernel) rfl rfl (xb_d D_M_stop 2 rfl) (fun H locs hR hS => ?_)
  obtain ⟨h2, eh2⟩ : ∃ x : xb_H, x = xb_I h x0 0 0 := ⟨_, rfl⟩
  rw [← eh2] at hR
  have hw := hw h2 eh2
  have hE : xb_ext h0 h2 := by rw [eh2]; exact hE
  refine lv_aload_n hx hb (xb_d D_M_stop 3 rfl) rfl (lv_at hl 0 rfl) ?_
  have hk1 : xb_k h2 x0 = 9 := by rw [eh2]; exact hk1
  refine xb_getI (C := R_M) (T := F_M) (N := 97) hx hb 8 62 hts fin_M hown hR hk1 (by decide) rfl (by decide) rfl (hts _ m_71a5ca12) (fun _ h9 => h9) (xb_d D_M_stop 4 rfl) ?_
  refine lv_if_eq (tgt := 19) hx hb (xb_d D_M_stop 5 rfl) rfl (fun hc3 => ?_) (fun hc3 => ?_)
  · have hw := hw.1 hc3
    refine lv_iconst (v := 0) hx hb (xb_d D_M_stop 9 rfl) (by decide) ?_
    exact am_M_stop_L20 l hfl D A σ MC MS h0 Qr x0 0 h2 hw p e s m args below meth c hC H locs ls k n hE (lv_sub hl [0] rfl) hR hS (by omega) (by omega)
  · have hw := hw.2 hc3
    refine lv_aload_n hx hb (xb_d D_M_stop 6 rfl) rfl (lv_at hl 0 rfl) ?_
    refine xb_getI (C := R_M) (T := F_M) (N := 97) hx hb 8 68 hts fin_M hown hR hk1 (by decide) rfl (by decide) rfl (hts _ m_11712ae1) (fun _ h9 => h9) (xb_d D_M_stop 7 rfl) ?_
    refine lv_goto (tgt := 20) hx hb (xb_d D_M_stop 8 rfl) rfl ?_
    exact am_M_stop_L20 l hfl D A σ MC MS h0 Qr x0 (xb_i h2 x0 68) h2 hw p e s m args below meth c hC H locs ls k n hE (lv_sub hl [0] rfl) hR hS (by omega) (by omega)

set_option maxRecDepth 100000 in
def T_M_thrown : List (Nat × Instr × Nat) := [(0, .aload_n 0, 1), (1, .getfield 189, 3), (4, .ireturn, 1)]
theorem D_M_thrown : ∀ q ∈ T_M_thrown, decode b_M_thrown q.1 = .ok (q.2.1, q.2.2) := by decide +kernel
def w_M_thrown (x0 : Nat) (h : xb_H) (Qr : Int32 → xb_H → Prop) : Prop :=
    xb_k h x0 = 9 ∧ Qr (xb_i h x0 0) h

set_option maxHeartbeats 4000000 in
set_option maxRecDepth 100000 in
theorem ok_M_thrown (l : Launch) (hfl : l.flags = pinnedFlags ++ [noTraceFlag]) (D : va_G) (A : Nat → Prop) (σ : Nat) (x0 : Nat) (h : xb_H) (Qr : Int32 → xb_H → Prop) (hw : w_M_thrown x0 h Qr) : xt_Met l y_M_thrown [.code y_M_thrown b_M_thrown 1 (some .int)] (xb_rm 2 0 0) (xb_Pc D A σ h [.ref x0]) (xb_Qc D A h (fun v h => ∃ r, v = some (.int r) ∧ Qr r h) (fun _ _ => False)) 0 0 A := by
  refine xb_ofAm (cc := b_M_thrown) (by decide) (Nat.le_of_ble_eq_true rfl) ?_
  unfold w_M_thrown at hw
  show xb_am l D A σ 2 0 0 h (fun v h => ∃ r, v = some (.int r) ∧ Qr r h) (fun _ _ => False) y_M_thrown.cls y_M_thrown.name b_M_thrown 1 ([] : List ExceptionTableEntry) (some .int) 0 [(0, .ref x0)] [] h 0 0
  obtain ⟨MC, hMC⟩ : ∃ x, x = 0 := ⟨_, rfl⟩
  obtain ⟨MS, hMS⟩ : ∃ x, x = 0 := ⟨_, rfl⟩
  rw [show xb_am l D A σ 2 0 0 = xb_am l D A σ 2 MC MS by rw [hMC, hMS]]
  obtain ⟨h0, hh0⟩ : ∃ x, x = h := ⟨_, rfl⟩
  rw [show xb_am l D A σ 2 MC MS h = xb_am l D A σ 2 MC MS h0 by rw [hh0]]
  intro p e s m args below meth c hC H locs ls k n hE hl hR hS hk hn
  obtain ⟨hx, hb, hown, hlocks, htab, hml, hr, hB, hA, hnm⟩ := id hC
  have hts := hB.1.1.at args
  refine lv_aload_n hx hb (xb_d D_M_thrown 0 rfl) rfl (lv_at hl 0 rfl) ?_
  obtain ⟨hk1, hw⟩ := hw
  refine xb_getI (C := R_M) (T := F_M) (N := 97) hx hb 8 0 hts fin_M hown hR hk1 (by decide) rfl (by decide) rfl (hts _ m_afabd6a0) (fun _ h9 => h9) (xb_d D_M_thrown 1 rfl) ?_
  exact xb_iret hx hb hr hlocks (show k ≤ MC by omega) (show n ≤ MS by omega) hE hR hS (xb_d D_M_thrown 2 rfl) hw

set_option maxRecDepth 100000 in
def T_M_trap : List (Nat × Instr × Nat) := [(0, .aload_n 0, 1), (1, .iload_n 1, 1), (2, .ifCond .lt 12, 3), (5, .iload_n 1, 1), (6, .iconst 4, 1), (7, .if_icmp .ge 7, 3), (10, .iconst 0, 1), (11, .goto 4, 3), (14, .iconst 1, 1), (15, .putfield 189, 3), (18, .aload_n 0, 1), (19, .getfield 189, 3), (22, .ifCond .le 7, 3), (25, .iconst 0, 1), (26, .goto 9, 3), (29, .aload_n 0, 1), (30, .getfield 173, 3), (33, .iload_n 1, 1), (34, .iaload, 1), (35, .ireturn, 1)]
theorem D_M_trap : ∀ q ∈ T_M_trap, decode b_M_trap q.1 = .ok (q.2.1, q.2.2) := by decide +kernel
def w_M_trap_L35 (Qr : Int32 → xb_H → Prop) (y0 : Int32) (h : xb_H) : Prop :=
    Qr y0 h

def w_M_trap_L15 (Qr : Int32 → xb_H → Prop) (x0 : Nat) (x1 : Int32) (y0 : Int32) (y1 : Nat) (h : xb_H) : Prop :=
    xb_k h y1 = 9 ∧ ∀ h2 : xb_H, h2 = xb_I h y1 0 y0 → xb_k h2 x0 = 9 ∧ (((xb_i h2 x0 0) ≤ (0 : Int32) → ∃ b5 : Nat, (xb_r h2 x0 86) = some b5 ∧ xb_k h2 b5 = 102 ∧ vp_in x1 (xb_n h2 b5) ∧ w_M_trap_L35 Qr (xb_i h2 b5 (Int32.toNatClampNeg x1)) h2) ∧ (¬ (xb_i h2 x0 0) ≤ (0 : Int32) → w_M_trap_L35 Qr 0 h2))

def w_M_trap_L14 (Qr : Int32 → xb_H → Prop) (x0 : Nat) (x1 : Int32) (y0 : Nat) (h : xb_H) : Prop :=
    w_M_trap_L15 Qr x0 x1 1 y0 h

def w_M_trap (x0 : Nat) (x1 : Int32) (h : xb_H) (Qr : Int32 → xb_H → Prop) : Prop :=
    ((x1 < (0 : Int32) → w_M_trap_L14 Qr x0 x1 x0 h) ∧ (¬ x1 < (0 : Int32) → (((4 : Int32) ≤ x1 → w_M_trap_L14 Qr x0 x1 x0 h) ∧ (¬ (4 : Int32) ≤ x1 → w_M_trap_L15 Qr x0 x1 0 x0 h))))

set_option maxHeartbeats 4000000 in
set_option maxRecDepth 100000 in
theorem am_M_trap_L35 (l : Launch) (hfl : l.flags = pinnedFlags ++ [noTraceFlag]) (D : va_G) (A : Nat → Prop) (σ MC MS : Nat) (h0 : xb_H) (Qr : Int32 → xb_H → Prop) (y0 : Int32) (h : xb_H) (hw : w_M_trap_L35 Qr y0 h) : xb_am l D A σ 2 MC MS h0 (fun v h => ∃ r, v = some (.int r) ∧ Qr r h) (fun _ _ => False) y_M_trap.cls y_M_trap.name b_M_trap 2 ([] : List ExceptionTableEntry) (some .int) 35 [] [.int y0] h 0 0 := by
  unfold w_M_trap_L35 at hw
  intro p e s m args below meth c hC H locs ls k n hE hl hR hS hk hn
  obtain ⟨hx, hb, hown, hlocks, htab, hml, hr, hB, hA, hnm⟩ := id hC
  have hts := hB.1.1.at args
  exact xb_iret hx hb hr hlocks (show k ≤ MC by omega) (show n ≤ MS by omega) hE hR hS (xb_d D_M_trap 19 rfl) hw

set_option maxHeartbeats 4000000 in
set_option maxRecDepth 100000 in
theorem am_M_trap_L15 (l : Launch) (hfl : l.flags = pinnedFlags ++ [noTraceFlag]) (D : va_G) (A : Nat → Prop) (σ MC MS : Nat) (h0 : xb_H) (Qr : Int32 → xb_H → Prop) (x0 : Nat) (x1 : Int32) (y0 : Int32) (y1 : Nat) (h : xb_H) (hw : w_M_trap_L15 Qr x0 x1 y0 y1 h) : xb_am l D A σ 2 MC MS h0 (fun v h => ∃ r, v = some (.int r) ∧ Qr r h) (fun _ _ => False) y_M_trap.cls y_M_trap.name b_M_trap 2 ([] : List ExceptionTableEntry) (some .int) 15 [(0, .ref x0), (1, .int x1)] [.int y0, .ref y1] h 0 0 := by
  unfold w_M_trap_L15 at hw
  intro p e s m args below meth c hC H locs ls k n hE hl hR hS hk hn
  obtain ⟨hx, hb, hown, hlocks, htab, hml, hr, hB, hA, hnm⟩ := id hC
  have hts := hB.1.1.at args
  obtain ⟨hk1, hw⟩ := hw
  refine xb_putI (C := R_M) (T := F_M) (N := 97) (ty := .int) (x := y0) hx hb 8 0 hts fin_M t_M t_M_ok n_M hown hR hS hk1 (by decide) rfl (by decide) rfl (hts _ m_afabd6a0) (fun _ h9 => h9) rfl (by decide +kernel) rfl rfl (xb_d D_M_trap 9 rfl) (fun H locs hR hS => ?_)
  obtain ⟨h2, eh2⟩ : ∃ x : xb_H, x = xb_I h y1 0 y0 := ⟨_, rfl⟩
  rw [← eh2] at hR
  have hw := hw h2 eh2
  have hE : xb_ext h0 h2 := by rw [eh2]; exact hE
  refine lv_aload_n hx hb (xb_d D_M_trap 10 rfl) rfl (lv_at hl 0 rfl) ?_
  obtain ⟨hk3, hw⟩ := hw
  refine xb_getI (C := R_M) (T := F_M) (N := 97) hx hb 8 0 hts fin_M hown hR hk3 (by decide) rfl (by decide) rfl (hts _ m_afabd6a0) (fun _ h9 => h9) (xb_d D_M_trap 11 rfl) ?_
  refine lv_if_le (tgt := 29) hx hb (xb_d D_M_trap 12 rfl) rfl (fun hc4 => ?_) (fun hc4 => ?_)
  · have hw := hw.1 hc4
    refine lv_aload_n hx hb (xb_d D_M_trap 15 rfl) rfl (lv_at hl 0 rfl) ?_
    refine xb_getP (C := R_M) (T := F_M) (N := 97) hx hb 8 86 hts fin_M hown hR hk3 (by decide) rfl (by decide) rfl (hts _ m_6e1e432a) (fun _ h9 => h9) (xb_d D_M_trap 16 rfl) ?_
    obtain ⟨b5, eb5, hw⟩ := hw
    refine xb_some eb5 ?_
    refine lv_iload_n hx hb (xb_d D_M_trap 17 rfl) rfl (lv_at hl 1 rfl) ?_
    obtain ⟨hk7, hw⟩ := hw
    obtain ⟨hi6, hw⟩ := hw
    refine xb_iald hx hb hR hk7 hi6 (xb_d D_M_trap 18 rfl) ?_
    exact am_M_trap_L35 l hfl D A σ MC MS h0 Qr (xb_i h2 b5 (Int32.toNatClampNeg x1)) h2 hw p e s m args below meth c hC H locs ls k n hE (lv_sub hl [] rfl) hR hS (by omega) (by omega)
  · have hw := hw.2 hc4
    refine lv_iconst (v := 0) hx hb (xb_d D_M_trap 13 rfl) (by decide) ?_
    refine lv_goto (tgt := 35) hx hb (xb_d D_M_trap 14 rfl) rfl ?_
    exact am_M_trap_L35 l hfl D A σ MC MS h0 Qr 0 h2 hw p e s m args below meth c hC H locs ls k n hE (lv_sub hl [] rfl) hR hS (by omega) (by omega)

set_option maxHeartbeats 4000000 in
set_option maxRecDepth 100000 in
theorem am_M_trap_L14 (l : Launch) (hfl : l.flags = pinnedFlags ++ [noTraceFlag]) (D : va_G) (A : Nat → Prop) (σ MC MS : Nat) (h0 : xb_H) (Qr : Int32 → xb_H → Prop) (x0 : Nat) (x1 : Int32) (y0 : Nat) (h : xb_H) (hw : w_M_trap_L14 Qr x0 x1 y0 h) : xb_am l D A σ 2 MC MS h0 (fun v h => ∃ r, v = some (.int r) ∧ Qr r h) (fun _ _ => False) y_M_trap.cls y_M_trap.name b_M_trap 2 ([] : List ExceptionTableEntry) (some .int) 14 [(0, .ref x0), (1, .int x1)] [.ref y0] h 0 0 := by
  unfold w_M_trap_L14 at hw
  intro p e s m args below meth c hC H locs ls k n hE hl hR hS hk hn
  obtain ⟨hx, hb, hown, hlocks, htab, hml, hr, hB, hA, hnm⟩ := id hC
  have hts := hB.1.1.at args
  refine lv_iconst (v := 1) hx hb (xb_d D_M_trap 8 rfl) (by decide) ?_
  exact am_M_trap_L15 l hfl D A σ MC MS h0 Qr x0 x1 1 y0 h hw p e s m args below meth c hC H locs ls k n hE (lv_sub hl [0, 1] rfl) hR hS (by omega) (by omega)

set_option maxHeartbeats 4000000 in
set_option maxRecDepth 100000 in
theorem ok_M_trap (l : Launch) (hfl : l.flags = pinnedFlags ++ [noTraceFlag]) (D : va_G) (A : Nat → Prop) (σ : Nat) (x0 : Nat) (x1 : Int32) (h : xb_H) (Qr : Int32 → xb_H → Prop) (hw : w_M_trap x0 x1 h Qr) : xt_Met l y_M_trap [.code y_M_trap b_M_trap 2 (some .int)] (xb_rm 2 0 0) (xb_Pc D A σ h [.ref x0, .int x1]) (xb_Qc D A h (fun v h => ∃ r, v = some (.int r) ∧ Qr r h) (fun _ _ => False)) 0 0 A := by
  refine xb_ofAm (cc := b_M_trap) (by decide) (Nat.le_of_ble_eq_true rfl) ?_
  unfold w_M_trap at hw
  show xb_am l D A σ 2 0 0 h (fun v h => ∃ r, v = some (.int r) ∧ Qr r h) (fun _ _ => False) y_M_trap.cls y_M_trap.name b_M_trap 2 ([] : List ExceptionTableEntry) (some .int) 0 [(0, .ref x0), (1, .int x1)] [] h 0 0
  obtain ⟨MC, hMC⟩ : ∃ x, x = 0 := ⟨_, rfl⟩
  obtain ⟨MS, hMS⟩ : ∃ x, x = 0 := ⟨_, rfl⟩
  rw [show xb_am l D A σ 2 0 0 = xb_am l D A σ 2 MC MS by rw [hMC, hMS]]
  obtain ⟨h0, hh0⟩ : ∃ x, x = h := ⟨_, rfl⟩
  rw [show xb_am l D A σ 2 MC MS h = xb_am l D A σ 2 MC MS h0 by rw [hh0]]
  intro p e s m args below meth c hC H locs ls k n hE hl hR hS hk hn
  obtain ⟨hx, hb, hown, hlocks, htab, hml, hr, hB, hA, hnm⟩ := id hC
  have hts := hB.1.1.at args
  refine lv_aload_n hx hb (xb_d D_M_trap 0 rfl) rfl (lv_at hl 0 rfl) ?_
  refine lv_iload_n hx hb (xb_d D_M_trap 1 rfl) rfl (lv_at hl 1 rfl) ?_
  refine lv_if_lt (tgt := 14) hx hb (xb_d D_M_trap 2 rfl) rfl (fun hc1 => ?_) (fun hc1 => ?_)
  · have hw := hw.1 hc1
    exact am_M_trap_L14 l hfl D A σ MC MS h0 Qr x0 x1 x0 h hw p e s m args below meth c hC H locs ls k n hE (lv_sub hl [0, 1] rfl) hR hS (by omega) (by omega)
  · have hw := hw.2 hc1
    refine lv_iload_n hx hb (xb_d D_M_trap 3 rfl) rfl (lv_at hl 1 rfl) ?_
    refine lv_iconst (v := 4) hx hb (xb_d D_M_trap 4 rfl) (by decide) ?_
    refine lv_icmp_ge (tgt := 14) hx hb (xb_d D_M_trap 5 rfl) rfl (fun hc2 => ?_) (fun hc2 => ?_)
    · have hw := hw.1 hc2
      exact am_M_trap_L14 l hfl D A σ MC MS h0 Qr x0 x1 x0 h hw p e s m args below meth c hC H locs ls k n hE (lv_sub hl [0, 1] rfl) hR hS (by omega) (by omega)
    · have hw := hw.2 hc2
      refine lv_iconst (v := 0) hx hb (xb_d D_M_trap 6 rfl) (by decide) ?_
      refine lv_goto (tgt := 15) hx hb (xb_d D_M_trap 7 rfl) rfl ?_
      exact am_M_trap_L15 l hfl D A σ MC MS h0 Qr x0 x1 0 x0 h hw p e s m args below meth c hC H locs ls k n hE (lv_sub hl [0, 1] rfl) hR hS (by omega) (by omega)

theorem m_c9799996 : (.fieldLink "StackHostModel" 663 "StackHostModel" "wrong" "I" : Cond) ∈ xt_tbl := xt_in (xt_t9 (List.mem_of_getElem? (i := 222) (by decide +kernel))) (by decide +kernel)
set_option maxRecDepth 100000 in
def T_M_wrong : List (Nat × Instr × Nat) := [(0, .aload_n 0, 1), (1, .iconst 0, 1), (2, .putfield 189, 3), (5, .aload_n 0, 1), (6, .getfield 663, 3), (9, .ireturn, 1)]
theorem D_M_wrong : ∀ q ∈ T_M_wrong, decode b_M_wrong q.1 = .ok (q.2.1, q.2.2) := by decide +kernel
def w_M_wrong (x0 : Nat) (h : xb_H) (Qr : Int32 → xb_H → Prop) : Prop :=
    xb_k h x0 = 9 ∧ ∀ h2 : xb_H, h2 = xb_I h x0 0 0 → Qr (xb_i h2 x0 84) h2

set_option maxHeartbeats 4000000 in
set_option maxRecDepth 100000 in
theorem ok_M_wrong (l : Launch) (hfl : l.flags = pinnedFlags ++ [noTraceFlag]) (D : va_G) (A : Nat → Prop) (σ : Nat) (x0 : Nat) (h : xb_H) (Qr : Int32 → xb_H → Prop) (hw : w_M_wrong x0 h Qr) : xt_Met l y_M_wrong [.code y_M_wrong b_M_wrong 1 (some .int)] (xb_rm 2 0 0) (xb_Pc D A σ h [.ref x0]) (xb_Qc D A h (fun v h => ∃ r, v = some (.int r) ∧ Qr r h) (fun _ _ => False)) 0 0 A := by
  refine xb_ofAm (cc := b_M_wrong) (by decide) (Nat.le_of_ble_eq_true rfl) ?_
  unfold w_M_wrong at hw
  show xb_am l D A σ 2 0 0 h (fun v h => ∃ r, v = some (.int r) ∧ Qr r h) (fun _ _ => False) y_M_wrong.cls y_M_wrong.name b_M_wrong 1 ([] : List ExceptionTableEntry) (some .int) 0 [(0, .ref x0)] [] h 0 0
  obtain ⟨MC, hMC⟩ : ∃ x, x = 0 := ⟨_, rfl⟩
  obtain ⟨MS, hMS⟩ : ∃ x, x = 0 := ⟨_, rfl⟩
  rw [show xb_am l D A σ 2 0 0 = xb_am l D A σ 2 MC MS by rw [hMC, hMS]]
  obtain ⟨h0, hh0⟩ : ∃ x, x = h := ⟨_, rfl⟩
  rw [show xb_am l D A σ 2 MC MS h = xb_am l D A σ 2 MC MS h0 by rw [hh0]]
  intro p e s m args below meth c hC H locs ls k n hE hl hR hS hk hn
  obtain ⟨hx, hb, hown, hlocks, htab, hml, hr, hB, hA, hnm⟩ := id hC
  have hts := hB.1.1.at args
  refine lv_aload_n hx hb (xb_d D_M_wrong 0 rfl) rfl (lv_at hl 0 rfl) ?_
  refine lv_iconst (v := 0) hx hb (xb_d D_M_wrong 1 rfl) (by decide) ?_
  obtain ⟨hk1, hw⟩ := hw
  refine xb_putI (C := R_M) (T := F_M) (N := 97) (ty := .int) (x := 0) hx hb 8 0 hts fin_M t_M t_M_ok n_M hown hR hS hk1 (by decide) rfl (by decide) rfl (hts _ m_afabd6a0) (fun _ h9 => h9) rfl (by decide +kernel) rfl rfl (xb_d D_M_wrong 2 rfl) (fun H locs hR hS => ?_)
  obtain ⟨h2, eh2⟩ : ∃ x : xb_H, x = xb_I h x0 0 0 := ⟨_, rfl⟩
  rw [← eh2] at hR
  have hw := hw h2 eh2
  have hE : xb_ext h0 h2 := by rw [eh2]; exact hE
  refine lv_aload_n hx hb (xb_d D_M_wrong 3 rfl) rfl (lv_at hl 0 rfl) ?_
  have hk1 : xb_k h2 x0 = 9 := by rw [eh2]; exact hk1
  refine xb_getI (C := R_M) (T := F_M) (N := 97) hx hb 8 84 hts fin_M hown hR hk1 (by decide) rfl (by decide) rfl (hts _ m_c9799996) (fun _ h9 => h9) (xb_d D_M_wrong 4 rfl) ?_
  exact xb_iret hx hb hr hlocks (show k ≤ MC by omega) (show n ≤ MS by omega) hE hR hS (xb_d D_M_wrong 5 rfl) hw

theorem m_65129d5b : (.methodLink "StackHostModel$Exact" 3 objectInit : Cond) ∈ xt_tbl := xt_in (xt_t9 (List.mem_of_getElem? (i := 103) (by decide +kernel))) (by decide +kernel)
theorem m_3ef37fb8 : (.fieldLink "StackHostModel$Exact" 9 "StackHostModel$Exact" "row" "[B" : Cond) ∈ xt_tbl := xt_in (xt_t9 (List.mem_of_getElem? (i := 106) (by decide +kernel))) (by decide +kernel)
theorem m_2f5dbefd : (.fieldLink "StackHostModel$Exact" 15 "StackHostModel$Exact" "low" "I" : Cond) ∈ xt_tbl := xt_in (xt_t9 (List.mem_of_getElem? (i := 107) (by decide +kernel))) (by decide +kernel)
theorem m_ee80a7fc : (.fieldLink "StackHostModel$Exact" 19 "StackHostModel$Exact" "high" "I" : Cond) ∈ xt_tbl := xt_in (xt_t9 (List.mem_of_getElem? (i := 108) (by decide +kernel))) (by decide +kernel)
set_option maxRecDepth 100000 in
def T_Exact_init : List (Nat × Instr × Nat) := [(0, .aload_n 0, 1), (1, .invokespecial 3, 3), (4, .aload_n 0, 1), (5, .sipush 4400, 3), (8, .newarray .byte, 2), (10, .putfield 9, 3), (13, .aload_n 0, 1), (14, .iconst 1, 1), (15, .putfield 15, 3), (18, .aload_n 0, 1), (19, .iconst 0, 1), (20, .putfield 19, 3), (23, .return_, 1)]
theorem D_Exact_init : ∀ q ∈ T_Exact_init, decode b_Exact_init q.1 = .ok (q.2.1, q.2.2) := by decide +kernel
def w_Exact_init (x0 : Nat) (h : xb_H) (bc : Nat) (bs : Nat) (Qr : xb_H → Prop) : Prop :=
    1 ≤ bc ∧ 4400 ≤ bs ∧ ∀ q1 : Nat, xb_k h q1 = 0 → ∀ h2 : xb_H, h2 = xb_new h q1 100 4400 → xb_k h2 x0 = 10 ∧ ∀ h5 : xb_H, h5 = xb_P h2 x0 1 (some q1) → ∀ h6 : xb_H, h6 = xb_I h5 x0 2 1 → ∀ h7 : xb_H, h7 = xb_I h6 x0 3 0 → Qr h7

set_option maxHeartbeats 4000000 in
set_option maxRecDepth 100000 in
theorem ok_Exact_init (l : Launch) (hfl : l.flags = pinnedFlags ++ [noTraceFlag]) (D : va_G) (A : Nat → Prop) (σ : Nat) (x0 : Nat) (h : xb_H) (bc : Nat) (bs : Nat) (Qr : xb_H → Prop) (hw : w_Exact_init x0 h bc bs Qr) : xt_Met l y_Exact_init [.code y_Exact_init b_Exact_init 1 none] (xb_rm 2 bc bs) (xb_Pc D A σ h [.ref x0]) (xb_Qc D A h (fun v h => v = none ∧ Qr h) (fun _ _ => False)) bc bs A := by
  refine xb_ofAm (cc := b_Exact_init) (by decide) (Nat.le_of_ble_eq_true rfl) ?_
  unfold w_Exact_init at hw
  show xb_am l D A σ 2 bc bs h (fun v h => v = none ∧ Qr h) (fun _ _ => False) y_Exact_init.cls y_Exact_init.name b_Exact_init 1 ([] : List ExceptionTableEntry) none 0 [(0, .ref x0)] [] h bc bs
  obtain ⟨MC, hMC⟩ : ∃ x, x = bc := ⟨_, rfl⟩
  obtain ⟨MS, hMS⟩ : ∃ x, x = bs := ⟨_, rfl⟩
  rw [show xb_am l D A σ 2 bc bs = xb_am l D A σ 2 MC MS by rw [hMC, hMS]]
  obtain ⟨h0, hh0⟩ : ∃ x, x = h := ⟨_, rfl⟩
  rw [show xb_am l D A σ 2 MC MS h = xb_am l D A σ 2 MC MS h0 by rw [hh0]]
  intro p e s m args below meth c hC H locs ls k n hE hl hR hS hk hn
  obtain ⟨hx, hb, hown, hlocks, htab, hml, hr, hB, hA, hnm⟩ := id hC
  have hts := hB.1.1.at args
  refine lv_aload_n hx hb (xb_d D_Exact_init 0 rfl) rfl (lv_at hl 0 rfl) ?_
  refine W.objInit hx hb hown (hts _ m_65129d5b) (hts _ m_fba9d542) (hts _ m_9febdb7e) rfl (hml.trans hl.1.symm).symm rfl (xb_d D_Exact_init 1 rfl) (by show 1 ≤ 8 + _; omega) (Nat.le_trans (Nat.le_of_ble_eq_true rfl : _ ≤ 40) (by show 40 ≤ 120 + _; omega)) ?_
  refine W.eq (g2 := F0 m 4 ls []) rfl ?_
  refine lv_aload_n hx hb (xb_d D_Exact_init 2 rfl) rfl (lv_at hl 0 rfl) ?_
  refine lv_sipush (v := 4400) hx hb (xb_d D_Exact_init 3 rfl) (by decide) ?_
  obtain ⟨hcq1, hsq1, hw⟩ := hw
  have enq1 : (4400 : Int32).toNatClampNeg = 4400 := by decide
  refine xb_newa_b hx hb (hts _ m_2503b19f) hR hS hA (by decide) (by decide +kernel) (show k + 1 ≤ MC by omega) (show n + _ ≤ MS by rw [enq1]; omega) (xb_d D_Exact_init 4 rfl) (fun q1 H hqq1 hR hS => ?_)
  rw [enq1] at hR ⊢
  have hw := hw q1 hqq1
  obtain ⟨h2, eh2⟩ : ∃ x : xb_H, x = xb_new h q1 100 4400 := ⟨_, rfl⟩
  rw [← eh2] at hR
  have hw := hw h2 eh2
  have hE : xb_ext h0 h2 := by rw [eh2]; exact hE.new _ _ hqq1
  have hk3 : xb_k h2 q1 = 100 := by rw [eh2]; exact xb_new_k _ _ _ _
  obtain ⟨hk4, hw⟩ := hw
  refine xb_putPF (C := R_Exact) (T := F_Exact) (N := 11) (ty := .array .byte) (x := (some q1)) hx hb 9 1 hts fin_Exact t_Exact t_Exact_ok n_Exact hown hR hS hk4 (by decide) rfl (by decide) rfl (hts _ m_3ef37fb8) (fun _ h9 => h9) rfl hnm rfl (by decide +kernel) (xb_pnA _ _).1 (xb_pnA _ _).2 (xb_d D_Exact_init 5 rfl) (fun H locs hR hS => ?_)
  obtain ⟨h5, eh5⟩ : ∃ x : xb_H, x = xb_P h2 x0 1 (some q1) := ⟨_, rfl⟩
  rw [← eh5] at hR
  have hw := hw h5 eh5
  have hE : xb_ext h0 h5 := by rw [eh5]; exact hE
  refine lv_aload_n hx hb (xb_d D_Exact_init 6 rfl) rfl (lv_at hl 0 rfl) ?_
  refine lv_iconst (v := 1) hx hb (xb_d D_Exact_init 7 rfl) (by decide) ?_
  have hk4 : xb_k h5 x0 = 10 := by rw [eh5]; exact hk4
  refine xb_putI (C := R_Exact) (T := F_Exact) (N := 11) (ty := .int) (x := 1) hx hb 9 2 hts fin_Exact t_Exact t_Exact_ok n_Exact hown hR hS hk4 (by decide) rfl (by decide) rfl (hts _ m_2f5dbefd) (fun _ h9 => h9) rfl (by decide +kernel) rfl rfl (xb_d D_Exact_init 8 rfl) (fun H locs hR hS => ?_)
  obtain ⟨h6, eh6⟩ : ∃ x : xb_H, x = xb_I h5 x0 2 1 := ⟨_, rfl⟩
  rw [← eh6] at hR
  have hw := hw h6 eh6
  have hE : xb_ext h0 h6 := by rw [eh6]; exact hE
  refine lv_aload_n hx hb (xb_d D_Exact_init 9 rfl) rfl (lv_at hl 0 rfl) ?_
  refine lv_iconst (v := 0) hx hb (xb_d D_Exact_init 10 rfl) (by decide) ?_
  have hk4 : xb_k h6 x0 = 10 := by rw [eh6]; exact hk4
  refine xb_putI (C := R_Exact) (T := F_Exact) (N := 11) (ty := .int) (x := 0) hx hb 9 3 hts fin_Exact t_Exact t_Exact_ok n_Exact hown hR hS hk4 (by decide) rfl (by decide) rfl (hts _ m_ee80a7fc) (fun _ h9 => h9) rfl (by decide +kernel) rfl rfl (xb_d D_Exact_init 11 rfl) (fun H locs hR hS => ?_)
  obtain ⟨h7, eh7⟩ : ∃ x : xb_H, x = xb_I h6 x0 3 0 := ⟨_, rfl⟩
  rw [← eh7] at hR
  have hw := hw h7 eh7
  have hE : xb_ext h0 h7 := by rw [eh7]; exact hE
  exact xb_vret hx hb hr hlocks (show (k + 1) ≤ MC by omega) (show (n + 4400) ≤ MS by omega) hE hR hS (xb_d D_Exact_init 12 rfl) hw

theorem m_747a0ad2 : (.constantLong "StackHostModel$Exact" 151 (-9223372036854775808) : Cond) ∈ xt_tbl := xt_in (xt_t13 (List.mem_of_getElem? (i := 7) (by decide +kernel))) (by decide +kernel)
set_option maxRecDepth 100000 in
def T_Exact_below : List (Nat × Instr × Nat) := [(0, .lload_n 0, 1), (1, .ldc2_w 151, 3), (4, .lxor, 1), (5, .lload_n 2, 1), (6, .ldc2_w 151, 3), (9, .lxor, 1), (10, .lcmp, 1), (11, .ifCond .ge 7, 3), (14, .iconst 1, 1), (15, .goto 4, 3), (18, .iconst 0, 1), (19, .ireturn, 1)]
theorem D_Exact_below : ∀ q ∈ T_Exact_below, decode b_Exact_below q.1 = .ok (q.2.1, q.2.2) := by decide +kernel
def w_Exact_below_L19 (Qr : Int32 → xb_H → Prop) (y0 : Int32) (h : xb_H) : Prop :=
    (y0 = 0 ∨ y0 = 1) ∧ Qr y0 h

def w_Exact_below (x0 : Int64) (x2 : Int64) (h : xb_H) (Qr : Int32 → xb_H → Prop) : Prop :=
    (((x2 ^^^ (-9223372036854775808)) ≤ (x0 ^^^ (-9223372036854775808)) → w_Exact_below_L19 Qr 0 h) ∧ (¬ (x2 ^^^ (-9223372036854775808)) ≤ (x0 ^^^ (-9223372036854775808)) → w_Exact_below_L19 Qr 1 h))

set_option maxHeartbeats 4000000 in
set_option maxRecDepth 100000 in
theorem am_Exact_below_L19 (l : Launch) (hfl : l.flags = pinnedFlags ++ [noTraceFlag]) (D : va_G) (A : Nat → Prop) (σ MC MS : Nat) (h0 : xb_H) (Qr : Int32 → xb_H → Prop) (y0 : Int32) (h : xb_H) (hw : w_Exact_below_L19 Qr y0 h) : xb_am l D A σ 2 MC MS h0 (fun v h => ∃ r, v = some (.int r) ∧ Qr r h) (fun _ _ => False) y_Exact_below.cls y_Exact_below.name b_Exact_below 4 ([] : List ExceptionTableEntry) (some .boolean) 19 [] [.int y0] h 0 0 := by
  unfold w_Exact_below_L19 at hw
  intro p e s m args below meth c hC H locs ls k n hE hl hR hS hk hn
  obtain ⟨hx, hb, hown, hlocks, htab, hml, hr, hB, hA, hnm⟩ := id hC
  have hts := hB.1.1.at args
  exact xb_zret hx hb hr hlocks (show k ≤ MC by omega) (show n ≤ MS by omega) hw.1 hE hR hS (xb_d D_Exact_below 11 rfl) hw.2

set_option maxHeartbeats 4000000 in
set_option maxRecDepth 100000 in
theorem ok_Exact_below (l : Launch) (hfl : l.flags = pinnedFlags ++ [noTraceFlag]) (D : va_G) (A : Nat → Prop) (σ : Nat) (x0 : Int64) (x2 : Int64) (h : xb_H) (Qr : Int32 → xb_H → Prop) (hw : w_Exact_below x0 x2 h Qr) : xt_Met l y_Exact_below [.code y_Exact_below b_Exact_below 4 (some .boolean)] (xb_rm 2 0 0) (xb_Pc D A σ h [.long x0, .long x2]) (xb_Qc D A h (fun v h => ∃ r, v = some (.int r) ∧ Qr r h) (fun _ _ => False)) 0 0 A := by
  refine xb_ofAm (cc := b_Exact_below) (by decide) (Nat.le_of_ble_eq_true rfl) ?_
  unfold w_Exact_below at hw
  show xb_am l D A σ 2 0 0 h (fun v h => ∃ r, v = some (.int r) ∧ Qr r h) (fun _ _ => False) y_Exact_below.cls y_Exact_below.name b_Exact_below 4 ([] : List ExceptionTableEntry) (some .boolean) 0 [(0, .long x0), (2, .long x2)] [] h 0 0
  obtain ⟨MC, hMC⟩ : ∃ x, x = 0 := ⟨_, rfl⟩
  obtain ⟨MS, hMS⟩ : ∃ x, x = 0 := ⟨_, rfl⟩
  rw [show xb_am l D A σ 2 0 0 = xb_am l D A σ 2 MC MS by rw [hMC, hMS]]
  obtain ⟨h0, hh0⟩ : ∃ x, x = h := ⟨_, rfl⟩
  rw [show xb_am l D A σ 2 MC MS h = xb_am l D A σ 2 MC MS h0 by rw [hh0]]
  intro p e s m args below meth c hC H locs ls k n hE hl hR hS hk hn
  obtain ⟨hx, hb, hown, hlocks, htab, hml, hr, hB, hA, hnm⟩ := id hC
  have hts := hB.1.1.at args
  refine lv_lload_n hx hb (xb_d D_Exact_below 0 rfl) rfl (lv_at hl 0 rfl) ?_
  refine lv_ldc2 (v := (-9223372036854775808)) hx hb hown (hts _ m_747a0ad2) (xb_d D_Exact_below 1 rfl) ?_
  refine lv_lxor hx hb (xb_d D_Exact_below 2 rfl) ?_
  refine lv_lload_n hx hb (xb_d D_Exact_below 3 rfl) rfl (lv_at hl 1 rfl) ?_
  refine lv_ldc2 (v := (-9223372036854775808)) hx hb hown (hts _ m_747a0ad2) (xb_d D_Exact_below 4 rfl) ?_
  refine lv_lxor hx hb (xb_d D_Exact_below 5 rfl) ?_
  refine xb_lc_ge (tgt := 18) hx hb (xb_d D_Exact_below 6 rfl) (xb_d D_Exact_below 7 rfl) rfl (fun hc1 => ?_) (fun hc1 => ?_)
  · have hw := hw.1 hc1
    refine lv_iconst (v := 0) hx hb (xb_d D_Exact_below 10 rfl) (by decide) ?_
    exact am_Exact_below_L19 l hfl D A σ MC MS h0 Qr 0 h hw p e s m args below meth c hC H locs ls k n hE (lv_sub hl [] rfl) hR hS (by omega) (by omega)
  · have hw := hw.2 hc1
    refine lv_iconst (v := 1) hx hb (xb_d D_Exact_below 8 rfl) (by decide) ?_
    refine lv_goto (tgt := 19) hx hb (xb_d D_Exact_below 9 rfl) rfl ?_
    exact am_Exact_below_L19 l hfl D A σ MC MS h0 Qr 1 h hw p e s m args below meth c hC H locs ls k n hE (lv_sub hl [] rfl) hR hS (by omega) (by omega)

theorem m_5c37ff4e : (.fieldLink "StackHostModel$Exact" 33 "StackHostModel$Exact" "rest" "Z" : Cond) ∈ xt_tbl := xt_in (xt_t9 (List.mem_of_getElem? (i := 109) (by decide +kernel))) (by decide +kernel)
set_option maxRecDepth 100000 in
def T_Exact_clear : List (Nat × Instr × Nat) := [(0, .aload_n 0, 1), (1, .getfield 15, 3), (4, .istore_n 1, 1), (5, .iload_n 1, 1), (6, .aload_n 0, 1), (7, .getfield 19, 3), (10, .if_icmp .gt 16, 3), (13, .aload_n 0, 1), (14, .getfield 9, 3), (17, .iload_n 1, 1), (18, .iconst 0, 1), (19, .bastore, 1), (20, .iinc 1 1, 3), (23, .goto (-18), 3), (26, .aload_n 0, 1), (27, .aload_n 0, 1), (28, .getfield 9, 3), (31, .arraylength, 1), (32, .putfield 15, 3), (35, .aload_n 0, 1), (36, .iconst 0, 1), (37, .putfield 19, 3), (40, .aload_n 0, 1), (41, .iconst 0, 1), (42, .putfield 33, 3), (45, .return_, 1)]
theorem D_Exact_clear : ∀ q ∈ T_Exact_clear, decode b_Exact_clear q.1 = .ok (q.2.1, q.2.2) := by decide +kernel
def w_Exact_clear_L5 (Qr : xb_H → Prop) : Nat → Nat → Int32 → xb_H → Prop
  | 0, _, _, _ => False
  | n9 + 1, x0, x1, h =>
    xb_k h x0 = 10 ∧ (((xb_i h x0 3) < x1 → ∃ b3 : Nat, (xb_r h x0 1) = some b3 ∧ xb_k h b3 = 100 ∧ ∀ h5 : xb_H, h5 = xb_I h x0 2 (nI (xb_n h b3)) → ∀ h6 : xb_H, h6 = xb_I h5 x0 3 0 → ∀ h7 : xb_H, h7 = xb_I h6 x0 4 0 → Qr h7) ∧ (¬ (xb_i h x0 3) < x1 → ∃ b8 : Nat, (xb_r h x0 1) = some b8 ∧ xb_k h b8 = 100 ∧ vp_in x1 (xb_n h b8) ∧ ∀ h11 : xb_H, h11 = xb_I h b8 (Int32.toNatClampNeg x1) (vp_nar .byte 0) → w_Exact_clear_L5 Qr n9 x0 (x1 + 1) h11))

def w_Exact_clear (x0 : Nat) (h : xb_H) (Qr : xb_H → Prop) : Prop :=
    xb_k h x0 = 10 ∧ ∀ v2 : Int32, v2 = (xb_i h x0 2) → (∃ n8 : Nat, w_Exact_clear_L5 Qr n8 x0 v2 h)

set_option maxHeartbeats 4000000 in
set_option maxRecDepth 100000 in
theorem am_Exact_clear_L5 (l : Launch) (hfl : l.flags = pinnedFlags ++ [noTraceFlag]) (D : va_G) (A : Nat → Prop) (σ MC MS : Nat) (h0 : xb_H) (Qr : xb_H → Prop) (n9 : Nat) : ∀ (x0 : Nat) (x1 : Int32) (h : xb_H), w_Exact_clear_L5 Qr n9 x0 x1 h → xb_am l D A σ 2 MC MS h0 (fun v h => v = none ∧ Qr h) (fun _ _ => False) y_Exact_clear.cls y_Exact_clear.name b_Exact_clear 2 ([] : List ExceptionTableEntry) none 5 [(0, .ref x0), (1, .int x1)] [] h 0 0 := by
  induction n9 with
  | zero => intro x0 x1 h hw; exact False.elim hw
  | succ n9 ih =>
    intro x0 x1 h hw
    unfold w_Exact_clear_L5 at hw
    intro p e s m args below meth c hC H locs ls k n hE hl hR hS hk hn
    obtain ⟨hx, hb, hown, hlocks, htab, hml, hr, hB, hA, hnm⟩ := id hC
    have hts := hB.1.1.at args
    refine lv_iload_n hx hb (xb_d D_Exact_clear 3 rfl) rfl (lv_at hl 1 rfl) ?_
    refine lv_aload_n hx hb (xb_d D_Exact_clear 4 rfl) rfl (lv_at hl 0 rfl) ?_
    obtain ⟨hk1, hw⟩ := hw
    refine xb_getI (C := R_Exact) (T := F_Exact) (N := 11) hx hb 9 3 hts fin_Exact hown hR hk1 (by decide) rfl (by decide) rfl (hts _ m_ee80a7fc) (fun _ h9 => h9) (xb_d D_Exact_clear 5 rfl) ?_
    refine lv_icmp_gt (tgt := 26) hx hb (xb_d D_Exact_clear 6 rfl) rfl (fun hc2 => ?_) (fun hc2 => ?_)
    · have hw := hw.1 hc2
      refine lv_aload_n hx hb (xb_d D_Exact_clear 14 rfl) rfl (lv_at hl 0 rfl) ?_
      refine lv_aload_n hx hb (xb_d D_Exact_clear 15 rfl) rfl (lv_at hl 0 rfl) ?_
      refine xb_getP (C := R_Exact) (T := F_Exact) (N := 11) hx hb 9 1 hts fin_Exact hown hR hk1 (by decide) rfl (by decide) rfl (hts _ m_3ef37fb8) (fun _ h9 => h9) (xb_d D_Exact_clear 16 rfl) ?_
      obtain ⟨b3, eb3, hw⟩ := hw
      refine xb_some eb3 ?_
      obtain ⟨hk4, hw⟩ := hw
      refine xb_alen hx hb hR hk4 (by decide) (xb_d D_Exact_clear 17 rfl) ?_
      refine xb_putI (C := R_Exact) (T := F_Exact) (N := 11) (ty := .int) (x := (nI (xb_n h b3))) hx hb 9 2 hts fin_Exact t_Exact t_Exact_ok n_Exact hown hR hS hk1 (by decide) rfl (by decide) rfl (hts _ m_2f5dbefd) (fun _ h9 => h9) rfl (by decide +kernel) rfl rfl (xb_d D_Exact_clear 18 rfl) (fun H locs hR hS => ?_)
      obtain ⟨h5, eh5⟩ : ∃ x : xb_H, x = xb_I h x0 2 (nI (xb_n h b3)) := ⟨_, rfl⟩
      rw [← eh5] at hR
      have hw := hw h5 eh5
      have hE : xb_ext h0 h5 := by rw [eh5]; exact hE
      refine lv_aload_n hx hb (xb_d D_Exact_clear 19 rfl) rfl (lv_at hl 0 rfl) ?_
      refine lv_iconst (v := 0) hx hb (xb_d D_Exact_clear 20 rfl) (by decide) ?_
      have hk1 : xb_k h5 x0 = 10 := by rw [eh5]; exact hk1
      refine xb_putI (C := R_Exact) (T := F_Exact) (N := 11) (ty := .int) (x := 0) hx hb 9 3 hts fin_Exact t_Exact t_Exact_ok n_Exact hown hR hS hk1 (by decide) rfl (by decide) rfl (hts _ m_ee80a7fc) (fun _ h9 => h9) rfl (by decide +kernel) rfl rfl (xb_d D_Exact_clear 21 rfl) (fun H locs hR hS => ?_)
      obtain ⟨h6, eh6⟩ : ∃ x : xb_H, x = xb_I h5 x0 3 0 := ⟨_, rfl⟩
      rw [← eh6] at hR
      have hw := hw h6 eh6
      have hE : xb_ext h0 h6 := by rw [eh6]; exact hE
      refine lv_aload_n hx hb (xb_d D_Exact_clear 22 rfl) rfl (lv_at hl 0 rfl) ?_
      refine lv_iconst (v := 0) hx hb (xb_d D_Exact_clear 23 rfl) (by decide) ?_
      have hk1 : xb_k h6 x0 = 10 := by rw [eh6]; exact hk1
      refine xb_putI (C := R_Exact) (T := F_Exact) (N := 11) (ty := .boolean) (x := 0) hx hb 9 4 hts fin_Exact t_Exact t_Exact_ok n_Exact hown hR hS hk1 (by decide) rfl (by decide) rfl (hts _ m_5c37ff4e) (fun _ h9 => h9) rfl (by decide +kernel) (by decide) (by decide) (xb_d D_Exact_clear 24 rfl) (fun H locs hR hS => ?_)
      obtain ⟨h7, eh7⟩ : ∃ x : xb_H, x = xb_I h6 x0 4 0 := ⟨_, rfl⟩
      rw [← eh7] at hR
      have hw := hw h7 eh7
      have hE : xb_ext h0 h7 := by rw [eh7]; exact hE
      exact xb_vret hx hb hr hlocks (show k ≤ MC by omega) (show n ≤ MS by omega) hE hR hS (xb_d D_Exact_clear 25 rfl) hw
    · have hw := hw.2 hc2
      refine lv_aload_n hx hb (xb_d D_Exact_clear 7 rfl) rfl (lv_at hl 0 rfl) ?_
      refine xb_getP (C := R_Exact) (T := F_Exact) (N := 11) hx hb 9 1 hts fin_Exact hown hR hk1 (by decide) rfl (by decide) rfl (hts _ m_3ef37fb8) (fun _ h9 => h9) (xb_d D_Exact_clear 8 rfl) ?_
      obtain ⟨b8, eb8, hw⟩ := hw
      refine xb_some eb8 ?_
      refine lv_iload_n hx hb (xb_d D_Exact_clear 9 rfl) rfl (lv_at hl 1 rfl) ?_
      refine lv_iconst (v := 0) hx hb (xb_d D_Exact_clear 10 rfl) (by decide) ?_
      obtain ⟨hk9, hw⟩ := hw
      obtain ⟨hi10, hw⟩ := hw
      refine xb_bast hx hb hR hS hk9 hi10 (xb_d D_Exact_clear 11 rfl) (fun H locs hR hS => ?_)
      obtain ⟨h11, eh11⟩ : ∃ x : xb_H, x = xb_I h b8 (Int32.toNatClampNeg x1) (vp_nar .byte 0) := ⟨_, rfl⟩
      rw [← eh11] at hR
      have hw := hw h11 eh11
      have hE : xb_ext h0 h11 := by rw [eh11]; exact hE
      refine lv_iinc (v := (x1 + 1)) (k := 1) hx hb (xb_d D_Exact_clear 12 rfl) hl rfl (by first | rfl | decide) (by decide) rfl (fun ls hl => ?_)
      have hl : lv_has ls 2 [(1, .int (x1 + 1)), (0, .ref x0)] := hl
      refine lv_goto (tgt := 5) hx hb (xb_d D_Exact_clear 13 rfl) rfl ?_
      exact ih x0 (x1 + 1) h11 hw p e s m args below meth c hC H locs ls k n hE (lv_sub hl [1, 0] rfl) hR hS (by omega) (by omega)

set_option maxHeartbeats 4000000 in
set_option maxRecDepth 100000 in
theorem ok_Exact_clear (l : Launch) (hfl : l.flags = pinnedFlags ++ [noTraceFlag]) (D : va_G) (A : Nat → Prop) (σ : Nat) (x0 : Nat) (h : xb_H) (Qr : xb_H → Prop) (hw : w_Exact_clear x0 h Qr) : xt_Met l y_Exact_clear [.code y_Exact_clear b_Exact_clear 2 none] (xb_rm 2 0 0) (xb_Pc D A σ h [.ref x0]) (xb_Qc D A h (fun v h => v = none ∧ Qr h) (fun _ _ => False)) 0 0 A := by
  refine xb_ofAm (cc := b_Exact_clear) (by decide) (Nat.le_of_ble_eq_true rfl) ?_
  unfold w_Exact_clear at hw
  show xb_am l D A σ 2 0 0 h (fun v h => v = none ∧ Qr h) (fun _ _ => False) y_Exact_clear.cls y_Exact_clear.name b_Exact_clear 2 ([] : List ExceptionTableEntry) none 0 [(0, .ref x0)] [] h 0 0
  obtain ⟨MC, hMC⟩ : ∃ x, x = 0 := ⟨_, rfl⟩
  obtain ⟨MS, hMS⟩ : ∃ x, x = 0 := ⟨_, rfl⟩
  rw [show xb_am l D A σ 2 0 0 = xb_am l D A σ 2 MC MS by rw [hMC, hMS]]
  obtain ⟨h0, hh0⟩ : ∃ x, x = h := ⟨_, rfl⟩
  rw [show xb_am l D A σ 2 MC MS h = xb_am l D A σ 2 MC MS h0 by rw [hh0]]
  intro p e s m args below meth c hC H locs ls k n hE hl hR hS hk hn
  obtain ⟨hx, hb, hown, hlocks, htab, hml, hr, hB, hA, hnm⟩ := id hC
  have hts := hB.1.1.at args
  refine lv_aload_n hx hb (xb_d D_Exact_clear 0 rfl) rfl (lv_at hl 0 rfl) ?_
  obtain ⟨hk1, hw⟩ := hw
  refine xb_getI (C := R_Exact) (T := F_Exact) (N := 11) hx hb 9 2 hts fin_Exact hown hR hk1 (by decide) rfl (by decide) rfl (hts _ m_2f5dbefd) (fun _ h9 => h9) (xb_d D_Exact_clear 1 rfl) ?_
  obtain ⟨v2, ev2⟩ : ∃ x : Int32, x = (xb_i h x0 2) := ⟨_, rfl⟩
  have hw := hw v2 ev2
  refine xt_numi (y := v2) ev2.symm ?_
  refine lv_istore_n hx hb (xb_d D_Exact_clear 2 rfl) rfl hl (by decide) rfl (fun ls hl => ?_)
  have hl : lv_has ls 2 [(1, .int v2), (0, .ref x0)] := hl
  obtain ⟨n8, hw⟩ := hw
  exact am_Exact_clear_L5 l hfl D A σ MC MS h0 Qr n8 x0 v2 h hw p e s m args below meth c hC H locs ls k n hE (lv_sub hl [1, 0] rfl) hR hS (by omega) (by omega)

set_option maxRecDepth 100000 in
def T_Exact_count : List (Nat × Instr × Nat) := [(0, .iconst 0, 1), (1, .istore 4, 2), (3, .iconst 0, 1), (4, .istore 5, 2), (6, .iload_n 2, 1), (7, .istore 6, 2), (9, .iload_n 2, 1), (10, .istore 7, 2), (12, .iconst 0, 1), (13, .istore 8, 2), (15, .iload 8, 2), (17, .iload_n 2, 1), (18, .if_icmp .ge 81, 3), (21, .lload_n 0, 1), (22, .iload 8, 2), (24, .lshr, 1), (25, .lconst 1, 1), (26, .land, 1), (27, .lconst 1, 1), (28, .lcmp, 1), (29, .ifCond .ne 7, 3), (32, .iconst 1, 1), (33, .goto 4, 3), (36, .iconst 0, 1), (37, .istore 9, 2), (39, .iload 9, 2), (41, .ifCond .eq 10, 3), (44, .iload 5, 2), (46, .iconst 1, 1), (47, .iadd, 1), (48, .goto 5, 3), (51, .iload 5, 2), (53, .istore 5, 2), (55, .iload 9, 2), (57, .ifCond .eq 12, 3), (60, .iload_n 2, 1), (61, .iconst 1, 1), (62, .isub, 1), (63, .iload 8, 2), (65, .isub, 1), (66, .goto 5, 3), (69, .iload 6, 2), (71, .istore 6, 2), (73, .iload 9, 2), (75, .ifCond .eq 14, 3), (78, .iload 7, 2), (80, .iload_n 2, 1), (81, .if_icmp .ne 8, 3), (84, .iload 8, 2), (86, .goto 5, 3), (89, .iload 7, 2), (91, .istore 7, 2), (93, .iinc 8 1, 3), (96, .goto (-81), 3), (99, .iload_n 3, 1), (100, .ifCond .ne 8, 3), (103, .iload 6, 2), (105, .goto 15, 3), (108, .iload_n 3, 1), (109, .iconst 1, 1), (110, .if_icmp .ne 8, 3), (113, .iload 7, 2), (115, .goto 5, 3), (118, .iload 5, 2), (120, .istore 4, 2), (122, .iload 4, 2), (124, .ireturn, 1)]
theorem D_Exact_count : ∀ q ∈ T_Exact_count, decode b_Exact_count q.1 = .ok (q.2.1, q.2.2) := by decide +kernel
def w_Exact_count_L120 (Qr : Int32 → xb_H → Prop) (y0 : Int32) (h : xb_H) : Prop :=
    Qr y0 h

def w_Exact_count_L91 (K15 : Int64 → Int32 → Int32 → Int32 → Int32 → Int32 → Int32 → xb_H → Prop) (Qr : Int32 → xb_H → Prop) (x0 : Int64) (x2 : Int32) (x3 : Int32) (x5 : Int32) (x6 : Int32) (x8 : Int32) (y0 : Int32) (h : xb_H) : Prop :=
    K15 x0 x2 x3 x5 x6 y0 (x8 + 1) h

def w_Exact_count_L89 (K15 : Int64 → Int32 → Int32 → Int32 → Int32 → Int32 → Int32 → xb_H → Prop) (Qr : Int32 → xb_H → Prop) (x0 : Int64) (x2 : Int32) (x3 : Int32) (x5 : Int32) (x6 : Int32) (x7 : Int32) (x8 : Int32) (h : xb_H) : Prop :=
    w_Exact_count_L91 K15 Qr x0 x2 x3 x5 x6 x8 x7 h

def w_Exact_count_L71 (K15 : Int64 → Int32 → Int32 → Int32 → Int32 → Int32 → Int32 → xb_H → Prop) (Qr : Int32 → xb_H → Prop) (x0 : Int64) (x2 : Int32) (x3 : Int32) (x5 : Int32) (x7 : Int32) (x8 : Int32) (x9 : Int32) (y0 : Int32) (h : xb_H) : Prop :=
    ((x9 = (0 : Int32) → w_Exact_count_L89 K15 Qr x0 x2 x3 x5 y0 x7 x8 h) ∧ (¬ x9 = (0 : Int32) → ((¬ x7 = x2 → w_Exact_count_L89 K15 Qr x0 x2 x3 x5 y0 x7 x8 h) ∧ (x7 = x2 → w_Exact_count_L91 K15 Qr x0 x2 x3 x5 y0 x8 x8 h))))

def w_Exact_count_L53 (K15 : Int64 → Int32 → Int32 → Int32 → Int32 → Int32 → Int32 → xb_H → Prop) (Qr : Int32 → xb_H → Prop) (x0 : Int64) (x2 : Int32) (x3 : Int32) (x6 : Int32) (x7 : Int32) (x8 : Int32) (x9 : Int32) (y0 : Int32) (h : xb_H) : Prop :=
    ((x9 = (0 : Int32) → w_Exact_count_L71 K15 Qr x0 x2 x3 y0 x7 x8 x9 x6 h) ∧ (¬ x9 = (0 : Int32) → w_Exact_count_L71 K15 Qr x0 x2 x3 y0 x7 x8 x9 ((x2 - 1) - x8) h))

def w_Exact_count_L37 (K15 : Int64 → Int32 → Int32 → Int32 → Int32 → Int32 → Int32 → xb_H → Prop) (Qr : Int32 → xb_H → Prop) (x0 : Int64) (x2 : Int32) (x3 : Int32) (x5 : Int32) (x6 : Int32) (x7 : Int32) (x8 : Int32) (y0 : Int32) (h : xb_H) : Prop :=
    ((y0 = (0 : Int32) → w_Exact_count_L53 K15 Qr x0 x2 x3 x6 x7 x8 y0 x5 h) ∧ (¬ y0 = (0 : Int32) → w_Exact_count_L53 K15 Qr x0 x2 x3 x6 x7 x8 y0 (x5 + 1) h))

def w_Exact_count_L15 (Qr : Int32 → xb_H → Prop) : Nat → Int64 → Int32 → Int32 → Int32 → Int32 → Int32 → Int32 → xb_H → Prop
  | 0, _, _, _, _, _, _, _, _ => False
  | n9 + 1, x0, x2, x3, x5, x6, x7, x8, h =>
    ((x2 ≤ x8 → ((¬ x3 = (0 : Int32) → ((¬ x3 = (1 : Int32) → w_Exact_count_L120 Qr x5 h) ∧ (x3 = (1 : Int32) → w_Exact_count_L120 Qr x7 h))) ∧ (x3 = (0 : Int32) → w_Exact_count_L120 Qr x6 h))) ∧ (¬ x2 ≤ x8 → ((¬ ((xb_lshr x0 x8) &&& 1) = (1 : Int64) → w_Exact_count_L37 (w_Exact_count_L15 Qr n9) Qr x0 x2 x3 x5 x6 x7 x8 0 h) ∧ (((xb_lshr x0 x8) &&& 1) = (1 : Int64) → w_Exact_count_L37 (w_Exact_count_L15 Qr n9) Qr x0 x2 x3 x5 x6 x7 x8 1 h))))

def w_Exact_count (x0 : Int64) (x2 : Int32) (x3 : Int32) (h : xb_H) (Qr : Int32 → xb_H → Prop) : Prop :=
    (∃ n8 : Nat, w_Exact_count_L15 Qr n8 x0 x2 x3 0 x2 x2 0 h)

set_option maxHeartbeats 4000000 in
set_option maxRecDepth 100000 in
theorem am_Exact_count_L120 (l : Launch) (hfl : l.flags = pinnedFlags ++ [noTraceFlag]) (D : va_G) (A : Nat → Prop) (σ MC MS : Nat) (h0 : xb_H) (Qr : Int32 → xb_H → Prop) (y0 : Int32) (h : xb_H) (hw : w_Exact_count_L120 Qr y0 h) : xb_am l D A σ 2 MC MS h0 (fun v h => ∃ r, v = some (.int r) ∧ Qr r h) (fun _ _ => False) y_Exact_count.cls y_Exact_count.name b_Exact_count 10 ([] : List ExceptionTableEntry) (some .int) 120 [] [.int y0] h 0 0 := by
  unfold w_Exact_count_L120 at hw
  intro p e s m args below meth c hC H locs ls k n hE hl hR hS hk hn
  obtain ⟨hx, hb, hown, hlocks, htab, hml, hr, hB, hA, hnm⟩ := id hC
  have hts := hB.1.1.at args
  refine lv_istore hx hb (xb_d D_Exact_count 64 rfl) hl (by decide) rfl (fun ls hl => ?_)
  have hl : lv_has ls 10 [(4, .int y0)] := hl
  refine lv_iload hx hb (xb_d D_Exact_count 65 rfl) (lv_at hl 0 rfl) ?_
  exact xb_iret hx hb hr hlocks (show k ≤ MC by omega) (show n ≤ MS by omega) hE hR hS (xb_d D_Exact_count 66 rfl) hw

set_option maxHeartbeats 4000000 in
set_option maxRecDepth 100000 in
theorem am_Exact_count_L91 (l : Launch) (hfl : l.flags = pinnedFlags ++ [noTraceFlag]) (D : va_G) (A : Nat → Prop) (σ MC MS : Nat) (h0 : xb_H) (Qr : Int32 → xb_H → Prop) (K15 : Int64 → Int32 → Int32 → Int32 → Int32 → Int32 → Int32 → xb_H → Prop) (hK15 : ∀ (x0 : Int64) (x2 : Int32) (x3 : Int32) (x5 : Int32) (x6 : Int32) (x7 : Int32) (x8 : Int32) (h : xb_H), K15 x0 x2 x3 x5 x6 x7 x8 h → xb_am l D A σ 2 MC MS h0 (fun v h => ∃ r, v = some (.int r) ∧ Qr r h) (fun _ _ => False) y_Exact_count.cls y_Exact_count.name b_Exact_count 10 ([] : List ExceptionTableEntry) (some .int) 15 [(0, .long x0), (2, .int x2), (3, .int x3), (5, .int x5), (6, .int x6), (7, .int x7), (8, .int x8)] [] h 0 0) (x0 : Int64) (x2 : Int32) (x3 : Int32) (x5 : Int32) (x6 : Int32) (x8 : Int32) (y0 : Int32) (h : xb_H) (hw : w_Exact_count_L91 K15 Qr x0 x2 x3 x5 x6 x8 y0 h) : xb_am l D A σ 2 MC MS h0 (fun v h => ∃ r, v = some (.int r) ∧ Qr r h) (fun _ _ => False) y_Exact_count.cls y_Exact_count.name b_Exact_count 10 ([] : List ExceptionTableEntry) (some .int) 91 [(0, .long x0), (2, .int x2), (3, .int x3), (5, .int x5), (6, .int x6), (8, .int x8)] [.int y0] h 0 0 := by
  unfold w_Exact_count_L91 at hw
  intro p e s m args below meth c hC H locs ls k n hE hl hR hS hk hn
  obtain ⟨hx, hb, hown, hlocks, htab, hml, hr, hB, hA, hnm⟩ := id hC
  have hts := hB.1.1.at args
  refine lv_istore hx hb (xb_d D_Exact_count 51 rfl) hl (by decide) rfl (fun ls hl => ?_)
  have hl : lv_has ls 10 [(7, .int y0), (0, .long x0), (2, .int x2), (3, .int x3), (5, .int x5), (6, .int x6), (8, .int x8)] := hl
  refine lv_iinc (v := (x8 + 1)) (k := 6) hx hb (xb_d D_Exact_count 52 rfl) hl rfl (by first | rfl | decide) (by decide) rfl (fun ls hl => ?_)
  have hl : lv_has ls 10 [(8, .int (x8 + 1)), (7, .int y0), (0, .long x0), (2, .int x2), (3, .int x3), (5, .int x5), (6, .int x6)] := hl
  refine lv_goto (tgt := 15) hx hb (xb_d D_Exact_count 53 rfl) rfl ?_
  exact hK15 x0 x2 x3 x5 x6 y0 (x8 + 1) h hw p e s m args below meth c hC H locs ls k n hE (lv_sub hl [2, 3, 4, 5, 6, 1, 0] rfl) hR hS (by omega) (by omega)

set_option maxHeartbeats 4000000 in
set_option maxRecDepth 100000 in
theorem am_Exact_count_L89 (l : Launch) (hfl : l.flags = pinnedFlags ++ [noTraceFlag]) (D : va_G) (A : Nat → Prop) (σ MC MS : Nat) (h0 : xb_H) (Qr : Int32 → xb_H → Prop) (K15 : Int64 → Int32 → Int32 → Int32 → Int32 → Int32 → Int32 → xb_H → Prop) (hK15 : ∀ (x0 : Int64) (x2 : Int32) (x3 : Int32) (x5 : Int32) (x6 : Int32) (x7 : Int32) (x8 : Int32) (h : xb_H), K15 x0 x2 x3 x5 x6 x7 x8 h → xb_am l D A σ 2 MC MS h0 (fun v h => ∃ r, v = some (.int r) ∧ Qr r h) (fun _ _ => False) y_Exact_count.cls y_Exact_count.name b_Exact_count 10 ([] : List ExceptionTableEntry) (some .int) 15 [(0, .long x0), (2, .int x2), (3, .int x3), (5, .int x5), (6, .int x6), (7, .int x7), (8, .int x8)] [] h 0 0) (x0 : Int64) (x2 : Int32) (x3 : Int32) (x5 : Int32) (x6 : Int32) (x7 : Int32) (x8 : Int32) (h : xb_H) (hw : w_Exact_count_L89 K15 Qr x0 x2 x3 x5 x6 x7 x8 h) : xb_am l D A σ 2 MC MS h0 (fun v h => ∃ r, v = some (.int r) ∧ Qr r h) (fun _ _ => False) y_Exact_count.cls y_Exact_count.name b_Exact_count 10 ([] : List ExceptionTableEntry) (some .int) 89 [(0, .long x0), (2, .int x2), (3, .int x3), (5, .int x5), (6, .int x6), (7, .int x7), (8, .int x8)] [] h 0 0 := by
  unfold w_Exact_count_L89 at hw
  intro p e s m args below meth c hC H locs ls k n hE hl hR hS hk hn
  obtain ⟨hx, hb, hown, hlocks, htab, hml, hr, hB, hA, hnm⟩ := id hC
  have hts := hB.1.1.at args
  refine lv_iload hx hb (xb_d D_Exact_count 50 rfl) (lv_at hl 5 rfl) ?_
  exact am_Exact_count_L91 l hfl D A σ MC MS h0 Qr K15 hK15 x0 x2 x3 x5 x6 x8 x7 h hw p e s m args below meth c hC H locs ls k n hE (lv_sub hl [0, 1, 2, 3, 4, 6] rfl) hR hS (by omega) (by omega)

set_option maxHeartbeats 4000000 in
set_option maxRecDepth 100000 in
theorem am_Exact_count_L71 (l : Launch) (hfl : l.flags = pinnedFlags ++ [noTraceFlag]) (D : va_G) (A : Nat → Prop) (σ MC MS : Nat) (h0 : xb_H) (Qr : Int32 → xb_H → Prop) (K15 : Int64 → Int32 → Int32 → Int32 → Int32 → Int32 → Int32 → xb_H → Prop) (hK15 : ∀ (x0 : Int64) (x2 : Int32) (x3 : Int32) (x5 : Int32) (x6 : Int32) (x7 : Int32) (x8 : Int32) (h : xb_H), K15 x0 x2 x3 x5 x6 x7 x8 h → xb_am l D A σ 2 MC MS h0 (fun v h => ∃ r, v = some (.int r) ∧ Qr r h) (fun _ _ => False) y_Exact_count.cls y_Exact_count.name b_Exact_count 10 ([] : List ExceptionTableEntry) (some .int) 15 [(0, .long x0), (2, .int x2), (3, .int x3), (5, .int x5), (6, .int x6), (7, .int x7), (8, .int x8)] [] h 0 0) (x0 : Int64) (x2 : Int32) (x3 : Int32) (x5 : Int32) (x7 : Int32) (x8 : Int32) (x9 : Int32) (y0 : Int32) (h : xb_H) (hw : w_Exact_count_L71 K15 Qr x0 x2 x3 x5 x7 x8 x9 y0 h) : xb_am l D A σ 2 MC MS h0 (fun v h => ∃ r, v = some (.int r) ∧ Qr r h) (fun _ _ => False) y_Exact_count.cls y_Exact_count.name b_Exact_count 10 ([] : List ExceptionTableEntry) (some .int) 71 [(0, .long x0), (2, .int x2), (3, .int x3), (5, .int x5), (7, .int x7), (8, .int x8), (9, .int x9)] [.int y0] h 0 0 := by
  unfold w_Exact_count_L71 at hw
  intro p e s m args below meth c hC H locs ls k n hE hl hR hS hk hn
  obtain ⟨hx, hb, hown, hlocks, htab, hml, hr, hB, hA, hnm⟩ := id hC
  have hts := hB.1.1.at args
  refine lv_istore hx hb (xb_d D_Exact_count 42 rfl) hl (by decide) rfl (fun ls hl => ?_)
  have hl : lv_has ls 10 [(6, .int y0), (0, .long x0), (2, .int x2), (3, .int x3), (5, .int x5), (7, .int x7), (8, .int x8), (9, .int x9)] := hl
  refine lv_iload hx hb (xb_d D_Exact_count 43 rfl) (lv_at hl 7 rfl) ?_
  refine lv_if_eq (tgt := 89) hx hb (xb_d D_Exact_count 44 rfl) rfl (fun hc1 => ?_) (fun hc1 => ?_)
  · have hw := hw.1 hc1
    exact am_Exact_count_L89 l hfl D A σ MC MS h0 Qr K15 hK15 x0 x2 x3 x5 y0 x7 x8 h hw p e s m args below meth c hC H locs ls k n hE (lv_sub hl [1, 2, 3, 4, 0, 5, 6] rfl) hR hS (by omega) (by omega)
  · have hw := hw.2 hc1
    refine lv_iload hx hb (xb_d D_Exact_count 45 rfl) (lv_at hl 5 rfl) ?_
    refine lv_iload_n hx hb (xb_d D_Exact_count 46 rfl) rfl (lv_at hl 2 rfl) ?_
    refine lv_icmp_ne (tgt := 89) hx hb (xb_d D_Exact_count 47 rfl) rfl (fun hc2 => ?_) (fun hc2 => ?_)
    · have hw := hw.1 hc2
      exact am_Exact_count_L89 l hfl D A σ MC MS h0 Qr K15 hK15 x0 x2 x3 x5 y0 x7 x8 h hw p e s m args below meth c hC H locs ls k n hE (lv_sub hl [1, 2, 3, 4, 0, 5, 6] rfl) hR hS (by omega) (by omega)
    · have hw := hw.2 hc2
      refine lv_iload hx hb (xb_d D_Exact_count 48 rfl) (lv_at hl 6 rfl) ?_
      refine lv_goto (tgt := 91) hx hb (xb_d D_Exact_count 49 rfl) rfl ?_
      exact am_Exact_count_L91 l hfl D A σ MC MS h0 Qr K15 hK15 x0 x2 x3 x5 y0 x8 x8 h hw p e s m args below meth c hC H locs ls k n hE (lv_sub hl [1, 2, 3, 4, 0, 6] rfl) hR hS (by omega) (by omega)

set_option maxHeartbeats 4000000 in
set_option maxRecDepth 100000 in
theorem am_Exact_count_L53 (l : Launch) (hfl : l.flags = pinnedFlags ++ [noTraceFlag]) (D : va_G) (A : Nat → Prop) (σ MC MS : Nat) (h0 : xb_H) (Qr : Int32 → xb_H → Prop) (K15 : Int64 → Int32 → Int32 → Int32 → Int32 → Int32 → Int32 → xb_H → Prop) (hK15 : ∀ (x0 : Int64) (x2 : Int32) (x3 : Int32) (x5 : Int32) (x6 : Int32) (x7 : Int32) (x8 : Int32) (h : xb_H), K15 x0 x2 x3 x5 x6 x7 x8 h → xb_am l D A σ 2 MC MS h0 (fun v h => ∃ r, v = some (.int r) ∧ Qr r h) (fun _ _ => False) y_Exact_count.cls y_Exact_count.name b_Exact_count 10 ([] : List ExceptionTableEntry) (some .int) 15 [(0, .long x0), (2, .int x2), (3, .int x3), (5, .int x5), (6, .int x6), (7, .int x7), (8, .int x8)] [] h 0 0) (x0 : Int64) (x2 : Int32) (x3 : Int32) (x6 : Int32) (x7 : Int32) (x8 : Int32) (x9 : Int32) (y0 : Int32) (h : xb_H) (hw : w_Exact_count_L53 K15 Qr x0 x2 x3 x6 x7 x8 x9 y0 h) : xb_am l D A σ 2 MC MS h0 (fun v h => ∃ r, v = some (.int r) ∧ Qr r h) (fun _ _ => False) y_Exact_count.cls y_Exact_count.name b_Exact_count 10 ([] : List ExceptionTableEntry) (some .int) 53 [(0, .long x0), (2, .int x2), (3, .int x3), (6, .int x6), (7, .int x7), (8, .int x8), (9, .int x9)] [.int y0] h 0 0 := by
  unfold w_Exact_count_L53 at hw
  intro p e s m args below meth c hC H locs ls k n hE hl hR hS hk hn
  obtain ⟨hx, hb, hown, hlocks, htab, hml, hr, hB, hA, hnm⟩ := id hC
  have hts := hB.1.1.at args
  refine lv_istore hx hb (xb_d D_Exact_count 32 rfl) hl (by decide) rfl (fun ls hl => ?_)
  have hl : lv_has ls 10 [(5, .int y0), (0, .long x0), (2, .int x2), (3, .int x3), (6, .int x6), (7, .int x7), (8, .int x8), (9, .int x9)] := hl
  refine lv_iload hx hb (xb_d D_Exact_count 33 rfl) (lv_at hl 7 rfl) ?_
  refine lv_if_eq (tgt := 69) hx hb (xb_d D_Exact_count 34 rfl) rfl (fun hc1 => ?_) (fun hc1 => ?_)
  · have hw := hw.1 hc1
    refine lv_iload hx hb (xb_d D_Exact_count 41 rfl) (lv_at hl 4 rfl) ?_
    exact am_Exact_count_L71 l hfl D A σ MC MS h0 Qr K15 hK15 x0 x2 x3 y0 x7 x8 x9 x6 h hw p e s m args below meth c hC H locs ls k n hE (lv_sub hl [1, 2, 3, 0, 5, 6, 7] rfl) hR hS (by omega) (by omega)
  · have hw := hw.2 hc1
    refine lv_iload_n hx hb (xb_d D_Exact_count 35 rfl) rfl (lv_at hl 2 rfl) ?_
    refine lv_iconst (v := 1) hx hb (xb_d D_Exact_count 36 rfl) (by decide) ?_
    refine lv_isub hx hb (xb_d D_Exact_count 37 rfl) ?_
    refine lv_iload hx hb (xb_d D_Exact_count 38 rfl) (lv_at hl 6 rfl) ?_
    refine lv_isub hx hb (xb_d D_Exact_count 39 rfl) ?_
    refine lv_goto (tgt := 71) hx hb (xb_d D_Exact_count 40 rfl) rfl ?_
    exact am_Exact_count_L71 l hfl D A σ MC MS h0 Qr K15 hK15 x0 x2 x3 y0 x7 x8 x9 ((x2 - 1) - x8) h hw p e s m args below meth c hC H locs ls k n hE (lv_sub hl [1, 2, 3, 0, 5, 6, 7] rfl) hR hS (by omega) (by omega)

set_option maxHeartbeats 4000000 in
set_option maxRecDepth 100000 in
theorem am_Exact_count_L37 (l : Launch) (hfl : l.flags = pinnedFlags ++ [noTraceFlag]) (D : va_G) (A : Nat → Prop) (σ MC MS : Nat) (h0 : xb_H) (Qr : Int32 → xb_H → Prop) (K15 : Int64 → Int32 → Int32 → Int32 → Int32 → Int32 → Int32 → xb_H → Prop) (hK15 : ∀ (x0 : Int64) (x2 : Int32) (x3 : Int32) (x5 : Int32) (x6 : Int32) (x7 : Int32) (x8 : Int32) (h : xb_H), K15 x0 x2 x3 x5 x6 x7 x8 h → xb_am l D A σ 2 MC MS h0 (fun v h => ∃ r, v = some (.int r) ∧ Qr r h) (fun _ _ => False) y_Exact_count.cls y_Exact_count.name b_Exact_count 10 ([] : List ExceptionTableEntry) (some .int) 15 [(0, .long x0), (2, .int x2), (3, .int x3), (5, .int x5), (6, .int x6), (7, .int x7), (8, .int x8)] [] h 0 0) (x0 : Int64) (x2 : Int32) (x3 : Int32) (x5 : Int32) (x6 : Int32) (x7 : Int32) (x8 : Int32) (y0 : Int32) (h : xb_H) (hw : w_Exact_count_L37 K15 Qr x0 x2 x3 x5 x6 x7 x8 y0 h) : xb_am l D A σ 2 MC MS h0 (fun v h => ∃ r, v = some (.int r) ∧ Qr r h) (fun _ _ => False) y_Exact_count.cls y_Exact_count.name b_Exact_count 10 ([] : List ExceptionTableEntry) (some .int) 37 [(0, .long x0), (2, .int x2), (3, .int x3), (5, .int x5), (6, .int x6), (7, .int x7), (8, .int x8)] [.int y0] h 0 0 := by
  unfold w_Exact_count_L37 at hw
  intro p e s m args below meth c hC H locs ls k n hE hl hR hS hk hn
  obtain ⟨hx, hb, hown, hlocks, htab, hml, hr, hB, hA, hnm⟩ := id hC
  have hts := hB.1.1.at args
  refine lv_istore hx hb (xb_d D_Exact_count 24 rfl) hl (by decide) rfl (fun ls hl => ?_)
  have hl : lv_has ls 10 [(9, .int y0), (0, .long x0), (2, .int x2), (3, .int x3), (5, .int x5), (6, .int x6), (7, .int x7), (8, .int x8)] := hl
  refine lv_iload hx hb (xb_d D_Exact_count 25 rfl) (lv_at hl 0 rfl) ?_
  refine lv_if_eq (tgt := 51) hx hb (xb_d D_Exact_count 26 rfl) rfl (fun hc1 => ?_) (fun hc1 => ?_)
  · have hw := hw.1 hc1
    refine lv_iload hx hb (xb_d D_Exact_count 31 rfl) (lv_at hl 4 rfl) ?_
    exact am_Exact_count_L53 l hfl D A σ MC MS h0 Qr K15 hK15 x0 x2 x3 x6 x7 x8 y0 x5 h hw p e s m args below meth c hC H locs ls k n hE (lv_sub hl [1, 2, 3, 5, 6, 7, 0] rfl) hR hS (by omega) (by omega)
  · have hw := hw.2 hc1
    refine lv_iload hx hb (xb_d D_Exact_count 27 rfl) (lv_at hl 4 rfl) ?_
    refine lv_iconst (v := 1) hx hb (xb_d D_Exact_count 28 rfl) (by decide) ?_
    refine lv_iadd hx hb (xb_d D_Exact_count 29 rfl) ?_
    refine lv_goto (tgt := 53) hx hb (xb_d D_Exact_count 30 rfl) rfl ?_
    exact am_Exact_count_L53 l hfl D A σ MC MS h0 Qr K15 hK15 x0 x2 x3 x6 x7 x8 y0 (x5 + 1) h hw p e s m args below meth c hC H locs ls k n hE (lv_sub hl [1, 2, 3, 5, 6, 7, 0] rfl) hR hS (by omega) (by omega)

set_option maxHeartbeats 4000000 in
set_option maxRecDepth 100000 in
theorem am_Exact_count_L15 (l : Launch) (hfl : l.flags = pinnedFlags ++ [noTraceFlag]) (D : va_G) (A : Nat → Prop) (σ MC MS : Nat) (h0 : xb_H) (Qr : Int32 → xb_H → Prop) (n9 : Nat) : ∀ (x0 : Int64) (x2 : Int32) (x3 : Int32) (x5 : Int32) (x6 : Int32) (x7 : Int32) (x8 : Int32) (h : xb_H), w_Exact_count_L15 Qr n9 x0 x2 x3 x5 x6 x7 x8 h → xb_am l D A σ 2 MC MS h0 (fun v h => ∃ r, v = some (.int r) ∧ Qr r h) (fun _ _ => False) y_Exact_count.cls y_Exact_count.name b_Exact_count 10 ([] : List ExceptionTableEntry) (some .int) 15 [(0, .long x0), (2, .int x2), (3, .int x3), (5, .int x5), (6, .int x6), (7, .int x7), (8, .int x8)] [] h 0 0 := by
  induction n9 with
  | zero => intro x0 x2 x3 x5 x6 x7 x8 h hw; exact False.elim hw
  | succ n9 ih =>
    intro x0 x2 x3 x5 x6 x7 x8 h hw
    unfold w_Exact_count_L15 at hw
    intro p e s m args below meth c hC H locs ls k n hE hl hR hS hk hn
    obtain ⟨hx, hb, hown, hlocks, htab, hml, hr, hB, hA, hnm⟩ := id hC
    have hts := hB.1.1.at args
    refine lv_iload hx hb (xb_d D_Exact_count 10 rfl) (lv_at hl 6 rfl) ?_
    refine lv_iload_n hx hb (xb_d D_Exact_count 11 rfl) rfl (lv_at hl 1 rfl) ?_
    refine lv_icmp_ge (tgt := 99) hx hb (xb_d D_Exact_count 12 rfl) rfl (fun hc1 => ?_) (fun hc1 => ?_)
    · have hw := hw.1 hc1
      refine lv_iload_n hx hb (xb_d D_Exact_count 54 rfl) rfl (lv_at hl 2 rfl) ?_
      refine lv_if_ne (tgt := 108) hx hb (xb_d D_Exact_count 55 rfl) rfl (fun hc2 => ?_) (fun hc2 => ?_)
      · have hw := hw.1 hc2
        refine lv_iload_n hx hb (xb_d D_Exact_count 58 rfl) rfl (lv_at hl 2 rfl) ?_
        refine lv_iconst (v := 1) hx hb (xb_d D_Exact_count 59 rfl) (by decide) ?_
        refine lv_icmp_ne (tgt := 118) hx hb (xb_d D_Exact_count 60 rfl) rfl (fun hc3 => ?_) (fun hc3 => ?_)
        · have hw := hw.1 hc3
          refine lv_iload hx hb (xb_d D_Exact_count 63 rfl) (lv_at hl 3 rfl) ?_
          exact am_Exact_count_L120 l hfl D A σ MC MS h0 Qr x5 h hw p e s m args below meth c hC H locs ls k n hE (lv_sub hl [] rfl) hR hS (by omega) (by omega)
        · have hw := hw.2 hc3
          refine lv_iload hx hb (xb_d D_Exact_count 61 rfl) (lv_at hl 5 rfl) ?_
          refine lv_goto (tgt := 120) hx hb (xb_d D_Exact_count 62 rfl) rfl ?_
          exact am_Exact_count_L120 l hfl D A σ MC MS h0 Qr x7 h hw p e s m args below meth c hC H locs ls k n hE (lv_sub hl [] rfl) hR hS (by omega) (by omega)
      · have hw := hw.2 hc2
        refine lv_iload hx hb (xb_d D_Exact_count 56 rfl) (lv_at hl 4 rfl) ?_
        refine lv_goto (tgt := 120) hx hb (xb_d D_Exact_count 57 rfl) rfl ?_
        exact am_Exact_count_L120 l hfl D A σ MC MS h0 Qr x6 h hw p e s m args below meth c hC H locs ls k n hE (lv_sub hl [] rfl) hR hS (by omega) (by omega)
    · have hw := hw.2 hc1
      refine lv_lload_n hx hb (xb_d D_Exact_count 13 rfl) rfl (lv_at hl 0 rfl) ?_
      refine lv_iload hx hb (xb_d D_Exact_count 14 rfl) (lv_at hl 6 rfl) ?_
      refine lv_lshr (v := (xb_lshr x0 x8)) hx hb (xb_d D_Exact_count 15 rfl) rfl ?_
      refine lv_lconst (v := 1) hx hb (xb_d D_Exact_count 16 rfl) (by decide) ?_
      refine lv_land hx hb (xb_d D_Exact_count 17 rfl) ?_
      refine lv_lconst (v := 1) hx hb (xb_d D_Exact_count 18 rfl) (by decide) ?_
      refine xb_lc_ne (tgt := 36) hx hb (xb_d D_Exact_count 19 rfl) (xb_d D_Exact_count 20 rfl) rfl (fun hc4 => ?_) (fun hc4 => ?_)
      · have hw := hw.1 hc4
        refine lv_iconst (v := 0) hx hb (xb_d D_Exact_count 23 rfl) (by decide) ?_
        exact am_Exact_count_L37 l hfl D A σ MC MS h0 Qr (w_Exact_count_L15 Qr n9) ih x0 x2 x3 x5 x6 x7 x8 0 h hw p e s m args below meth c hC H locs ls k n hE (lv_sub hl [0, 1, 2, 3, 4, 5, 6] rfl) hR hS (by omega) (by omega)
      · have hw := hw.2 hc4
        refine lv_iconst (v := 1) hx hb (xb_d D_Exact_count 21 rfl) (by decide) ?_
        refine lv_goto (tgt := 37) hx hb (xb_d D_Exact_count 22 rfl) rfl ?_
        exact am_Exact_count_L37 l hfl D A σ MC MS h0 Qr (w_Exact_count_L15 Qr n9) ih x0 x2 x3 x5 x6 x7 x8 1 h hw p e s m args below meth c hC H locs ls k n hE (lv_sub hl [0, 1, 2, 3, 4, 5, 6] rfl) hR hS (by omega) (by omega)

set_option maxHeartbeats 4000000 in
set_option maxRecDepth 100000 in
theorem ok_Exact_count (l : Launch) (hfl : l.flags = pinnedFlags ++ [noTraceFlag]) (D : va_G) (A : Nat → Prop) (σ : Nat) (x0 : Int64) (x2 : Int32) (x3 : Int32) (h : xb_H) (Qr : Int32 → xb_H → Prop) (hw : w_Exact_count x0 x2 x3 h Qr) : xt_Met l y_Exact_count [.code y_Exact_count b_Exact_count 10 (some .int)] (xb_rm 2 0 0) (xb_Pc D A σ h [.long x0, .int x2, .int x3]) (xb_Qc D A h (fun v h => ∃ r, v = some (.int r) ∧ Qr r h) (fun _ _ => False)) 0 0 A := by
  refine xb_ofAm (cc := b_Exact_count) (by decide) (Nat.le_of_ble_eq_true rfl) ?_
  unfold w_Exact_count at hw
  show xb_am l D A σ 2 0 0 h (fun v h => ∃ r, v = some (.int r) ∧ Qr r h) (fun _ _ => False) y_Exact_count.cls y_Exact_count.name b_Exact_count 10 ([] : List ExceptionTableEntry) (some .int) 0 [(0, .long x0), (2, .int x2), (3, .int x3)] [] h 0 0
  obtain ⟨MC, hMC⟩ : ∃ x, x = 0 := ⟨_, rfl⟩
  obtain ⟨MS, hMS⟩ : ∃ x, x = 0 := ⟨_, rfl⟩
  rw [show xb_am l D A σ 2 0 0 = xb_am l D A σ 2 MC MS by rw [hMC, hMS]]
  obtain ⟨h0, hh0⟩ : ∃ x, x = h := ⟨_, rfl⟩
  rw [show xb_am l D A σ 2 MC MS h = xb_am l D A σ 2 MC MS h0 by rw [hh0]]
  intro p e s m args below meth c hC H locs ls k n hE hl hR hS hk hn
  obtain ⟨hx, hb, hown, hlocks, htab, hml, hr, hB, hA, hnm⟩ := id hC
  have hts := hB.1.1.at args
  refine lv_iconst (v := 0) hx hb (xb_d D_Exact_count 0 rfl) (by decide) ?_
  refine lv_istore hx hb (xb_d D_Exact_count 1 rfl) hl (by decide) rfl (fun ls hl => ?_)
  have hl : lv_has ls 10 [(4, .int 0), (0, .long x0), (2, .int x2), (3, .int x3)] := hl
  refine lv_iconst (v := 0) hx hb (xb_d D_Exact_count 2 rfl) (by decide) ?_
  refine lv_istore hx hb (xb_d D_Exact_count 3 rfl) hl (by decide) rfl (fun ls hl => ?_)
  have hl : lv_has ls 10 [(5, .int 0), (4, .int 0), (0, .long x0), (2, .int x2), (3, .int x3)] := hl
  refine lv_iload_n hx hb (xb_d D_Exact_count 4 rfl) rfl (lv_at hl 3 rfl) ?_
  refine lv_istore hx hb (xb_d D_Exact_count 5 rfl) hl (by decide) rfl (fun ls hl => ?_)
  have hl : lv_has ls 10 [(6, .int x2), (5, .int 0), (4, .int 0), (0, .long x0), (2, .int x2), (3, .int x3)] := hl
  refine lv_iload_n hx hb (xb_d D_Exact_count 6 rfl) rfl (lv_at hl 4 rfl) ?_
  refine lv_istore hx hb (xb_d D_Exact_count 7 rfl) hl (by decide) rfl (fun ls hl => ?_)
  have hl : lv_has ls 10 [(7, .int x2), (6, .int x2), (5, .int 0), (4, .int 0), (0, .long x0), (2, .int x2), (3, .int x3)] := hl
  refine lv_iconst (v := 0) hx hb (xb_d D_Exact_count 8 rfl) (by decide) ?_
  refine lv_istore hx hb (xb_d D_Exact_count 9 rfl) hl (by decide) rfl (fun ls hl => ?_)
  have hl : lv_has ls 10 [(8, .int 0), (7, .int x2), (6, .int x2), (5, .int 0), (4, .int 0), (0, .long x0), (2, .int x2), (3, .int x3)] := hl
  obtain ⟨n8, hw⟩ := hw
  exact am_Exact_count_L15 l hfl D A σ MC MS h0 Qr n8 x0 x2 x3 0 x2 x2 0 h hw p e s m args below meth c hC H locs ls k n hE (lv_sub hl [5, 6, 7, 3, 2, 1, 0] rfl) hR hS (by omega) (by omega)

theorem m_71f7a53b : (.fieldLink "StackHostModel$Exact" 47 "StackHostModel$Exact" "bias" "I" : Cond) ∈ xt_tbl := xt_in (xt_t9 (List.mem_of_getElem? (i := 112) (by decide +kernel))) (by decide +kernel)
theorem m_904a6bc5 : (.fieldLink "StackHostModel$Exact" 44 "StackHostModel$Exact" "fraction" "I" : Cond) ∈ xt_tbl := xt_in (xt_t9 (List.mem_of_getElem? (i := 111) (by decide +kernel))) (by decide +kernel)
theorem m_30b212e4 : (.fieldLink "StackHostModel$Exact" 41 "StackHostModel$Exact" "width" "I" : Cond) ∈ xt_tbl := xt_in (xt_t9 (List.mem_of_getElem? (i := 110) (by decide +kernel))) (by decide +kernel)
set_option maxRecDepth 100000 in
def T_Exact_format : List (Nat × Instr × Nat) := [(0, .aload_n 0, 1), (1, .iload_n 1, 1), (2, .putfield 41, 3), (5, .aload_n 0, 1), (6, .iload_n 1, 1), (7, .bipush 32, 2), (9, .if_icmp .ne 8, 3), (12, .bipush 23, 2), (14, .goto 5, 3), (17, .bipush 52, 2), (19, .putfield 44, 3), (22, .aload_n 0, 1), (23, .iload_n 1, 1), (24, .bipush 32, 2), (26, .if_icmp .ne 8, 3), (29, .bipush 127, 2), (31, .goto 6, 3), (34, .sipush 1023, 3), (37, .putfield 47, 3), (40, .return_, 1)]
theorem D_Exact_format : ∀ q ∈ T_Exact_format, decode b_Exact_format q.1 = .ok (q.2.1, q.2.2) := by decide +kernel
def w_Exact_format_L37 (Qr : xb_H → Prop) (y0 : Int32) (y1 : Nat) (h : xb_H) : Prop :=
    xb_k h y1 = 10 ∧ ∀ h2 : xb_H, h2 = xb_I h y1 7 y0 → Qr h2

def w_Exact_format_L19 (Qr : xb_H → Prop) (x0 : Nat) (x1 : Int32) (y0 : Int32) (y1 : Nat) (h : xb_H) : Prop :=
    xb_k h y1 = 10 ∧ ∀ h2 : xb_H, h2 = xb_I h y1 6 y0 → ((¬ x1 = (32 : Int32) → w_Exact_format_L37 Qr 1023 x0 h2) ∧ (x1 = (32 : Int32) → w_Exact_format_L37 Qr 127 x0 h2))

def w_Exact_format (x0 : Nat) (x1 : Int32) (h : xb_H) (Qr : xb_H → Prop) : Prop :=
    xb_k h x0 = 10 ∧ ∀ h2 : xb_H, h2 = xb_I h x0 5 x1 → ((¬ x1 = (32 : Int32) → w_Exact_format_L19 Qr x0 x1 52 x0 h2) ∧ (x1 = (32 : Int32) → w_Exact_format_L19 Qr x0 x1 23 x0 h2))

set_option maxHeartbeats 4000000 in
set_option maxRecDepth 100000 in
theorem am_Exact_format_L37 (l : Launch) (hfl : l.flags = pinnedFlags ++ [noTraceFlag]) (D : va_G) (A : Nat → Prop) (σ MC MS : Nat) (h0 : xb_H) (Qr : xb_H → Prop) (y0 : Int32) (y1 : Nat) (h : xb_H) (hw : w_Exact_format_L37 Qr y0 y1 h) : xb_am l D A σ 2 MC MS h0 (fun v h => v = none ∧ Qr h) (fun _ _ => False) y_Exact_format.cls y_Exact_format.name b_Exact_format 2 ([] : List ExceptionTableEntry) none 37 [] [.int y0, .ref y1] h 0 0 := by
  unfold w_Exact_format_L37 at hw
  intro p e s m args below meth c hC H locs ls k n hE hl hR hS hk hn
  obtain ⟨hx, hb, hown, hlocks, htab, hml, hr, hB, hA, hnm⟩ := id hC
  have hts := hB.1.1.at args
  obtain ⟨hk1, hw⟩ := hw
  refine xb_putI (C := R_Exact) (T := F_Exact) (N := 11) (ty := .int) (x := y0) hx hb 9 7 hts fin_Exact t_Exact t_Exact_ok n_Exact hown hR hS hk1 (by decide) rfl (by decide) rfl (hts _ m_71f7a53b) (fun _ h9 => h9) rfl (by decide +kernel) rfl rfl (xb_d D_Exact_format 18 rfl) (fun H locs hR hS => ?_)
  obtain ⟨h2, eh2⟩ : ∃ x : xb_H, x = xb_I h y1 7 y0 := ⟨_, rfl⟩
  rw [← eh2] at hR
  have hw := hw h2 eh2
  have hE : xb_ext h0 h2 := by rw [eh2]; exact hE
  exact xb_vret hx hb hr hlocks (show k ≤ MC by omega) (show n ≤ MS by omega) hE hR hS (xb_d D_Exact_format 19 rfl) hw

set_option maxHeartbeats 4000000 in
set_option maxRecDepth 100000 in
theorem am_Exact_format_L19 (l : Launch) (hfl : l.flags = pinnedFlags ++ [noTraceFlag]) (D : va_G) (A : Nat → Prop) (σ MC MS : Nat) (h0 : xb_H) (Qr : xb_H → Prop) (x0 : Nat) (x1 : Int32) (y0 : Int32) (y1 : Nat) (h : xb_H) (hw : w_Exact_format_L19 Qr x0 x1 y0 y1 h) : xb_am l D A σ 2 MC MS h0 (fun v h => v = none ∧ Qr h) (fun _ _ => False) y_Exact_format.cls y_Exact_format.name b_Exact_format 2 ([] : List ExceptionTableEntry) none 19 [(0, .ref x0), (1, .int x1)] [.int y0, .ref y1] h 0 0 := by
  unfold w_Exact_format_L19 at hw
  intro p e s m args below meth c hC H locs ls k n hE hl hR hS hk hn
  obtain ⟨hx, hb, hown, hlocks, htab, hml, hr, hB, hA, hnm⟩ := id hC
  have hts := hB.1.1.at args
  obtain ⟨hk1, hw⟩ := hw
  refine xb_putI (C := R_Exact) (T := F_Exact) (N := 11) (ty := .int) (x := y0) hx hb 9 6 hts fin_Exact t_Exact t_Exact_ok n_Exact hown hR hS hk1 (by decide) rfl (by decide) rfl (hts _ m_904a6bc5) (fun _ h9 => h9) rfl (by decide +kernel) rfl rfl (xb_d D_Exact_format 10 rfl) (fun H locs hR hS => ?_)
  obtain ⟨h2, eh2⟩ : ∃ x : xb_H, x = xb_I h y1 6 y0 := ⟨_, rfl⟩
  rw [← eh2] at hR
  have hw := hw h2 eh2
  have hE : xb_ext h0 h2 := by rw [eh2]; exact hE
  refine lv_aload_n hx hb (xb_d D_Exact_format 11 rfl) rfl (lv_at hl 0 rfl) ?_
  refine lv_iload_n hx hb (xb_d D_Exact_format 12 rfl) rfl (lv_at hl 1 rfl) ?_
  refine lv_bipush (v := 32) hx hb (xb_d D_Exact_format 13 rfl) (by decide) ?_
  refine lv_icmp_ne (tgt := 34) hx hb (xb_d D_Exact_format 14 rfl) rfl (fun hc3 => ?_) (fun hc3 => ?_)
  · have hw := hw.1 hc3
    refine lv_sipush (v := 1023) hx hb (xb_d D_Exact_format 17 rfl) (by decide) ?_
    exact am_Exact_format_L37 l hfl D A σ MC MS h0 Qr 1023 x0 h2 hw p e s m args below meth c hC H locs ls k n hE (lv_sub hl [] rfl) hR hS (by omega) (by omega)
  · have hw := hw.2 hc3
    refine lv_bipush (v := 127) hx hb (xb_d D_Exact_format 15 rfl) (by decide) ?_
    refine lv_goto (tgt := 37) hx hb (xb_d D_Exact_format 16 rfl) rfl ?_
    exact am_Exact_format_L37 l hfl D A σ MC MS h0 Qr 127 x0 h2 hw p e s m args below meth c hC H locs ls k n hE (lv_sub hl [] rfl) hR hS (by omega) (by omega)

set_option maxHeartbeats 4000000 in
set_option maxRecDepth 100000 in
theorem ok_Exact_format (l : Launch) (hfl : l.flags = pinnedFlags ++ [noTraceFlag]) (D : va_G) (A : Nat → Prop) (σ : Nat) (x0 : Nat) (x1 : Int32) (h : xb_H) (Qr : xb_H → Prop) (hw : w_Exact_format x0 x1 h Qr) : xt_Met l y_Exact_format [.code y_Exact_format b_Exact_format 2 none] (xb_rm 2 0 0) (xb_Pc D A σ h [.ref x0, .int x1]) (xb_Qc D A h (fun v h => v = none ∧ Qr h) (fun _ _ => False)) 0 0 A := by
  refine xb_ofAm (cc := b_Exact_format) (by decide) (Nat.le_of_ble_eq_true rfl) ?_
  unfold w_Exact_format at hw
  show xb_am l D A σ 2 0 0 h (fun v h => v = none ∧ Qr h) (fun _ _ => False) y_Exact_format.cls y_Exact_format.name b_Exact_format 2 ([] : List ExceptionTableEntry) none 0 [(0, .ref x0), (1, .int x1)] [] h 0 0
  obtain ⟨MC, hMC⟩ : ∃ x, x = 0 := ⟨_, rfl⟩
  obtain ⟨MS, hMS⟩ : ∃ x, x = 0 := ⟨_, rfl⟩
  rw [show xb_am l D A σ 2 0 0 = xb_am l D A σ 2 MC MS by rw [hMC, hMS]]
  obtain ⟨h0, hh0⟩ : ∃ x, x = h := ⟨_, rfl⟩
  rw [show xb_am l D A σ 2 MC MS h = xb_am l D A σ 2 MC MS h0 by rw [hh0]]
  intro p e s m args below meth c hC H locs ls k n hE hl hR hS hk hn
  obtain ⟨hx, hb, hown, hlocks, htab, hml, hr, hB, hA, hnm⟩ := id hC
  have hts := hB.1.1.at args
  refine lv_aload_n hx hb (xb_d D_Exact_format 0 rfl) rfl (lv_at hl 0 rfl) ?_
  refine lv_iload_n hx hb (xb_d D_Exact_format 1 rfl) rfl (lv_at hl 1 rfl) ?_
  obtain ⟨hk1, hw⟩ := hw
  refine xb_putI (C := R_Exact) (T := F_Exact) (N := 11) (ty := .int) (x := x1) hx hb 9 5 hts fin_Exact t_Exact t_Exact_ok n_Exact hown hR hS hk1 (by decide) rfl (by decide) rfl (hts _ m_30b212e4) (fun _ h9 => h9) rfl (by decide +kernel) rfl rfl (xb_d D_Exact_format 2 rfl) (fun H locs hR hS => ?_)
  obtain ⟨h2, eh2⟩ : ∃ x : xb_H, x = xb_I h x0 5 x1 := ⟨_, rfl⟩
  rw [← eh2] at hR
  have hw := hw h2 eh2
  have hE : xb_ext h0 h2 := by rw [eh2]; exact hE
  refine lv_aload_n hx hb (xb_d D_Exact_format 3 rfl) rfl (lv_at hl 0 rfl) ?_
  refine lv_iload_n hx hb (xb_d D_Exact_format 4 rfl) rfl (lv_at hl 1 rfl) ?_
  refine lv_bipush (v := 32) hx hb (xb_d D_Exact_format 5 rfl) (by decide) ?_
  refine lv_icmp_ne (tgt := 17) hx hb (xb_d D_Exact_format 6 rfl) rfl (fun hc3 => ?_) (fun hc3 => ?_)
  · have hw := hw.1 hc3
    refine lv_bipush (v := 52) hx hb (xb_d D_Exact_format 9 rfl) (by decide) ?_
    exact am_Exact_format_L19 l hfl D A σ MC MS h0 Qr x0 x1 52 x0 h2 hw p e s m args below meth c hC H locs ls k n hE (lv_sub hl [0, 1] rfl) hR hS (by omega) (by omega)
  · have hw := hw.2 hc3
    refine lv_bipush (v := 23) hx hb (xb_d D_Exact_format 7 rfl) (by decide) ?_
    refine lv_goto (tgt := 19) hx hb (xb_d D_Exact_format 8 rfl) rfl ?_
    exact am_Exact_format_L19 l hfl D A σ MC MS h0 Qr x0 x1 23 x0 h2 hw p e s m args below meth c hC H locs ls k n hE (lv_sub hl [0, 1] rfl) hR hS (by omega) (by omega)

set_option maxRecDepth 100000 in
def T_Exact_highest : List (Nat × Instr × Nat) := [(0, .aload_n 0, 1), (1, .getfield 19, 3), (4, .istore_n 1, 1), (5, .iload_n 1, 1), (6, .aload_n 0, 1), (7, .getfield 15, 3), (10, .if_icmp .lt 18, 3), (13, .aload_n 0, 1), (14, .getfield 9, 3), (17, .iload_n 1, 1), (18, .baload, 1), (19, .ifCond .ne 9, 3), (22, .iinc 1 (-1), 3), (25, .goto (-20), 3), (28, .iload_n 1, 1), (29, .aload_n 0, 1), (30, .getfield 15, 3), (33, .if_icmp .lt 7, 3), (36, .iload_n 1, 1), (37, .goto 4, 3), (40, .iconst (-1), 1), (41, .ireturn, 1)]
theorem D_Exact_highest : ∀ q ∈ T_Exact_highest, decode b_Exact_highest q.1 = .ok (q.2.1, q.2.2) := by decide +kernel
def w_Exact_highest_L41 (Qr : Int32 → xb_H → Prop) (y0 : Int32) (h : xb_H) : Prop :=
    Qr y0 h

def w_Exact_highest_L28 (Qr : Int32 → xb_H → Prop) (x0 : Nat) (x1 : Int32) (h : xb_H) : Prop :=
    xb_k h x0 = 10 ∧ ((x1 < (xb_i h x0 2) → w_Exact_highest_L41 Qr (-1) h) ∧ (¬ x1 < (xb_i h x0 2) → w_Exact_highest_L41 Qr x1 h))

def w_Exact_highest_L5 (Qr : Int32 → xb_H → Prop) : Nat → Nat → Int32 → xb_H → Prop
  | 0, _, _, _ => False
  | n9 + 1, x0, x1, h =>
    xb_k h x0 = 10 ∧ ((x1 < (xb_i h x0 2) → w_Exact_highest_L28 Qr x0 x1 h) ∧ (¬ x1 < (xb_i h x0 2) → ∃ b3 : Nat, (xb_r h x0 1) = some b3 ∧ xb_k h b3 = 100 ∧ vp_in x1 (xb_n h b3) ∧ ((¬ (xb_i h b3 (Int32.toNatClampNeg x1)) = (0 : Int32) → w_Exact_highest_L28 Qr x0 x1 h) ∧ ((xb_i h b3 (Int32.toNatClampNeg x1)) = (0 : Int32) → w_Exact_highest_L5 Qr n9 x0 (x1 + (-1)) h))))

def w_Exact_highest (x0 : Nat) (h : xb_H) (Qr : Int32 → xb_H → Prop) : Prop :=
    xb_k h x0 = 10 ∧ ∀ v2 : Int32, v2 = (xb_i h x0 3) → (∃ n8 : Nat, w_Exact_highest_L5 Qr n8 x0 v2 h)

set_option maxHeartbeats 4000000 in
set_option maxRecDepth 100000 in
theorem am_Exact_highest_L41 (l : Launch) (hfl : l.flags = pinnedFlags ++ [noTraceFlag]) (D : va_G) (A : Nat → Prop) (σ MC MS : Nat) (h0 : xb_H) (Qr : Int32 → xb_H → Prop) (y0 : Int32) (h : xb_H) (hw : w_Exact_highest_L41 Qr y0 h) : xb_am l D A σ 2 MC MS h0 (fun v h => ∃ r, v = some (.int r) ∧ Qr r h) (fun _ _ => False) y_Exact_highest.cls y_Exact_highest.name b_Exact_highest 2 ([] : List ExceptionTableEntry) (some .int) 41 [] [.int y0] h 0 0 := by
  unfold w_Exact_highest_L41 at hw
  intro p e s m args below meth c hC H locs ls k n hE hl hR hS hk hn
  obtain ⟨hx, hb, hown, hlocks, htab, hml, hr, hB, hA, hnm⟩ := id hC
  have hts := hB.1.1.at args
  exact xb_iret hx hb hr hlocks (show k ≤ MC by omega) (show n ≤ MS by omega) hE hR hS (xb_d D_Exact_highest 21 rfl) hw

set_option maxHeartbeats 4000000 in
set_option maxRecDepth 100000 in
theorem am_Exact_highest_L28 (l : Launch) (hfl : l.flags = pinnedFlags ++ [noTraceFlag]) (D : va_G) (A : Nat → Prop) (σ MC MS : Nat) (h0 : xb_H) (Qr : Int32 → xb_H → Prop) (x0 : Nat) (x1 : Int32) (h : xb_H) (hw : w_Exact_highest_L28 Qr x0 x1 h) : xb_am l D A σ 2 MC MS h0 (fun v h => ∃ r, v = some (.int r) ∧ Qr r h) (fun _ _ => False) y_Exact_highest.cls y_Exact_highest.name b_Exact_highest 2 ([] : List ExceptionTableEntry) (some .int) 28 [(0, .ref x0), (1, .int x1)] [] h 0 0 := by
  unfold w_Exact_highest_L28 at hw
  intro p e s m args below meth c hC H locs ls k n hE hl hR hS hk hn
  obtain ⟨hx, hb, hown, hlocks, htab, hml, hr, hB, hA, hnm⟩ := id hC
  have hts := hB.1.1.at args
  refine lv_iload_n hx hb (xb_d D_Exact_highest 14 rfl) rfl (lv_at hl 1 rfl) ?_
  refine lv_aload_n hx hb (xb_d D_Exact_highest 15 rfl) rfl (lv_at hl 0 rfl) ?_
  obtain ⟨hk1, hw⟩ := hw
  refine xb_getI (C := R_Exact) (T := F_Exact) (N := 11) hx hb 9 2 hts fin_Exact hown hR hk1 (by decide) rfl (by decide) rfl (hts _ m_2f5dbefd) (fun _ h9 => h9) (xb_d D_Exact_highest 16 rfl) ?_
  refine lv_icmp_lt (tgt := 40) hx hb (xb_d D_Exact_highest 17 rfl) rfl (fun hc2 => ?_) (fun hc2 => ?_)
  · have hw := hw.1 hc2
    refine lv_iconst (v := (-1)) hx hb (xb_d D_Exact_highest 20 rfl) (by decide) ?_
    exact am_Exact_highest_L41 l hfl D A σ MC MS h0 Qr (-1) h hw p e s m args below meth c hC H locs ls k n hE (lv_sub hl [] rfl) hR hS (by omega) (by omega)
  · have hw := hw.2 hc2
    refine lv_iload_n hx hb (xb_d D_Exact_highest 18 rfl) rfl (lv_at hl 1 rfl) ?_
    refine lv_goto (tgt := 41) hx hb (xb_d D_Exact_highest 19 rfl) rfl ?_
    exact am_Exact_highest_L41 l hfl D A σ MC MS h0 Qr x1 h hw p e s m args below meth c hC H locs ls k n hE (lv_sub hl [] rfl) hR hS (by omega) (by omega)

set_option maxHeartbeats 4000000 in
set_option maxRecDepth 100000 in
theorem am_Exact_highest_L5 (l : Launch) (hfl : l.flags = pinnedFlags ++ [noTraceFlag]) (D : va_G) (A : Nat → Prop) (σ MC MS : Nat) (h0 : xb_H) (Qr : Int32 → xb_H → Prop) (n9 : Nat) : ∀ (x0 : Nat) (x1 : Int32) (h : xb_H), w_Exact_highest_L5 Qr n9 x0 x1 h → xb_am l D A σ 2 MC MS h0 (fun v h => ∃ r, v = some (.int r) ∧ Qr r h) (fun _ _ => False) y_Exact_highest.cls y_Exact_highest.name b_Exact_highest 2 ([] : List ExceptionTableEntry) (some .int) 5 [(0, .ref x0), (1, .int x1)] [] h 0 0 := by
  induction n9 with
  | zero => intro x0 x1 h hw; exact False.elim hw
  | succ n9 ih =>
    intro x0 x1 h hw
    unfold w_Exact_highest_L5 at hw
    intro p e s m args below meth c hC H locs ls k n hE hl hR hS hk hn
    obtain ⟨hx, hb, hown, hlocks, htab, hml, hr, hB, hA, hnm⟩ := id hC
    have hts := hB.1.1.at args
    refine lv_iload_n hx hb (xb_d D_Exact_highest 3 rfl) rfl (lv_at hl 1 rfl) ?_
    refine lv_aload_n hx hb (xb_d D_Exact_highest 4 rfl) rfl (lv_at hl 0 rfl) ?_
    obtain ⟨hk1, hw⟩ := hw
    refine xb_getI (C := R_Exact) (T := F_Exact) (N := 11) hx hb 9 2 hts fin_Exact hown hR hk1 (by decide) rfl (by decide) rfl (hts _ m_2f5dbefd) (fun _ h9 => h9) (xb_d D_Exact_highest 5 rfl) ?_
    refine lv_icmp_lt (tgt := 28) hx hb (xb_d D_Exact_highest 6 rfl) rfl (fun hc2 => ?_) (fun hc2 => ?_)
    · have hw := hw.1 hc2
      exact am_Exact_highest_L28 l hfl D A σ MC MS h0 Qr x0 x1 h hw p e s m args below meth c hC H locs ls k n hE (lv_sub hl [0, 1] rfl) hR hS (by omega) (by omega)
    · have hw := hw.2 hc2
      refine lv_aload_n hx hb (xb_d D_Exact_highest 7 rfl) rfl (lv_at hl 0 rfl) ?_
      refine xb_getP (C := R_Exact) (T := F_Exact) (N := 11) hx hb 9 1 hts fin_Exact hown hR hk1 (by decide) rfl (by decide) rfl (hts _ m_3ef37fb8) (fun _ h9 => h9) (xb_d D_Exact_highest 8 rfl) ?_
      obtain ⟨b3, eb3, hw⟩ := hw
      refine xb_some eb3 ?_
      refine lv_iload_n hx hb (xb_d D_Exact_highest 9 rfl) rfl (lv_at hl 1 rfl) ?_
      obtain ⟨hk5, hw⟩ := hw
      obtain ⟨hi4, hw⟩ := hw
      refine xb_bald hx hb hR hk5 hi4 (xb_d D_Exact_highest 10 rfl) ?_
      refine lv_if_ne (tgt := 28) hx hb (xb_d D_Exact_highest 11 rfl) rfl (fun hc6 => ?_) (fun hc6 => ?_)
      · have hw := hw.1 hc6
        exact am_Exact_highest_L28 l hfl D A σ MC MS h0 Qr x0 x1 h hw p e s m args below meth c hC H locs ls k n hE (lv_sub hl [0, 1] rfl) hR hS (by omega) (by omega)
      · have hw := hw.2 hc6
        refine lv_iinc (v := (x1 + (-1))) (k := 1) hx hb (xb_d D_Exact_highest 12 rfl) hl rfl (by first | rfl | decide) (by decide) rfl (fun ls hl => ?_)
        have hl : lv_has ls 2 [(1, .int (x1 + (-1))), (0, .ref x0)] := hl
        refine lv_goto (tgt := 5) hx hb (xb_d D_Exact_highest 13 rfl) rfl ?_
        exact ih x0 (x1 + (-1)) h hw p e s m args below meth c hC H locs ls k n hE (lv_sub hl [1, 0] rfl) hR hS (by omega) (by omega)

set_option maxHeartbeats 4000000 in
set_option maxRecDepth 100000 in
theorem ok_Exact_highest (l : Launch) (hfl : l.flags = pinnedFlags ++ [noTraceFlag]) (D : va_G) (A : Nat → Prop) (σ : Nat) (x0 : Nat) (h : xb_H) (Qr : Int32 → xb_H → Prop) (hw : w_Exact_highest x0 h Qr) : xt_Met l y_Exact_highest [.code y_Exact_highest b_Exact_highest 2 (some .int)] (xb_rm 2 0 0) (xb_Pc D A σ h [.ref x0]) (xb_Qc D A h (fun v h => ∃ r, v = some (.int r) ∧ Qr r h) (fun _ _ => False)) 0 0 A := by
  refine xb_ofAm (cc := b_Exact_highest) (by decide) (Nat.le_of_ble_eq_true rfl) ?_
  unfold w_Exact_highest at hw
  show xb_am l D A σ 2 0 0 h (fun v h => ∃ r, v = some (.int r) ∧ Qr r h) (fun _ _ => False) y_Exact_highest.cls y_Exact_highest.name b_Exact_highest 2 ([] : List ExceptionTableEntry) (some .int) 0 [(0, .ref x0)] [] h 0 0
  obtain ⟨MC, hMC⟩ : ∃ x, x = 0 := ⟨_, rfl⟩
  obtain ⟨MS, hMS⟩ : ∃ x, x = 0 := ⟨_, rfl⟩
  rw [show xb_am l D A σ 2 0 0 = xb_am l D A σ 2 MC MS by rw [hMC, hMS]]
  obtain ⟨h0, hh0⟩ : ∃ x, x = h := ⟨_, rfl⟩
  rw [show xb_am l D A σ 2 MC MS h = xb_am l D A σ 2 MC MS h0 by rw [hh0]]
  intro p e s m args below meth c hC H locs ls k n hE hl hR hS hk hn
  obtain ⟨hx, hb, hown, hlocks, htab, hml, hr, hB, hA, hnm⟩ := id hC
  have hts := hB.1.1.at args
  refine lv_aload_n hx hb (xb_d D_Exact_highest 0 rfl) rfl (lv_at hl 0 rfl) ?_
  obtain ⟨hk1, hw⟩ := hw
  refine xb_getI (C := R_Exact) (T := F_Exact) (N := 11) hx hb 9 3 hts fin_Exact hown hR hk1 (by decide) rfl (by decide) rfl (hts _ m_ee80a7fc) (fun _ h9 => h9) (xb_d D_Exact_highest 1 rfl) ?_
  obtain ⟨v2, ev2⟩ : ∃ x : Int32, x = (xb_i h x0 3) := ⟨_, rfl⟩
  have hw := hw v2 ev2
  refine xt_numi (y := v2) ev2.symm ?_
  refine lv_istore_n hx hb (xb_d D_Exact_highest 2 rfl) rfl hl (by decide) rfl (fun ls hl => ?_)
  have hl : lv_has ls 2 [(1, .int v2), (0, .ref x0)] := hl
  obtain ⟨n8, hw⟩ := hw
  exact am_Exact_highest_L5 l hfl D A σ MC MS h0 Qr n8 x0 v2 h hw p e s m args below meth c hC H locs ls k n hE (lv_sub hl [1, 0] rfl) hR hS (by omega) (by omega)

set_option maxRecDepth 100000 in
def T_Exact_isBelow : List (Nat × Instr × Nat) := [(0, .aload_n 0, 1), (1, .getfield 33, 3), (4, .istore_n 2, 1), (5, .aload_n 0, 1), (6, .getfield 15, 3), (9, .istore_n 3, 1), (10, .iload_n 3, 1), (11, .iload_n 1, 1), (12, .if_icmp .ge 36, 3), (15, .iload_n 3, 1), (16, .aload_n 0, 1), (17, .getfield 19, 3), (20, .if_icmp .gt 28, 3), (23, .iload_n 2, 1), (24, .ifCond .ne 12, 3), (27, .aload_n 0, 1), (28, .getfield 9, 3), (31, .iload_n 3, 1), (32, .baload, 1), (33, .ifCond .eq 7, 3), (36, .iconst 1, 1), (37, .goto 4, 3), (40, .iconst 0, 1), (41, .istore_n 2, 1), (42, .iinc 3 1, 3), (45, .goto (-35), 3), (48, .iload_n 2, 1), (49, .ireturn, 1)]
theorem D_Exact_isBelow : ∀ q ∈ T_Exact_isBelow, decode b_Exact_isBelow q.1 = .ok (q.2.1, q.2.2) := by decide +kernel
def w_Exact_isBelow_L48 (Qr : Int32 → xb_H → Prop) (x2 : Int32) (h : xb_H) : Prop :=
    (x2 = 0 ∨ x2 = 1) ∧ Qr x2 h

def w_Exact_isBelow_L41 (K10 : Nat → Int32 → Int32 → Int32 → xb_H → Prop) (Qr : Int32 → xb_H → Prop) (x0 : Nat) (x1 : Int32) (x3 : Int32) (y0 : Int32) (h : xb_H) : Prop :=
    K10 x0 x1 y0 (x3 + 1) h

def w_Exact_isBelow_L36 (K10 : Nat → Int32 → Int32 → Int32 → xb_H → Prop) (Qr : Int32 → xb_H → Prop) (x0 : Nat) (x1 : Int32) (x3 : Int32) (h : xb_H) : Prop :=
    w_Exact_isBelow_L41 K10 Qr x0 x1 x3 1 h

def w_Exact_isBelow_L10 (Qr : Int32 → xb_H → Prop) : Nat → Nat → Int32 → Int32 → Int32 → xb_H → Prop
  | 0, _, _, _, _, _ => False
  | n9 + 1, x0, x1, x2, x3, h =>
    ((x1 ≤ x3 → w_Exact_isBelow_L48 Qr x2 h) ∧ (¬ x1 ≤ x3 → xb_k h x0 = 10 ∧ (((xb_i h x0 3) < x3 → w_Exact_isBelow_L48 Qr x2 h) ∧ (¬ (xb_i h x0 3) < x3 → ((¬ x2 = (0 : Int32) → w_Exact_isBelow_L36 (w_Exact_isBelow_L10 Qr n9) Qr x0 x1 x3 h) ∧ (x2 = (0 : Int32) → ∃ b5 : Nat, (xb_r h x0 1) = some b5 ∧ xb_k h b5 = 100 ∧ vp_in x3 (xb_n h b5) ∧ (((xb_i h b5 (Int32.toNatClampNeg x3)) = (0 : Int32) → w_Exact_isBelow_L41 (w_Exact_isBelow_L10 Qr n9) Qr x0 x1 x3 0 h) ∧ (¬ (xb_i h b5 (Int32.toNatClampNeg x3)) = (0 : Int32) → w_Exact_isBelow_L36 (w_Exact_isBelow_L10 Qr n9) Qr x0 x1 x3 h))))))))

def w_Exact_isBelow (x0 : Nat) (x1 : Int32) (h : xb_H) (Qr : Int32 → xb_H → Prop) : Prop :=
    xb_k h x0 = 10 ∧ ∀ v2 : Int32, v2 = (xb_i h x0 4) → ∀ v3 : Int32, v3 = (xb_i h x0 2) → (∃ n8 : Nat, w_Exact_isBelow_L10 Qr n8 x0 x1 v2 v3 h)

set_option maxHeartbeats 4000000 in
set_option maxRecDepth 100000 in
theorem am_Exact_isBelow_L48 (l : Launch) (hfl : l.flags = pinnedFlags ++ [noTraceFlag]) (D : va_G) (A : Nat → Prop) (σ MC MS : Nat) (h0 : xb_H) (Qr : Int32 → xb_H → Prop) (x2 : Int32) (h : xb_H) (hw : w_Exact_isBelow_L48 Qr x2 h) : xb_am l D A σ 2 MC MS h0 (fun v h => ∃ r, v = some (.int r) ∧ Qr r h) (fun _ _ => False) y_Exact_isBelow.cls y_Exact_isBelow.name b_Exact_isBelow 4 ([] : List ExceptionTableEntry) (some .boolean) 48 [(2, .int x2)] [] h 0 0 := by
  unfold w_Exact_isBelow_L48 at hw
  intro p e s m args below meth c hC H locs ls k n hE hl hR hS hk hn
  obtain ⟨hx, hb, hown, hlocks, htab, hml, hr, hB, hA, hnm⟩ := id hC
  have hts := hB.1.1.at args
  refine lv_iload_n hx hb (xb_d D_Exact_isBelow 26 rfl) rfl (lv_at hl 0 rfl) ?_
  exact xb_zret hx hb hr hlocks (show k ≤ MC by omega) (show n ≤ MS by omega) hw.1 hE hR hS (xb_d D_Exact_isBelow 27 rfl) hw.2

set_option maxHeartbeats 4000000 in
set_option maxRecDepth 100000 in
theorem am_Exact_isBelow_L41 (l : Launch) (hfl : l.flags = pinnedFlags ++ [noTraceFlag]) (D : va_G) (A : Nat → Prop) (σ MC MS : Nat) (h0 : xb_H) (Qr : Int32 → xb_H → Prop) (K10 : Nat → Int32 → Int32 → Int32 → xb_H → Prop) (hK10 : ∀ (x0 : Nat) (x1 : Int32) (x2 : Int32) (x3 : Int32) (h : xb_H), K10 x0 x1 x2 x3 h → xb_am l D A σ 2 MC MS h0 (fun v h => ∃ r, v = some (.int r) ∧ Qr r h) (fun _ _ => False) y_Exact_isBelow.cls y_Exact_isBelow.name b_Exact_isBelow 4 ([] : List ExceptionTableEntry) (some .boolean) 10 [(0, .ref x0), (1, .int x1), (2, .int x2), (3, .int x3)] [] h 0 0) (x0 : Nat) (x1 : Int32) (x3 : Int32) (y0 : Int32) (h : xb_H) (hw : w_Exact_isBelow_L41 K10 Qr x0 x1 x3 y0 h) : xb_am l D A σ 2 MC MS h0 (fun v h => ∃ r, v = some (.int r) ∧ Qr r h) (fun _ _ => False) y_Exact_isBelow.cls y_Exact_isBelow.name b_Exact_isBelow 4 ([] : List ExceptionTableEntry) (some .boolean) 41 [(0, .ref x0), (1, .int x1), (3, .int x3)] [.int y0] h 0 0 := by
  unfold w_Exact_isBelow_L41 at hw
  intro p e s m args below meth c hC H locs ls k n hE hl hR hS hk hn
  obtain ⟨hx, hb, hown, hlocks, htab, hml, hr, hB, hA, hnm⟩ := id hC
  have hts := hB.1.1.at args
  refine lv_istore_n hx hb (xb_d D_Exact_isBelow 23 rfl) rfl hl (by decide) rfl (fun ls hl => ?_)
  have hl : lv_has ls 4 [(2, .int y0), (0, .ref x0), (1, .int x1), (3, .int x3)] := hl
  refine lv_iinc (v := (x3 + 1)) (k := 3) hx hb (xb_d D_Exact_isBelow 24 rfl) hl rfl (by first | rfl | decide) (by decide) rfl (fun ls hl => ?_)
  have hl : lv_has ls 4 [(3, .int (x3 + 1)), (2, .int y0), (0, .ref x0), (1, .int x1)] := hl
  refine lv_goto (tgt := 10) hx hb (xb_d D_Exact_isBelow 25 rfl) rfl ?_
  exact hK10 x0 x1 y0 (x3 + 1) h hw p e s m args below meth c hC H locs ls k n hE (lv_sub hl [2, 3, 1, 0] rfl) hR hS (by omega) (by omega)

set_option maxHeartbeats 4000000 in
set_option maxRecDepth 100000 in
theorem am_Exact_isBelow_L36 (l : Launch) (hfl : l.flags = pinnedFlags ++ [noTraceFlag]) (D : va_G) (A : Nat → Prop) (σ MC MS : Nat) (h0 : xb_H) (Qr : Int32 → xb_H → Prop) (K10 : Nat → Int32 → Int32 → Int32 → xb_H → Prop) (hK10 : ∀ (x0 : Nat) (x1 : Int32) (x2 : Int32) (x3 : Int32) (h : xb_H), K10 x0 x1 x2 x3 h → xb_am l D A σ 2 MC MS h0 (fun v h => ∃ r, v = some (.int r) ∧ Qr r h) (fun _ _ => False) y_Exact_isBelow.cls y_Exact_isBelow.name b_Exact_isBelow 4 ([] : List ExceptionTableEntry) (some .boolean) 10 [(0, .ref x0), (1, .int x1), (2, .int x2), (3, .int x3)] [] h 0 0) (x0 : Nat) (x1 : Int32) (x3 : Int32) (h : xb_H) (hw : w_Exact_isBelow_L36 K10 Qr x0 x1 x3 h) : xb_am l D A σ 2 MC MS h0 (fun v h => ∃ r, v = some (.int r) ∧ Qr r h) (fun _ _ => False) y_Exact_isBelow.cls y_Exact_isBelow.name b_Exact_isBelow 4 ([] : List ExceptionTableEntry) (some .boolean) 36 [(0, .ref x0), (1, .int x1), (3, .int x3)] [] h 0 0 := by
  unfold w_Exact_isBelow_L36 at hw
  intro p e s m args below meth c hC H locs ls k n hE hl hR hS hk hn
  obtain ⟨hx, hb, hown, hlocks, htab, hml, hr, hB, hA, hnm⟩ := id hC
  have hts := hB.1.1.at args
  refine lv_iconst (v := 1) hx hb (xb_d D_Exact_isBelow 20 rfl) (by decide) ?_
  refine lv_goto (tgt := 41) hx hb (xb_d D_Exact_isBelow 21 rfl) rfl ?_
  exact am_Exact_isBelow_L41 l hfl D A σ MC MS h0 Qr K10 hK10 x0 x1 x3 1 h hw p e s m args below meth c hC H locs ls k n hE (lv_sub hl [0, 1, 2] rfl) hR hS (by omega) (by omega)

set_option maxHeartbeats 4000000 in
set_option maxRecDepth 100000 in
theorem am_Exact_isBelow_L10 (l : Launch) (hfl : l.flags = pinnedFlags ++ [noTraceFlag]) (D : va_G) (A : Nat → Prop) (σ MC MS : Nat) (h0 : xb_H) (Qr : Int32 → xb_H → Prop) (n9 : Nat) : ∀ (x0 : Nat) (x1 : Int32) (x2 : Int32) (x3 : Int32) (h : xb_H), w_Exact_isBelow_L10 Qr n9 x0 x1 x2 x3 h → xb_am l D A σ 2 MC MS h0 (fun v h => ∃ r, v = some (.int r) ∧ Qr r h) (fun _ _ => False) y_Exact_isBelow.cls y_Exact_isBelow.name b_Exact_isBelow 4 ([] : List ExceptionTableEntry) (some .boolean) 10 [(0, .ref x0), (1, .int x1), (2, .int x2), (3, .int x3)] [] h 0 0 := by
  induction n9 with
  | zero => intro x0 x1 x2 x3 h hw; exact False.elim hw
  | succ n9 ih =>
    intro x0 x1 x2 x3 h hw
    unfold w_Exact_isBelow_L10 at hw
    intro p e s m args below meth c hC H locs ls k n hE hl hR hS hk hn
    obtain ⟨hx, hb, hown, hlocks, htab, hml, hr, hB, hA, hnm⟩ := id hC
    have hts := hB.1.1.at args
    refine lv_iload_n hx hb (xb_d D_Exact_isBelow 6 rfl) rfl (lv_at hl 3 rfl) ?_
    refine lv_iload_n hx hb (xb_d D_Exact_isBelow 7 rfl) rfl (lv_at hl 1 rfl) ?_
    refine lv_icmp_ge (tgt := 48) hx hb (xb_d D_Exact_isBelow 8 rfl) rfl (fun hc1 => ?_) (fun hc1 => ?_)
    · have hw := hw.1 hc1
      exact am_Exact_isBelow_L48 l hfl D A σ MC MS h0 Qr x2 h hw p e s m args below meth c hC H locs ls k n hE (lv_sub hl [2] rfl) hR hS (by omega) (by omega)
    · have hw := hw.2 hc1
      refine lv_iload_n hx hb (xb_d D_Exact_isBelow 9 rfl) rfl (lv_at hl 3 rfl) ?_
      refine lv_aload_n hx hb (xb_d D_Exact_isBelow 10 rfl) rfl (lv_at hl 0 rfl) ?_
      obtain ⟨hk2, hw⟩ := hw
      refine xb_getI (C := R_Exact) (T := F_Exact) (N := 11) hx hb 9 3 hts fin_Exact hown hR hk2 (by decide) rfl (by decide) rfl (hts _ m_ee80a7fc) (fun _ h9 => h9) (xb_d D_Exact_isBelow 11 rfl) ?_
      refine lv_icmp_gt (tgt := 48) hx hb (xb_d D_Exact_isBelow 12 rfl) rfl (fun hc3 => ?_) (fun hc3 => ?_)
      · have hw := hw.1 hc3
        exact am_Exact_isBelow_L48 l hfl D A σ MC MS h0 Qr x2 h hw p e s m args below meth c hC H locs ls k n hE (lv_sub hl [2] rfl) hR hS (by omega) (by omega)
      · have hw := hw.2 hc3
        refine lv_iload_n hx hb (xb_d D_Exact_isBelow 13 rfl) rfl (lv_at hl 2 rfl) ?_
        refine lv_if_ne (tgt := 36) hx hb (xb_d D_Exact_isBelow 14 rfl) rfl (fun hc4 => ?_) (fun hc4 => ?_)
        · have hw := hw.1 hc4
          exact am_Exact_isBelow_L36 l hfl D A σ MC MS h0 Qr (w_Exact_isBelow_L10 Qr n9) ih x0 x1 x3 h hw p e s m args below meth c hC H locs ls k n hE (lv_sub hl [0, 1, 3] rfl) hR hS (by omega) (by omega)
        · have hw := hw.2 hc4
          refine lv_aload_n hx hb (xb_d D_Exact_isBelow 15 rfl) rfl (lv_at hl 0 rfl) ?_
          refine xb_getP (C := R_Exact) (T := F_Exact) (N := 11) hx hb 9 1 hts fin_Exact hown hR hk2 (by decide) rfl (by decide) rfl (hts _ m_3ef37fb8) (fun _ h9 => h9) (xb_d D_Exact_isBelow 16 rfl) ?_
          obtain ⟨b5, eb5, hw⟩ := hw
          refine xb_some eb5 ?_
          refine lv_iload_n hx hb (xb_d D_Exact_isBelow 17 rfl) rfl (lv_at hl 3 rfl) ?_
          obtain ⟨hk7, hw⟩ := hw
          obtain ⟨hi6, hw⟩ := hw
          refine xb_bald hx hb hR hk7 hi6 (xb_d D_Exact_isBelow 18 rfl) ?_
          refine lv_if_eq (tgt := 40) hx hb (xb_d D_Exact_isBelow 19 rfl) rfl (fun hc8 => ?_) (fun hc8 => ?_)
          · have hw := hw.1 hc8
            refine lv_iconst (v := 0) hx hb (xb_d D_Exact_isBelow 22 rfl) (by decide) ?_
            exact am_Exact_isBelow_L41 l hfl D A σ MC MS h0 Qr (w_Exact_isBelow_L10 Qr n9) ih x0 x1 x3 0 h hw p e s m args below meth c hC H locs ls k n hE (lv_sub hl [0, 1, 3] rfl) hR hS (by omega) (by omega)
          · have hw := hw.2 hc8
            exact am_Exact_isBelow_L36 l hfl D A σ MC MS h0 Qr (w_Exact_isBelow_L10 Qr n9) ih x0 x1 x3 h hw p e s m args below meth c hC H locs ls k n hE (lv_sub hl [0, 1, 3] rfl) hR hS (by omega) (by omega)

set_option maxHeartbeats 4000000 in
set_option maxRecDepth 100000 in
theorem ok_Exact_isBelow (l : Launch) (hfl : l.flags = pinnedFlags ++ [noTraceFlag]) (D : va_G) (A : Nat → Prop) (σ : Nat) (x0 : Nat) (x1 : Int32) (h : xb_H) (Qr : Int32 → xb_H → Prop) (hw : w_Exact_isBelow x0 x1 h Qr) : xt_Met l y_Exact_isBelow [.code y_Exact_isBelow b_Exact_isBelow 4 (some .boolean)] (xb_rm 2 0 0) (xb_Pc D A σ h [.ref x0, .int x1]) (xb_Qc D A h (fun v h => ∃ r, v = some (.int r) ∧ Qr r h) (fun _ _ => False)) 0 0 A := by
  refine xb_ofAm (cc := b_Exact_isBelow) (by decide) (Nat.le_of_ble_eq_true rfl) ?_
  unfold w_Exact_isBelow at hw
  show xb_am l D A σ 2 0 0 h (fun v h => ∃ r, v = some (.int r) ∧ Qr r h) (fun _ _ => False) y_Exact_isBelow.cls y_Exact_isBelow.name b_Exact_isBelow 4 ([] : List ExceptionTableEntry) (some .boolean) 0 [(0, .ref x0), (1, .int x1)] [] h 0 0
  obtain ⟨MC, hMC⟩ : ∃ x, x = 0 := ⟨_, rfl⟩
  obtain ⟨MS, hMS⟩ : ∃ x, x = 0 := ⟨_, rfl⟩
  rw [show xb_am l D A σ 2 0 0 = xb_am l D A σ 2 MC MS by rw [hMC, hMS]]
  obtain ⟨h0, hh0⟩ : ∃ x, x = h := ⟨_, rfl⟩
  rw [show xb_am l D A σ 2 MC MS h = xb_am l D A σ 2 MC MS h0 by rw [hh0]]
  intro p e s m args below meth c hC H locs ls k n hE hl hR hS hk hn
  obtain ⟨hx, hb, hown, hlocks, htab, hml, hr, hB, hA, hnm⟩ := id hC
  have hts := hB.1.1.at args
  refine lv_aload_n hx hb (xb_d D_Exact_isBelow 0 rfl) rfl (lv_at hl 0 rfl) ?_
  obtain ⟨hk1, hw⟩ := hw
  refine xb_getI (C := R_Exact) (T := F_Exact) (N := 11) hx hb 9 4 hts fin_Exact hown hR hk1 (by decide) rfl (by decide) rfl (hts _ m_5c37ff4e) (fun _ h9 => h9) (xb_d D_Exact_isBelow 1 rfl) ?_
  obtain ⟨v2, ev2⟩ : ∃ x : Int32, x = (xb_i h x0 4) := ⟨_, rfl⟩
  have hw := hw v2 ev2
  refine xt_numi (y := v2) ev2.symm ?_
  refine lv_istore_n hx hb (xb_d D_Exact_isBelow 2 rfl) rfl hl (by decide) rfl (fun ls hl => ?_)
  have hl : lv_has ls 4 [(2, .int v2), (0, .ref x0), (1, .int x1)] := hl
  refine lv_aload_n hx hb (xb_d D_Exact_isBelow 3 rfl) rfl (lv_at hl 1 rfl) ?_
  refine xb_getI (C := R_Exact) (T := F_Exact) (N := 11) hx hb 9 2 hts fin_Exact hown hR hk1 (by decide) rfl (by decide) rfl (hts _ m_2f5dbefd) (fun _ h9 => h9) (xb_d D_Exact_isBelow 4 rfl) ?_
  obtain ⟨v3, ev3⟩ : ∃ x : Int32, x = (xb_i h x0 2) := ⟨_, rfl⟩
  have hw := hw v3 ev3
  refine xt_numi (y := v3) ev3.symm ?_
  refine lv_istore_n hx hb (xb_d D_Exact_isBelow 5 rfl) rfl hl (by decide) rfl (fun ls hl => ?_)
  have hl : lv_has ls 4 [(3, .int v3), (2, .int v2), (0, .ref x0), (1, .int x1)] := hl
  obtain ⟨n8, hw⟩ := hw
  exact am_Exact_isBelow_L10 l hfl D A σ MC MS h0 Qr n8 x0 x1 v2 v3 h hw p e s m args below meth c hC H locs ls k n hE (lv_sub hl [2, 3, 1, 0] rfl) hR hS (by omega) (by omega)

