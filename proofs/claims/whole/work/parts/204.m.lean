theorem m_b88bfd37 : (.fieldLink "StackHostModel" 89 "StackHostModel" "nameOf" "[I" : Cond) ∈ xt_tbl := xt_in (xt_t9 (List.mem_of_getElem? (i := 180) (by decide +kernel))) (by decide +kernel)
theorem m_4f0568af : (.fieldLink "StackHostModel" 14 "StackHostModel" "store" "[B" : Cond) ∈ xt_tbl := xt_in (xt_t9 (List.mem_of_getElem? (i := 142) (by decide +kernel))) (by decide +kernel)
theorem m_c7ddbadb : (.fieldLink "StackHostModel" 83 "StackHostModel" "nameFrom" "[I" : Cond) ∈ xt_tbl := xt_in (xt_t9 (List.mem_of_getElem? (i := 178) (by decide +kernel))) (by decide +kernel)
theorem m_48bc85e4 : (.fieldLink "StackHostModel" 86 "StackHostModel" "nameSize" "[I" : Cond) ∈ xt_tbl := xt_in (xt_t9 (List.mem_of_getElem? (i := 179) (by decide +kernel))) (by decide +kernel)
theorem m_9b569c31 : (.fieldLink "StackHostModel" 493 "StackHostModel" "names" "I" : Cond) ∈ xt_tbl := xt_in (xt_t9 (List.mem_of_getElem? (i := 181) (by decide +kernel))) (by decide +kernel)
set_option maxRecDepth 100000 in
def T_M_instanceNamed : List (Nat × Instr × Nat) := [(0, .aload_n 0, 1), (1, .getfield 493, 3), (4, .iconst 1, 1), (5, .isub, 1), (6, .istore_n 3, 1), (7, .iload_n 3, 1), (8, .ifCond .lt 91, 3), (11, .aload_n 0, 1), (12, .getfield 86, 3), (15, .iload_n 3, 1), (16, .iaload, 1), (17, .iload_n 2, 1), (18, .if_icmp .ne 7, 3), (21, .iconst 1, 1), (22, .goto 4, 3), (25, .iconst 0, 1), (26, .istore 4, 2), (28, .iconst 0, 1), (29, .istore 5, 2), (31, .iload 5, 2), (33, .iload_n 2, 1), (34, .if_icmp .ge 47, 3), (37, .iload 4, 2), (39, .ifCond .eq 42, 3), (42, .aload_n 0, 1), (43, .getfield 14, 3), (46, .aload_n 0, 1), (47, .getfield 83, 3), (50, .iload_n 3, 1), (51, .iaload, 1), (52, .iload 5, 2), (54, .iadd, 1), (55, .baload, 1), (56, .aload_n 0, 1), (57, .getfield 14, 3), (60, .iload_n 1, 1), (61, .iload 5, 2), (63, .iadd, 1), (64, .baload, 1), (65, .if_icmp .ne 7, 3), (68, .iconst 1, 1), (69, .goto 4, 3), (72, .iconst 0, 1), (73, .istore 4, 2), (75, .iinc 5 1, 3), (78, .goto (-47), 3), (81, .iload 4, 2), (83, .ifCond .eq 10, 3), (86, .aload_n 0, 1), (87, .getfield 89, 3), (90, .iload_n 3, 1), (91, .iaload, 1), (92, .ireturn, 1), (93, .iinc 3 (-1), 3), (96, .goto (-89), 3), (99, .iconst (-1), 1), (100, .ireturn, 1)]
theorem D_M_instanceNamed : ∀ q ∈ T_M_instanceNamed, decode b_M_instanceNamed q.1 = .ok (q.2.1, q.2.2) := by decide +kernel
def w_M_instanceNamed_L81 (K7 : Nat → Int32 → Int32 → Int32 → xb_H → Prop) (Qr : Int32 → xb_H → Prop) (x0 : Nat) (x1 : Int32) (x2 : Int32) (x3 : Int32) (x4 : Int32) (h : xb_H) : Prop :=
    ((x4 = (0 : Int32) → K7 x0 x1 x2 (x3 + (-1)) h) ∧ (¬ x4 = (0 : Int32) → xb_k h x0 = 9 ∧ ∃ b3 : Nat, (xb_r h x0 41) = some b3 ∧ xb_k h b3 = 102 ∧ vp_in x3 (xb_n h b3) ∧ Qr (xb_i h b3 (Int32.toNatClampNeg x3)) h))

def w_M_instanceNamed_L73 (K7 : Nat → Int32 → Int32 → Int32 → xb_H → Prop) (K31 : Nat → Int32 → Int32 → Int32 → Int32 → Int32 → xb_H → Prop) (Qr : Int32 → xb_H → Prop) (x0 : Nat) (x1 : Int32) (x2 : Int32) (x3 : Int32) (x5 : Int32) (y0 : Int32) (h : xb_H) : Prop :=
    K31 x0 x1 x2 x3 y0 (x5 + 1) h

def w_M_instanceNamed_L31 (K7 : Nat → Int32 → Int32 → Int32 → xb_H → Prop) (Qr : Int32 → xb_H → Prop) : Nat → Nat → Int32 → Int32 → Int32 → Int32 → Int32 → xb_H → Prop
  | 0, _, _, _, _, _, _, _ => False
  | n9 + 1, x0, x1, x2, x3, x4, x5, h =>
    ((x2 ≤ x5 → w_M_instanceNamed_L81 K7 Qr x0 x1 x2 x3 x4 h) ∧ (¬ x2 ≤ x5 → ((x4 = (0 : Int32) → w_M_instanceNamed_L81 K7 Qr x0 x1 x2 x3 x4 h) ∧ (¬ x4 = (0 : Int32) → xb_k h x0 = 9 ∧ ∃ b4 : Nat, (xb_r h x0 3) = some b4 ∧ ∃ b5 : Nat, (xb_r h x0 39) = some b5 ∧ xb_k h b5 = 102 ∧ vp_in x3 (xb_n h b5) ∧ xb_k h b4 = 100 ∧ vp_in ((xb_i h b5 (Int32.toNatClampNeg x3)) + x5) (xb_n h b4) ∧ ∃ b10 : Nat, (xb_r h x0 3) = some b10 ∧ xb_k h b10 = 100 ∧ vp_in (x1 + x5) (xb_n h b10) ∧ ((¬ (xb_i h b4 (Int32.toNatClampNeg ((xb_i h b5 (Int32.toNatClampNeg x3)) + x5))) = (xb_i h b10 (Int32.toNatClampNeg (x1 + x5))) → w_M_instanceNamed_L73 K7 (w_M_instanceNamed_L31 K7 Qr n9) Qr x0 x1 x2 x3 x5 0 h) ∧ ((xb_i h b4 (Int32.toNatClampNeg ((xb_i h b5 (Int32.toNatClampNeg x3)) + x5))) = (xb_i h b10 (Int32.toNatClampNeg (x1 + x5))) → w_M_instanceNamed_L73 K7 (w_M_instanceNamed_L31 K7 Qr n9) Qr x0 x1 x2 x3 x5 1 h))))))

def w_M_instanceNamed_L26 (K7 : Nat → Int32 → Int32 → Int32 → xb_H → Prop) (Qr : Int32 → xb_H → Prop) (x0 : Nat) (x1 : Int32) (x2 : Int32) (x3 : Int32) (y0 : Int32) (h : xb_H) : Prop :=
    (∃ n8 : Nat, w_M_instanceNamed_L31 K7 Qr n8 x0 x1 x2 x3 y0 0 h)

def w_M_instanceNamed_L7 (Qr : Int32 → xb_H → Prop) : Nat → Nat → Int32 → Int32 → Int32 → xb_H → Prop
  | 0, _, _, _, _, _ => False
  | n9 + 1, x0, x1, x2, x3, h =>
    ((x3 < (0 : Int32) → Qr (-1) h) ∧ (¬ x3 < (0 : Int32) → xb_k h x0 = 9 ∧ ∃ b3 : Nat, (xb_r h x0 40) = some b3 ∧ xb_k h b3 = 102 ∧ vp_in x3 (xb_n h b3) ∧ ((¬ (xb_i h b3 (Int32.toNatClampNeg x3)) = x2 → w_M_instanceNamed_L26 (w_M_instanceNamed_L7 Qr n9) Qr x0 x1 x2 x3 0 h) ∧ ((xb_i h b3 (Int32.toNatClampNeg x3)) = x2 → w_M_instanceNamed_L26 (w_M_instanceNamed_L7 Qr n9) Qr x0 x1 x2 x3 1 h))))

def w_M_instanceNamed (x0 : Nat) (x1 : Int32) (x2 : Int32) (h : xb_H) (Qr : Int32 → xb_H → Prop) : Prop :=
    xb_k h x0 = 9 ∧ ∀ v2 : Int32, v2 = ((xb_i h x0 42) - 1) → (∃ n8 : Nat, w_M_instanceNamed_L7 Qr n8 x0 x1 x2 v2 h)

set_option maxHeartbeats 4000000 in
set_option maxRecDepth 100000 in
theorem am_M_instanceNamed_L81 (l : Launch) (hfl : l.flags = pinnedFlags ++ [noTraceFlag]) (D : va_G) (A : Nat → Prop) (σ MC MS : Nat) (h0 : xb_H) (Qr : Int32 → xb_H → Prop) (K7 : Nat → Int32 → Int32 → Int32 → xb_H → Prop) (hK7 : ∀ (x0 : Nat) (x1 : Int32) (x2 : Int32) (x3 : Int32) (h : xb_H), K7 x0 x1 x2 x3 h → xb_am l D A σ 2 MC MS h0 (fun v h => ∃ r, v = some (.int r) ∧ Qr r h) (fun _ _ => False) y_M_instanceNamed.cls y_M_instanceNamed.name b_M_instanceNamed 6 ([] : List ExceptionTableEntry) (some .int) 7 [(0, .ref x0), (1, .int x1), (2, .int x2), (3, .int x3)] [] h 0 0) (x0 : Nat) (x1 : Int32) (x2 : Int32) (x3 : Int32) (x4 : Int32) (h : xb_H) (hw : w_M_instanceNamed_L81 K7 Qr x0 x1 x2 x3 x4 h) : xb_am l D A σ 2 MC MS h0 (fun v h => ∃ r, v = some (.int r) ∧ Qr r h) (fun _ _ => False) y_M_instanceNamed.cls y_M_instanceNamed.name b_M_instanceNamed 6 ([] : List ExceptionTableEntry) (some .int) 81 [(0, .ref x0), (1, .int x1), (2, .int x2), (3, .int x3), (4, .int x4)] [] h 0 0 := by
  unfold w_M_instanceNamed_L81 at hw
  intro p e s m args below meth c hC H locs ls k n hE hl hR hS hk hn
  obtain ⟨hx, hb, hown, hlocks, htab, hml, hr, hB, hA, hnm⟩ := id hC
  have hts := hB.1.1.at args
  refine lv_iload hx hb (xb_d D_M_instanceNamed 46 rfl) (lv_at hl 4 rfl) ?_
  refine lv_if_eq (tgt := 93) hx hb (xb_d D_M_instanceNamed 47 rfl) rfl (fun hc1 => ?_) (fun hc1 => ?_)
  · have hw := hw.1 hc1
    refine lv_iinc (v := (x3 + (-1))) (k := 3) hx hb (xb_d D_M_instanceNamed 53 rfl) hl rfl (by first | rfl | decide) (by decide) rfl (fun ls hl => ?_)
    have hl : lv_has ls 6 [(3, .int (x3 + (-1))), (0, .ref x0), (1, .int x1), (2, .int x2), (4, .int x4)] := hl
    refine lv_goto (tgt := 7) hx hb (xb_d D_M_instanceNamed 54 rfl) rfl ?_
    exact hK7 x0 x1 x2 (x3 + (-1)) h hw p e s m args below meth c hC H locs ls k n hE (lv_sub hl [1, 2, 3, 0] rfl) hR hS (by omega) (by omega)
  · have hw := hw.2 hc1
    refine lv_aload_n hx hb (xb_d D_M_instanceNamed 48 rfl) rfl (lv_at hl 0 rfl) ?_
    obtain ⟨hk2, hw⟩ := hw
    refine xb_getP (C := R_M) (T := F_M) (N := 97) hx hb 8 41 hts fin_M hown hR hk2 (by decide) rfl (by decide) rfl (hts _ m_b88bfd37) (fun _ h9 => h9) (xb_d D_M_instanceNamed 49 rfl) ?_
    obtain ⟨b3, eb3, hw⟩ := hw
    refine xb_some eb3 ?_
    refine lv_iload_n hx hb (xb_d D_M_instanceNamed 50 rfl) rfl (lv_at hl 3 rfl) ?_
    obtain ⟨hk5, hw⟩ := hw
    obtain ⟨hi4, hw⟩ := hw
    refine xb_iald hx hb hR hk5 hi4 (xb_d D_M_instanceNamed 51 rfl) ?_
    exact xb_iret hx hb hr hlocks (show k ≤ MC by omega) (show n ≤ MS by omega) hE hR hS (xb_d D_M_instanceNamed 52 rfl) hw

set_option maxHeartbeats 4000000 in
set_option maxRecDepth 100000 in
theorem am_M_instanceNamed_L73 (l : Launch) (hfl : l.flags = pinnedFlags ++ [noTraceFlag]) (D : va_G) (A : Nat → Prop) (σ MC MS : Nat) (h0 : xb_H) (Qr : Int32 → xb_H → Prop) (K7 : Nat → Int32 → Int32 → Int32 → xb_H → Prop) (hK7 : ∀ (x0 : Nat) (x1 : Int32) (x2 : Int32) (x3 : Int32) (h : xb_H), K7 x0 x1 x2 x3 h → xb_am l D A σ 2 MC MS h0 (fun v h => ∃ r, v = some (.int r) ∧ Qr r h) (fun _ _ => False) y_M_instanceNamed.cls y_M_instanceNamed.name b_M_instanceNamed 6 ([] : List ExceptionTableEntry) (some .int) 7 [(0, .ref x0), (1, .int x1), (2, .int x2), (3, .int x3)] [] h 0 0) (K31 : Nat → Int32 → Int32 → Int32 → Int32 → Int32 → xb_H → Prop) (hK31 : ∀ (x0 : Nat) (x1 : Int32) (x2 : Int32) (x3 : Int32) (x4 : Int32) (x5 : Int32) (h : xb_H), K31 x0 x1 x2 x3 x4 x5 h → xb_am l D A σ 2 MC MS h0 (fun v h => ∃ r, v = some (.int r) ∧ Qr r h) (fun _ _ => False) y_M_instanceNamed.cls y_M_instanceNamed.name b_M_instanceNamed 6 ([] : List ExceptionTableEntry) (some .int) 31 [(0, .ref x0), (1, .int x1), (2, .int x2), (3, .int x3), (4, .int x4), (5, .int x5)] [] h 0 0) (x0 : Nat) (x1 : Int32) (x2 : Int32) (x3 : Int32) (x5 : Int32) (y0 : Int32) (h : xb_H) (hw : w_M_instanceNamed_L73 K7 K31 Qr x0 x1 x2 x3 x5 y0 h) : xb_am l D A σ 2 MC MS h0 (fun v h => ∃ r, v = some (.int r) ∧ Qr r h) (fun _ _ => False) y_M_instanceNamed.cls y_M_instanceNamed.name b_M_instanceNamed 6 ([] : List ExceptionTableEntry) (some .int) 73 [(0, .ref x0), (1, .int x1), (2, .int x2), (3, .int x3), (5, .int x5)] [.int y0] h 0 0 := by
  unfold w_M_instanceNamed_L73 at hw
  intro p e s m args below meth c hC H locs ls k n hE hl hR hS hk hn
  obtain ⟨hx, hb, hown, hlocks, htab, hml, hr, hB, hA, hnm⟩ := id hC
  have hts := hB.1.1.at args
  refine lv_istore hx hb (xb_d D_M_instanceNamed 43 rfl) hl (by decide) rfl (fun ls hl => ?_)
  have hl : lv_has ls 6 [(4, .int y0), (0, .ref x0), (1, .int x1), (2, .int x2), (3, .int x3), (5, .int x5)] := hl
  refine lv_iinc (v := (x5 + 1)) (k := 5) hx hb (xb_d D_M_instanceNamed 44 rfl) hl rfl (by first | rfl | decide) (by decide) rfl (fun ls hl => ?_)
  have hl : lv_has ls 6 [(5, .int (x5 + 1)), (4, .int y0), (0, .ref x0), (1, .int x1), (2, .int x2), (3, .int x3)] := hl
  refine lv_goto (tgt := 31) hx hb (xb_d D_M_instanceNamed 45 rfl) rfl ?_
  exact hK31 x0 x1 x2 x3 y0 (x5 + 1) h hw p e s m args below meth c hC H locs ls k n hE (lv_sub hl [2, 3, 4, 5, 1, 0] rfl) hR hS (by omega) (by omega)

set_option maxHeartbeats 4000000 in
set_option maxRecDepth 100000 in
theorem am_M_instanceNamed_L31 (l : Launch) (hfl : l.flags = pinnedFlags ++ [noTraceFlag]) (D : va_G) (A : Nat → Prop) (σ MC MS : Nat) (h0 : xb_H) (Qr : Int32 → xb_H → Prop) (K7 : Nat → Int32 → Int32 → Int32 → xb_H → Prop) (hK7 : ∀ (x0 : Nat) (x1 : Int32) (x2 : Int32) (x3 : Int32) (h : xb_H), K7 x0 x1 x2 x3 h → xb_am l D A σ 2 MC MS h0 (fun v h => ∃ r, v = some (.int r) ∧ Qr r h) (fun _ _ => False) y_M_instanceNamed.cls y_M_instanceNamed.name b_M_instanceNamed 6 ([] : List ExceptionTableEntry) (some .int) 7 [(0, .ref x0), (1, .int x1), (2, .int x2), (3, .int x3)] [] h 0 0) (n9 : Nat) : ∀ (x0 : Nat) (x1 : Int32) (x2 : Int32) (x3 : Int32) (x4 : Int32) (x5 : Int32) (h : xb_H), w_M_instanceNamed_L31 K7 Qr n9 x0 x1 x2 x3 x4 x5 h → xb_am l D A σ 2 MC MS h0 (fun v h => ∃ r, v = some (.int r) ∧ Qr r h) (fun _ _ => False) y_M_instanceNamed.cls y_M_instanceNamed.name b_M_instanceNamed 6 ([] : List ExceptionTableEntry) (some .int) 31 [(0, .ref x0), (1, .int x1), (2, .int x2), (3, .int x3), (4, .int x4), (5, .int x5)] [] h 0 0 := by
  induction n9 with
  | zero => intro x0 x1 x2 x3 x4 x5 h hw; exact False.elim hw
  | succ n9 ih =>
    intro x0 x1 x2 x3 x4 x5 h hw
    unfold w_M_instanceNamed_L31 at hw
    intro p e s m args below meth c hC H locs ls k n hE hl hR hS hk hn
    obtain ⟨hx, hb, hown, hlocks, htab, hml, hr, hB, hA, hnm⟩ := id hC
    have hts := hB.1.1.at args
    refine lv_iload hx hb (xb_d D_M_instanceNamed 19 rfl) (lv_at hl 5 rfl) ?_
    refine lv_iload_n hx hb (xb_d D_M_instanceNamed 20 rfl) rfl (lv_at hl 2 rfl) ?_
    refine lv_icmp_ge (tgt := 81) hx hb (xb_d D_M_instanceNamed 21 rfl) rfl (fun hc1 => ?_) (fun hc1 => ?_)
    · have hw := hw.1 hc1
      exact am_M_instanceNamed_L81 l hfl D A σ MC MS h0 Qr K7 hK7 x0 x1 x2 x3 x4 h hw p e s m args below meth c hC H locs ls k n hE (lv_sub hl [0, 1, 2, 3, 4] rfl) hR hS (by omega) (by omega)
    · have hw := hw.2 hc1
      refine lv_iload hx hb (xb_d D_M_instanceNamed 22 rfl) (lv_at hl 4 rfl) ?_
      refine lv_if_eq (tgt := 81) hx hb (xb_d D_M_instanceNamed 23 rfl) rfl (fun hc2 => ?_) (fun hc2 => ?_)
      · have hw := hw.1 hc2
        exact am_M_instanceNamed_L81 l hfl D A σ MC MS h0 Qr K7 hK7 x0 x1 x2 x3 x4 h hw p e s m args below meth c hC H locs ls k n hE (lv_sub hl [0, 1, 2, 3, 4] rfl) hR hS (by omega) (by omega)
      · have hw := hw.2 hc2
        refine lv_aload_n hx hb (xb_d D_M_instanceNamed 24 rfl) rfl (lv_at hl 0 rfl) ?_
        obtain ⟨hk3, hw⟩ := hw
        refine xb_getP (C := R_M) (T := F_M) (N := 97) hx hb 8 3 hts fin_M hown hR hk3 (by decide) rfl (by decide) rfl (hts _ m_4f0568af) (fun _ h9 => h9) (xb_d D_M_instanceNamed 25 rfl) ?_
        obtain ⟨b4, eb4, hw⟩ := hw
        refine xb_some eb4 ?_
        refine lv_aload_n hx hb (xb_d D_M_instanceNamed 26 rfl) rfl (lv_at hl 0 rfl) ?_
        refine xb_getP (C := R_M) (T := F_M) (N := 97) hx hb 8 39 hts fin_M hown hR hk3 (by decide) rfl (by decide) rfl (hts _ m_c7ddbadb) (fun _ h9 => h9) (xb_d D_M_instanceNamed 27 rfl) ?_
        obtain ⟨b5, eb5, hw⟩ := hw
        refine xb_some eb5 ?_
        refine lv_iload_n hx hb (xb_d D_M_instanceNamed 28 rfl) rfl (lv_at hl 3 rfl) ?_
        obtain ⟨hk7, hw⟩ := hw
        obtain ⟨hi6, hw⟩ := hw
        refine xb_iald hx hb hR hk7 hi6 (xb_d D_M_instanceNamed 29 rfl) ?_
        refine lv_iload hx hb (xb_d D_M_instanceNamed 30 rfl) (lv_at hl 5 rfl) ?_
        refine lv_iadd hx hb (xb_d D_M_instanceNamed 31 rfl) ?_
        obtain ⟨hk9, hw⟩ := hw
        obtain ⟨hi8, hw⟩ := hw
        refine xb_bald hx hb hR hk9 hi8 (xb_d D_M_instanceNamed 32 rfl) ?_
        refine lv_aload_n hx hb (xb_d D_M_instanceNamed 33 rfl) rfl (lv_at hl 0 rfl) ?_
        refine xb_getP (C := R_M) (T := F_M) (N := 97) hx hb 8 3 hts fin_M hown hR hk3 (by decide) rfl (by decide) rfl (hts _ m_4f0568af) (fun _ h9 => h9) (xb_d D_M_instanceNamed 34 rfl) ?_
        obtain ⟨b10, eb10, hw⟩ := hw
        refine xb_some eb10 ?_
        refine lv_iload_n hx hb (xb_d D_M_instanceNamed 35 rfl) rfl (lv_at hl 1 rfl) ?_
        refine lv_iload hx hb (xb_d D_M_instanceNamed 36 rfl) (lv_at hl 5 rfl) ?_
        refine lv_iadd hx hb (xb_d D_M_instanceNamed 37 rfl) ?_
        obtain ⟨hk12, hw⟩ := hw
        obtain ⟨hi11, hw⟩ := hw
        refine xb_bald hx hb hR hk12 hi11 (xb_d D_M_instanceNamed 38 rfl) ?_
        refine lv_icmp_ne (tgt := 72) hx hb (xb_d D_M_instanceNamed 39 rfl) rfl (fun hc13 => ?_) (fun hc13 => ?_)
        · have hw := hw.1 hc13
          refine lv_iconst (v := 0) hx hb (xb_d D_M_instanceNamed 42 rfl) (by decide) ?_
          exact am_M_instanceNamed_L73 l hfl D A σ MC MS h0 Qr K7 hK7 (w_M_instanceNamed_L31 K7 Qr n9) ih x0 x1 x2 x3 x5 0 h hw p e s m args below meth c hC H locs ls k n hE (lv_sub hl [0, 1, 2, 3, 5] rfl) hR hS (by omega) (by omega)
        · have hw := hw.2 hc13
          refine lv_iconst (v := 1) hx hb (xb_d D_M_instanceNamed 40 rfl) (by decide) ?_
          refine lv_goto (tgt := 73) hx hb (xb_d D_M_instanceNamed 41 rfl) rfl ?_
          exact am_M_instanceNamed_L73 l hfl D A σ MC MS h0 Qr K7 hK7 (w_M_instanceNamed_L31 K7 Qr n9) ih x0 x1 x2 x3 x5 1 h hw p e s m args below meth c hC H locs ls k n hE (lv_sub hl [0, 1, 2, 3, 5] rfl) hR hS (by omega) (by omega)

set_option maxHeartbeats 4000000 in
set_option maxRecDepth 100000 in
theorem am_M_instanceNamed_L26 (l : Launch) (hfl : l.flags = pinnedFlags ++ [noTraceFlag]) (D : va_G) (A : Nat → Prop) (σ MC MS : Nat) (h0 : xb_H) (Qr : Int32 → xb_H → Prop) (K7 : Nat → Int32 → Int32 → Int32 → xb_H → Prop) (hK7 : ∀ (x0 : Nat) (x1 : Int32) (x2 : Int32) (x3 : Int32) (h : xb_H), K7 x0 x1 x2 x3 h → xb_am l D A σ 2 MC MS h0 (fun v h => ∃ r, v = some (.int r) ∧ Qr r h) (fun _ _ => False) y_M_instanceNamed.cls y_M_instanceNamed.name b_M_instanceNamed 6 ([] : List ExceptionTableEntry) (some .int) 7 [(0, .ref x0), (1, .int x1), (2, .int x2), (3, .int x3)] [] h 0 0) (x0 : Nat) (x1 : Int32) (x2 : Int32) (x3 : Int32) (y0 : Int32) (h : xb_H) (hw : w_M_instanceNamed_L26 K7 Qr x0 x1 x2 x3 y0 h) : xb_am l D A σ 2 MC MS h0 (fun v h => ∃ r, v = some (.int r) ∧ Qr r h) (fun _ _ => False) y_M_instanceNamed.cls y_M_instanceNamed.name b_M_instanceNamed 6 ([] : List ExceptionTableEntry) (some .int) 26 [(0, .ref x0), (1, .int x1), (2, .int x2), (3, .int x3)] [.int y0] h 0 0 := by
  unfold w_M_instanceNamed_L26 at hw
  intro p e s m args below meth c hC H locs ls k n hE hl hR hS hk hn
  obtain ⟨hx, hb, hown, hlocks, htab, hml, hr, hB, hA, hnm⟩ := id hC
  have hts := hB.1.1.at args
  refine lv_istore hx hb (xb_d D_M_instanceNamed 16 rfl) hl (by decide) rfl (fun ls hl => ?_)
  have hl : lv_has ls 6 [(4, .int y0), (0, .ref x0), (1, .int x1), (2, .int x2), (3, .int x3)] := hl
  refine lv_iconst (v := 0) hx hb (xb_d D_M_instanceNamed 17 rfl) (by decide) ?_
  refine lv_istore hx hb (xb_d D_M_instanceNamed 18 rfl) hl (by decide) rfl (fun ls hl => ?_)
  have hl : lv_has ls 6 [(5, .int 0), (4, .int y0), (0, .ref x0), (1, .int x1), (2, .int x2), (3, .int x3)] := hl
  obtain ⟨n8, hw⟩ := hw
  exact am_M_instanceNamed_L31 l hfl D A σ MC MS h0 Qr K7 hK7 n8 x0 x1 x2 x3 y0 0 h hw p e s m args below meth c hC H locs ls k n hE (lv_sub hl [2, 3, 4, 5, 1, 0] rfl) hR hS (by omega) (by omega)

set_option maxHeartbeats 4000000 in
set_option maxRecDepth 100000 in
theorem am_M_instanceNamed_L7 (l : Launch) (hfl : l.flags = pinnedFlags ++ [noTraceFlag]) (D : va_G) (A : Nat → Prop) (σ MC MS : Nat) (h0 : xb_H) (Qr : Int32 → xb_H → Prop) (n9 : Nat) : ∀ (x0 : Nat) (x1 : Int32) (x2 : Int32) (x3 : Int32) (h : xb_H), w_M_instanceNamed_L7 Qr n9 x0 x1 x2 x3 h → xb_am l D A σ 2 MC MS h0 (fun v h => ∃ r, v = some (.int r) ∧ Qr r h) (fun _ _ => False) y_M_instanceNamed.cls y_M_instanceNamed.name b_M_instanceNamed 6 ([] : List ExceptionTableEntry) (some .int) 7 [(0, .ref x0), (1, .int x1), (2, .int x2), (3, .int x3)] [] h 0 0 := by
  induction n9 with
  | zero => intro x0 x1 x2 x3 h hw; exact False.elim hw
  | succ n9 ih =>
    intro x0 x1 x2 x3 h hw
    unfold w_M_instanceNamed_L7 at hw
    intro p e s m args below meth c hC H locs ls k n hE hl hR hS hk hn
    obtain ⟨hx, hb, hown, hlocks, htab, hml, hr, hB, hA, hnm⟩ := id hC
    have hts := hB.1.1.at args
    refine lv_iload_n hx hb (xb_d D_M_instanceNamed 5 rfl) rfl (lv_at hl 3 rfl) ?_
    refine lv_if_lt (tgt := 99) hx hb (xb_d D_M_instanceNamed 6 rfl) rfl (fun hc1 => ?_) (fun hc1 => ?_)
    · have hw := hw.1 hc1
      refine lv_iconst (v := (-1)) hx hb (xb_d D_M_instanceNamed 55 rfl) (by decide) ?_
      exact xb_iret hx hb hr hlocks (show k ≤ MC by omega) (show n ≤ MS by omega) hE hR hS (xb_d D_M_instanceNamed 56 rfl) hw
    · have hw := hw.2 hc1
      refine lv_aload_n hx hb (xb_d D_M_instanceNamed 7 rfl) rfl (lv_at hl 0 rfl) ?_
      obtain ⟨hk2, hw⟩ := hw
      refine xb_getP (C := R_M) (T := F_M) (N := 97) hx hb 8 40 hts fin_M hown hR hk2 (by decide) rfl (by decide) rfl (hts _ m_48bc85e4) (fun _ h9 => h9) (xb_d D_M_instanceNamed 8 rfl) ?_
      obtain ⟨b3, eb3, hw⟩ := hw
      refine xb_some eb3 ?_
      refine lv_iload_n hx hb (xb_d D_M_instanceNamed 9 rfl) rfl (lv_at hl 3 rfl) ?_
      obtain ⟨hk5, hw⟩ := hw
      obtain ⟨hi4, hw⟩ := hw
      refine xb_iald hx hb hR hk5 hi4 (xb_d D_M_instanceNamed 10 rfl) ?_
      refine lv_iload_n hx hb (xb_d D_M_instanceNamed 11 rfl) rfl (lv_at hl 2 rfl) ?_
      refine lv_icmp_ne (tgt := 25) hx hb (xb_d D_M_instanceNamed 12 rfl) rfl (fun hc6 => ?_) (fun hc6 => ?_)
      · have hw := hw.1 hc6
        refine lv_iconst (v := 0) hx hb (xb_d D_M_instanceNamed 15 rfl) (by decide) ?_
        exact am_M_instanceNamed_L26 l hfl D A σ MC MS h0 Qr (w_M_instanceNamed_L7 Qr n9) ih x0 x1 x2 x3 0 h hw p e s m args below meth c hC H locs ls k n hE (lv_sub hl [0, 1, 2, 3] rfl) hR hS (by omega) (by omega)
      · have hw := hw.2 hc6
        refine lv_iconst (v := 1) hx hb (xb_d D_M_instanceNamed 13 rfl) (by decide) ?_
        refine lv_goto (tgt := 26) hx hb (xb_d D_M_instanceNamed 14 rfl) rfl ?_
        exact am_M_instanceNamed_L26 l hfl D A σ MC MS h0 Qr (w_M_instanceNamed_L7 Qr n9) ih x0 x1 x2 x3 1 h hw p e s m args below meth c hC H locs ls k n hE (lv_sub hl [0, 1, 2, 3] rfl) hR hS (by omega) (by omega)

set_option maxHeartbeats 4000000 in
set_option maxRecDepth 100000 in
theorem ok_M_instanceNamed (l : Launch) (hfl : l.flags = pinnedFlags ++ [noTraceFlag]) (D : va_G) (A : Nat → Prop) (σ : Nat) (x0 : Nat) (x1 : Int32) (x2 : Int32) (h : xb_H) (Qr : Int32 → xb_H → Prop) (hw : w_M_instanceNamed x0 x1 x2 h Qr) : xt_Met l y_M_instanceNamed [.code y_M_instanceNamed b_M_instanceNamed 6 (some .int)] (xb_rm 2 0 0) (xb_Pc D A σ h [.ref x0, .int x1, .int x2]) (xb_Qc D A h (fun v h => ∃ r, v = some (.int r) ∧ Qr r h) (fun _ _ => False)) 0 0 A := by
  refine xb_ofAm (cc := b_M_instanceNamed) (by decide) (Nat.le_of_ble_eq_true rfl) ?_
  unfold w_M_instanceNamed at hw
  show xb_am l D A σ 2 0 0 h (fun v h => ∃ r, v = some (.int r) ∧ Qr r h) (fun _ _ => False) y_M_instanceNamed.cls y_M_instanceNamed.name b_M_instanceNamed 6 ([] : List ExceptionTableEntry) (some .int) 0 [(0, .ref x0), (1, .int x1), (2, .int x2)] [] h 0 0
  obtain ⟨MC, hMC⟩ : ∃ x, x = 0 := ⟨_, rfl⟩
  obtain ⟨MS, hMS⟩ : ∃ x, x = 0 := ⟨_, rfl⟩
  rw [show xb_am l D A σ 2 0 0 = xb_am l D A σ 2 MC MS by rw [hMC, hMS]]
  obtain ⟨h0, hh0⟩ : ∃ x, x = h := ⟨_, rfl⟩
  rw [show xb_am l D A σ 2 MC MS h = xb_am l D A σ 2 MC MS h0 by rw [hh0]]
  intro p e s m args below meth c hC H locs ls k n hE hl hR hS hk hn
  obtain ⟨hx, hb, hown, hlocks, htab, hml, hr, hB, hA, hnm⟩ := id hC
  have hts := hB.1.1.at args
  refine lv_aload_n hx hb (xb_d D_M_instanceNamed 0 rfl) rfl (lv_at hl 0 rfl) ?_
  obtain ⟨hk1, hw⟩ := hw
  refine xb_getI (C := R_M) (T := F_M) (N := 97) hx hb 8 42 hts fin_M hown hR hk1 (by decide) rfl (by decide) rfl (hts _ m_9b569c31) (fun _ h9 => h9) (xb_d D_M_instanceNamed 1 rfl) ?_
  refine lv_iconst (v := 1) hx hb (xb_d D_M_instanceNamed 2 rfl) (by decide) ?_
  refine lv_isub hx hb (xb_d D_M_instanceNamed 3 rfl) ?_
  obtain ⟨v2, ev2⟩ : ∃ x : Int32, x = ((xb_i h x0 42) - 1) := ⟨_, rfl⟩
  have hw := hw v2 ev2
  refine xt_numi (y := v2) ev2.symm ?_
  refine lv_istore_n hx hb (xb_d D_M_instanceNamed 4 rfl) rfl hl (by decide) rfl (fun ls hl => ?_)
  have hl : lv_has ls 6 [(3, .int v2), (0, .ref x0), (1, .int x1), (2, .int x2)] := hl
  obtain ⟨n8, hw⟩ := hw
  exact am_M_instanceNamed_L7 l hfl D A σ MC MS h0 Qr n8 x0 x1 x2 v2 h hw p e s m args below meth c hC H locs ls k n hE (lv_sub hl [1, 2, 3, 0] rfl) hR hS (by omega) (by omega)

set_option maxRecDepth 100000 in
def T_M_isGroup : List (Nat × Instr × Nat) := [(0, .iload_n 2, 1), (1, .ifCond .lt 10, 3), (4, .iload_n 1, 1), (5, .iload_n 2, 1), (6, .iadd, 1), (7, .iload_n 3, 1), (8, .if_icmp .lt 5, 3), (11, .iconst 0, 1), (12, .ireturn, 1), (13, .iconst 1, 1), (14, .istore 4, 2), (16, .iconst 1, 1), (17, .istore 5, 2), (19, .iload 5, 2), (21, .iload_n 2, 1), (22, .if_icmp .gt 40, 3), (25, .iload 4, 2), (27, .ifCond .eq 26, 3), (30, .aload_n 0, 1), (31, .getfield 14, 3), (34, .iload_n 1, 1), (35, .iload 5, 2), (37, .iadd, 1), (38, .baload, 1), (39, .sipush 192, 3), (42, .iand, 1), (43, .sipush 128, 3), (46, .if_icmp .ne 7, 3), (49, .iconst 1, 1), (50, .goto 4, 3), (53, .iconst 0, 1), (54, .istore 4, 2), (56, .iinc 5 1, 3), (59, .goto (-40), 3), (62, .aload_n 0, 1), (63, .getfield 14, 3), (66, .iload_n 1, 1), (67, .baload, 1), (68, .sipush 255, 3), (71, .iand, 1), (72, .istore 5, 2), (74, .iload_n 2, 1), (75, .ifCond .le 18, 3), (78, .aload_n 0, 1), (79, .getfield 14, 3), (82, .iload_n 1, 1), (83, .iconst 1, 1), (84, .iadd, 1), (85, .baload, 1), (86, .sipush 255, 3), (89, .iand, 1), (90, .goto 4, 3), (93, .iconst 0, 1), (94, .istore 6, 2), (96, .iload 4, 2), (98, .ifCond .eq 71, 3), (101, .iload 5, 2), (103, .sipush 224, 3), (106, .if_icmp .ne 11, 3), (109, .iload 6, 2), (111, .sipush 160, 3), (114, .if_icmp .lt 55, 3), (117, .iload 5, 2), (119, .sipush 237, 3), (122, .if_icmp .ne 11, 3), (125, .iload 6, 2), (127, .sipush 159, 3), (130, .if_icmp .gt 39, 3), (133, .iload 5, 2), (135, .sipush 240, 3), (138, .if_icmp .ne 11, 3), (141, .iload 6, 2), (143, .sipush 144, 3), (146, .if_icmp .lt 23, 3), (149, .iload 5, 2), (151, .sipush 244, 3), (154, .if_icmp .ne 11, 3), (157, .iload 6, 2), (159, .sipush 143, 3), (162, .if_icmp .gt 7, 3), (165, .iconst 1, 1), (166, .goto 4, 3), (169, .iconst 0, 1), (170, .ireturn, 1)]
theorem D_M_isGroup : ∀ q ∈ T_M_isGroup, decode b_M_isGroup q.1 = .ok (q.2.1, q.2.2) := by decide +kernel
def w_M_isGroup_L170 (Qr : Int32 → xb_H → Prop) (y0 : Int32) (h : xb_H) : Prop :=
    (y0 = 0 ∨ y0 = 1) ∧ Qr y0 h

def w_M_isGroup_L169 (Qr : Int32 → xb_H → Prop) (h : xb_H) : Prop :=
    w_M_isGroup_L170 Qr 0 h

def w_M_isGroup_L165 (Qr : Int32 → xb_H → Prop) (h : xb_H) : Prop :=
    w_M_isGroup_L170 Qr 1 h

def w_M_isGroup_L149 (Qr : Int32 → xb_H → Prop) (x5 : Int32) (x6 : Int32) (h : xb_H) : Prop :=
    ((¬ x5 = (244 : Int32) → w_M_isGroup_L165 Qr h) ∧ (x5 = (244 : Int32) → (((143 : Int32) < x6 → w_M_isGroup_L169 Qr h) ∧ (¬ (143 : Int32) < x6 → w_M_isGroup_L165 Qr h))))

def w_M_isGroup_L133 (Qr : Int32 → xb_H → Prop) (x5 : Int32) (x6 : Int32) (h : xb_H) : Prop :=
    ((¬ x5 = (240 : Int32) → w_M_isGroup_L149 Qr x5 x6 h) ∧ (x5 = (240 : Int32) → ((x6 < (144 : Int32) → w_M_isGroup_L169 Qr h) ∧ (¬ x6 < (144 : Int32) → w_M_isGroup_L149 Qr x5 x6 h))))

def w_M_isGroup_L117 (Qr : Int32 → xb_H → Prop) (x5 : Int32) (x6 : Int32) (h : xb_H) : Prop :=
    ((¬ x5 = (237 : Int32) → w_M_isGroup_L133 Qr x5 x6 h) ∧ (x5 = (237 : Int32) → (((159 : Int32) < x6 → w_M_isGroup_L169 Qr h) ∧ (¬ (159 : Int32) < x6 → w_M_isGroup_L133 Qr x5 x6 h))))

def w_M_isGroup_L94 (Qr : Int32 → xb_H → Prop) (x4 : Int32) (x5 : Int32) (y0 : Int32) (h : xb_H) : Prop :=
    ((x4 = (0 : Int32) → w_M_isGroup_L169 Qr h) ∧ (¬ x4 = (0 : Int32) → ((¬ x5 = (224 : Int32) → w_M_isGroup_L117 Qr x5 y0 h) ∧ (x5 = (224 : Int32) → ((y0 < (160 : Int32) → w_M_isGroup_L169 Qr h) ∧ (¬ y0 < (160 : Int32) → w_M_isGroup_L117 Qr x5 y0 h))))))

def w_M_isGroup_L54 (K19 : Nat → Int32 → Int32 → Int32 → Int32 → xb_H → Prop) (Qr : Int32 → xb_H → Prop) (x0 : Nat) (x1 : Int32) (x2 : Int32) (x5 : Int32) (y0 : Int32) (h : xb_H) : Prop :=
    K19 x0 x1 x2 y0 (x5 + 1) h

def w_M_isGroup_L53 (K19 : Nat → Int32 → Int32 → Int32 → Int32 → xb_H → Prop) (Qr : Int32 → xb_H → Prop) (x0 : Nat) (x1 : Int32) (x2 : Int32) (x5 : Int32) (h : xb_H) : Prop :=
    w_M_isGroup_L54 K19 Qr x0 x1 x2 x5 0 h

def w_M_isGroup_L19 (Qr : Int32 → xb_H → Prop) : Nat → Nat → Int32 → Int32 → Int32 → Int32 → xb_H → Prop
  | 0, _, _, _, _, _, _ => False
  | n9 + 1, x0, x1, x2, x4, x5, h =>
    ((x2 < x5 → xb_k h x0 = 9 ∧ ∃ b3 : Nat, (xb_r h x0 3) = some b3 ∧ xb_k h b3 = 100 ∧ vp_in x1 (xb_n h b3) ∧ ∀ v6 : Int32, v6 = ((xb_i h b3 (Int32.toNatClampNeg x1)) &&& 255) → ((x2 ≤ (0 : Int32) → w_M_isGroup_L94 Qr x4 v6 0 h) ∧ (¬ x2 ≤ (0 : Int32) → ∃ b8 : Nat, (xb_r h x0 3) = some b8 ∧ xb_k h b8 = 100 ∧ vp_in (x1 + 1) (xb_n h b8) ∧ w_M_isGroup_L94 Qr x4 v6 ((xb_i h b8 (Int32.toNatClampNeg (x1 + 1))) &&& 255) h))) ∧ (¬ x2 < x5 → ((x4 = (0 : Int32) → w_M_isGroup_L53 (w_M_isGroup_L19 Qr n9) Qr x0 x1 x2 x5 h) ∧ (¬ x4 = (0 : Int32) → xb_k h x0 = 9 ∧ ∃ b13 : Nat, (xb_r h x0 3) = some b13 ∧ xb_k h b13 = 100 ∧ vp_in (x1 + x5) (xb_n h b13) ∧ ((¬ ((xb_i h b13 (Int32.toNatClampNeg (x1 + x5))) &&& 192) = (128 : Int32) → w_M_isGroup_L53 (w_M_isGroup_L19 Qr n9) Qr x0 x1 x2 x5 h) ∧ (((xb_i h b13 (Int32.toNatClampNeg (x1 + x5))) &&& 192) = (128 : Int32) → w_M_isGroup_L54 (w_M_isGroup_L19 Qr n9) Qr x0 x1 x2 x5 1 h))))))

def w_M_isGroup_L11 (Qr : Int32 → xb_H → Prop) (h : xb_H) : Prop :=
    Qr 0 h

def w_M_isGroup (x0 : Nat) (x1 : Int32) (x2 : Int32) (x3 : Int32) (h : xb_H) (Qr : Int32 → xb_H → Prop) : Prop :=
    ((x2 < (0 : Int32) → w_M_isGroup_L11 Qr h) ∧ (¬ x2 < (0 : Int32) → (((x1 + x2) < x3 → (∃ n8 : Nat, w_M_isGroup_L19 Qr n8 x0 x1 x2 1 1 h)) ∧ (¬ (x1 + x2) < x3 → w_M_isGroup_L11 Qr h))))

set_option maxHeartbeats 4000000 in
set_option maxRecDepth 100000 in
theorem am_M_isGroup_L170 (l : Launch) (hfl : l.flags = pinnedFlags ++ [noTraceFlag]) (D : va_G) (A : Nat → Prop) (σ MC MS : Nat) (h0 : xb_H) (Qr : Int32 → xb_H → Prop) (y0 : Int32) (h : xb_H) (hw : w_M_isGroup_L170 Qr y0 h) : xb_am l D A σ 2 MC MS h0 (fun v h => ∃ r, v = some (.int r) ∧ Qr r h) (fun _ _ => False) y_M_isGroup.cls y_M_isGroup.name b_M_isGroup 7 ([] : List ExceptionTableEntry) (some .boolean) 170 [] [.int y0] h 0 0 := by
  unfold w_M_isGroup_L170 at hw
  intro p e s m args below meth c hC H locs ls k n hE hl hR hS hk hn
  obtain ⟨hx, hb, hown, hlocks, htab, hml, hr, hB, hA, hnm⟩ := id hC
  have hts := hB.1.1.at args
  exact xb_zret hx hb hr hlocks (show k ≤ MC by omega) (show n ≤ MS by omega) hw.1 hE hR hS (xb_d D_M_isGroup 83 rfl) hw.2

set_option maxHeartbeats 4000000 in
set_option maxRecDepth 100000 in
theorem am_M_isGroup_L169 (l : Launch) (hfl : l.flags = pinnedFlags ++ [noTraceFlag]) (D : va_G) (A : Nat → Prop) (σ MC MS : Nat) (h0 : xb_H) (Qr : Int32 → xb_H → Prop) (h : xb_H) (hw : w_M_isGroup_L169 Qr h) : xb_am l D A σ 2 MC MS h0 (fun v h => ∃ r, v = some (.int r) ∧ Qr r h) (fun _ _ => False) y_M_isGroup.cls y_M_isGroup.name b_M_isGroup 7 ([] : List ExceptionTableEntry) (some .boolean) 169 [] [] h 0 0 := by
  unfold w_M_isGroup_L169 at hw
  intro p e s m args below meth c hC H locs ls k n hE hl hR hS hk hn
  obtain ⟨hx, hb, hown, hlocks, htab, hml, hr, hB, hA, hnm⟩ := id hC
  have hts := hB.1.1.at args
  refine lv_iconst (v := 0) hx hb (xb_d D_M_isGroup 82 rfl) (by decide) ?_
  exact am_M_isGroup_L170 l hfl D A σ MC MS h0 Qr 0 h hw p e s m args below meth c hC H locs ls k n hE (lv_sub hl [] rfl) hR hS (by omega) (by omega)

set_option maxHeartbeats 4000000 in
set_option maxRecDepth 100000 in
theorem am_M_isGroup_L165 (l : Launch) (hfl : l.flags = pinnedFlags ++ [noTraceFlag]) (D : va_G) (A : Nat → Prop) (σ MC MS : Nat) (h0 : xb_H) (Qr : Int32 → xb_H → Prop) (h : xb_H) (hw : w_M_isGroup_L165 Qr h) : xb_am l D A σ 2 MC MS h0 (fun v h => ∃ r, v = some (.int r) ∧ Qr r h) (fun _ _ => False) y_M_isGroup.cls y_M_isGroup.name b_M_isGroup 7 ([] : List ExceptionTableEntry) (some .boolean) 165 [] [] h 0 0 := by
  unfold w_M_isGroup_L165 at hw
  intro p e s m args below meth c hC H locs ls k n hE hl hR hS hk hn
  obtain ⟨hx, hb, hown, hlocks, htab, hml, hr, hB, hA, hnm⟩ := id hC
  have hts := hB.1.1.at args
  refine lv_iconst (v := 1) hx hb (xb_d D_M_isGroup 80 rfl) (by decide) ?_
  refine lv_goto (tgt := 170) hx hb (xb_d D_M_isGroup 81 rfl) rfl ?_
  exact am_M_isGroup_L170 l hfl D A σ MC MS h0 Qr 1 h hw p e s m args below meth c hC H locs ls k n hE (lv_sub hl [] rfl) hR hS (by omega) (by omega)

set_option maxHeartbeats 4000000 in
set_option maxRecDepth 100000 in
theorem am_M_isGroup_L149 (l : Launch) (hfl : l.flags = pinnedFlags ++ [noTraceFlag]) (D : va_G) (A : Nat → Prop) (σ MC MS : Nat) (h0 : xb_H) (Qr : Int32 → xb_H → Prop) (x5 : Int32) (x6 : Int32) (h : xb_H) (hw : w_M_isGroup_L149 Qr x5 x6 h) : xb_am l D A σ 2 MC MS h0 (fun v h => ∃ r, v = some (.int r) ∧ Qr r h) (fun _ _ => False) y_M_isGroup.cls y_M_isGroup.name b_M_isGroup 7 ([] : List ExceptionTableEntry) (some .boolean) 149 [(5, .int x5), (6, .int x6)] [] h 0 0 := by
  unfold w_M_isGroup_L149 at hw
  intro p e s m args below meth c hC H locs ls k n hE hl hR hS hk hn
  obtain ⟨hx, hb, hown, hlocks, htab, hml, hr, hB, hA, hnm⟩ := id hC
  have hts := hB.1.1.at args
  refine lv_iload hx hb (xb_d D_M_isGroup 74 rfl) (lv_at hl 0 rfl) ?_
  refine lv_sipush (v := 244) hx hb (xb_d D_M_isGroup 75 rfl) (by decide) ?_
  refine lv_icmp_ne (tgt := 165) hx hb (xb_d D_M_isGroup 76 rfl) rfl (fun hc1 => ?_) (fun hc1 => ?_)
  · have hw := hw.1 hc1
    exact am_M_isGroup_L165 l hfl D A σ MC MS h0 Qr h hw p e s m args below meth c hC H locs ls k n hE (lv_sub hl [] rfl) hR hS (by omega) (by omega)
  · have hw := hw.2 hc1
    refine lv_iload hx hb (xb_d D_M_isGroup 77 rfl) (lv_at hl 1 rfl) ?_
    refine lv_sipush (v := 143) hx hb (xb_d D_M_isGroup 78 rfl) (by decide) ?_
    refine lv_icmp_gt (tgt := 169) hx hb (xb_d D_M_isGroup 79 rfl) rfl (fun hc2 => ?_) (fun hc2 => ?_)
    · have hw := hw.1 hc2
      exact am_M_isGroup_L169 l hfl D A σ MC MS h0 Qr h hw p e s m args below meth c hC H locs ls k n hE (lv_sub hl [] rfl) hR hS (by omega) (by omega)
    · have hw := hw.2 hc2
      exact am_M_isGroup_L165 l hfl D A σ MC MS h0 Qr h hw p e s m args below meth c hC H locs ls k n hE (lv_sub hl [] rfl) hR hS (by omega) (by omega)

set_option maxHeartbeats 4000000 in
set_option maxRecDepth 100000 in
theorem am_M_isGroup_L133 (l : Launch) (hfl : l.flags = pinnedFlags ++ [noTraceFlag]) (D : va_G) (A : Nat → Prop) (σ MC MS : Nat) (h0 : xb_H) (Qr : Int32 → xb_H → Prop) (x5 : Int32) (x6 : Int32) (h : xb_H) (hw : w_M_isGroup_L133 Qr x5 x6 h) : xb_am l D A σ 2 MC MS h0 (fun v h => ∃ r, v = some (.int r) ∧ Qr r h) (fun _ _ => False) y_M_isGroup.cls y_M_isGroup.name b_M_isGroup 7 ([] : List ExceptionTableEntry) (some .boolean) 133 [(5, .int x5), (6, .int x6)] [] h 0 0 := by
  unfold w_M_isGroup_L133 at hw
  intro p e s m args below meth c hC H locs ls k n hE hl hR hS hk hn
  obtain ⟨hx, hb, hown, hlocks, htab, hml, hr, hB, hA, hnm⟩ := id hC
  have hts := hB.1.1.at args
  refine lv_iload hx hb (xb_d D_M_isGroup 68 rfl) (lv_at hl 0 rfl) ?_
  refine lv_sipush (v := 240) hx hb (xb_d D_M_isGroup 69 rfl) (by decide) ?_
  refine lv_icmp_ne (tgt := 149) hx hb (xb_d D_M_isGroup 70 rfl) rfl (fun hc1 => ?_) (fun hc1 => ?_)
  · have hw := hw.1 hc1
    exact am_M_isGroup_L149 l hfl D A σ MC MS h0 Qr x5 x6 h hw p e s m args below meth c hC H locs ls k n hE (lv_sub hl [0, 1] rfl) hR hS (by omega) (by omega)
  · have hw := hw.2 hc1
    refine lv_iload hx hb (xb_d D_M_isGroup 71 rfl) (lv_at hl 1 rfl) ?_
    refine lv_sipush (v := 144) hx hb (xb_d D_M_isGroup 72 rfl) (by decide) ?_
    refine lv_icmp_lt (tgt := 169) hx hb (xb_d D_M_isGroup 73 rfl) rfl (fun hc2 => ?_) (fun hc2 => ?_)
    · have hw := hw.1 hc2
      exact am_M_isGroup_L169 l hfl D A σ MC MS h0 Qr h hw p e s m args below meth c hC H locs ls k n hE (lv_sub hl [] rfl) hR hS (by omega) (by omega)
    · have hw := hw.2 hc2
      exact am_M_isGroup_L149 l hfl D A σ MC MS h0 Qr x5 x6 h hw p e s m args below meth c hC H locs ls k n hE (lv_sub hl [0, 1] rfl) hR hS (by omega) (by omega)

set_option maxHeartbeats 4000000 in
set_option maxRecDepth 100000 in
theorem am_M_isGroup_L117 (l : Launch) (hfl : l.flags = pinnedFlags ++ [noTraceFlag]) (D : va_G) (A : Nat → Prop) (σ MC MS : Nat) (h0 : xb_H) (Qr : Int32 → xb_H → Prop) (x5 : Int32) (x6 : Int32) (h : xb_H) (hw : w_M_isGroup_L117 Qr x5 x6 h) : xb_am l D A σ 2 MC MS h0 (fun v h => ∃ r, v = some (.int r) ∧ Qr r h) (fun _ _ => False) y_M_isGroup.cls y_M_isGroup.name b_M_isGroup 7 ([] : List ExceptionTableEntry) (some .boolean) 117 [(5, .int x5), (6, .int x6)] [] h 0 0 := by
  unfold w_M_isGroup_L117 at hw
  intro p e s m args below meth c hC H locs ls k n hE hl hR hS hk hn
  obtain ⟨hx, hb, hown, hlocks, htab, hml, hr, hB, hA, hnm⟩ := id hC
  have hts := hB.1.1.at args
  refine lv_iload hx hb (xb_d D_M_isGroup 62 rfl) (lv_at hl 0 rfl) ?_
  refine lv_sipush (v := 237) hx hb (xb_d D_M_isGroup 63 rfl) (by decide) ?_
  refine lv_icmp_ne (tgt := 133) hx hb (xb_d D_M_isGroup 64 rfl) rfl (fun hc1 => ?_) (fun hc1 => ?_)
  · have hw := hw.1 hc1
    exact am_M_isGroup_L133 l hfl D A σ MC MS h0 Qr x5 x6 h hw p e s m args below meth c hC H locs ls k n hE (lv_sub hl [0, 1] rfl) hR hS (by omega) (by omega)
  · have hw := hw.2 hc1
    refine lv_iload hx hb (xb_d D_M_isGroup 65 rfl) (lv_at hl 1 rfl) ?_
    refine lv_sipush (v := 159) hx hb (xb_d D_M_isGroup 66 rfl) (by decide) ?_
    refine lv_icmp_gt (tgt := 169) hx hb (xb_d D_M_isGroup 67 rfl) rfl (fun hc2 => ?_) (fun hc2 => ?_)
    · have hw := hw.1 hc2
      exact am_M_isGroup_L169 l hfl D A σ MC MS h0 Qr h hw p e s m args below meth c hC H locs ls k n hE (lv_sub hl [] rfl) hR hS (by omega) (by omega)
    · have hw := hw.2 hc2
      exact am_M_isGroup_L133 l hfl D A σ MC MS h0 Qr x5 x6 h hw p e s m args below meth c hC H locs ls k n hE (lv_sub hl [0, 1] rfl) hR hS (by omega) (by omega)

set_option maxHeartbeats 4000000 in
set_option maxRecDepth 100000 in
theorem am_M_isGroup_L94 (l : Launch) (hfl : l.flags = pinnedFlags ++ [noTraceFlag]) (D : va_G) (A : Nat → Prop) (σ MC MS : Nat) (h0 : xb_H) (Qr : Int32 → xb_H → Prop) (x4 : Int32) (x5 : Int32) (y0 : Int32) (h : xb_H) (hw : w_M_isGroup_L94 Qr x4 x5 y0 h) : xb_am l D A σ 2 MC MS h0 (fun v h => ∃ r, v = some (.int r) ∧ Qr r h) (fun _ _ => False) y_M_isGroup.cls y_M_isGroup.name b_M_isGroup 7 ([] : List ExceptionTableEntry) (some .boolean) 94 [(4, .int x4), (5, .int x5)] [.int y0] h 0 0 := by
  unfold w_M_isGroup_L94 at hw
  intro p e s m args below meth c hC H locs ls k n hE hl hR hS hk hn
  obtain ⟨hx, hb, hown, hlocks, htab, hml, hr, hB, hA, hnm⟩ := id hC
  have hts := hB.1.1.at args
  refine lv_istore hx hb (xb_d D_M_isGroup 53 rfl) hl (by decide) rfl (fun ls hl => ?_)
  have hl : lv_has ls 7 [(6, .int y0), (4, .int x4), (5, .int x5)] := hl
  refine lv_iload hx hb (xb_d D_M_isGroup 54 rfl) (lv_at hl 1 rfl) ?_
  refine lv_if_eq (tgt := 169) hx hb (xb_d D_M_isGroup 55 rfl) rfl (fun hc1 => ?_) (fun hc1 => ?_)
  · have hw := hw.1 hc1
    exact am_M_isGroup_L169 l hfl D A σ MC MS h0 Qr h hw p e s m args below meth c hC H locs ls k n hE (lv_sub hl [] rfl) hR hS (by omega) (by omega)
  · have hw := hw.2 hc1
    refine lv_iload hx hb (xb_d D_M_isGroup 56 rfl) (lv_at hl 2 rfl) ?_
    refine lv_sipush (v := 224) hx hb (xb_d D_M_isGroup 57 rfl) (by decide) ?_
    refine lv_icmp_ne (tgt := 117) hx hb (xb_d D_M_isGroup 58 rfl) rfl (fun hc2 => ?_) (fun hc2 => ?_)
    · have hw := hw.1 hc2
      exact am_M_isGroup_L117 l hfl D A σ MC MS h0 Qr x5 y0 h hw p e s m args below meth c hC H locs ls k n hE (lv_sub hl [2, 0] rfl) hR hS (by omega) (by omega)
    · have hw := hw.2 hc2
      refine lv_iload hx hb (xb_d D_M_isGroup 59 rfl) (lv_at hl 0 rfl) ?_
      refine lv_sipush (v := 160) hx hb (xb_d D_M_isGroup 60 rfl) (by decide) ?_
      refine lv_icmp_lt (tgt := 169) hx hb (xb_d D_M_isGroup 61 rfl) rfl (fun hc3 => ?_) (fun hc3 => ?_)
      · have hw := hw.1 hc3
        exact am_M_isGroup_L169 l hfl D A σ MC MS h0 Qr h hw p e s m args below meth c hC H locs ls k n hE (lv_sub hl [] rfl) hR hS (by omega) (by omega)
      · have hw := hw.2 hc3
        exact am_M_isGroup_L117 l hfl D A σ MC MS h0 Qr x5 y0 h hw p e s m args below meth c hC H locs ls k n hE (lv_sub hl [2, 0] rfl) hR hS (by omega) (by omega)

set_option maxHeartbeats 4000000 in
set_option maxRecDepth 100000 in
theorem am_M_isGroup_L54 (l : Launch) (hfl : l.flags = pinnedFlags ++ [noTraceFlag]) (D : va_G) (A : Nat → Prop) (σ MC MS : Nat) (h0 : xb_H) (Qr : Int32 → xb_H → Prop) (K19 : Nat → Int32 → Int32 → Int32 → Int32 → xb_H → Prop) (hK19 : ∀ (x0 : Nat) (x1 : Int32) (x2 : Int32) (x4 : Int32) (x5 : Int32) (h : xb_H), K19 x0 x1 x2 x4 x5 h → xb_am l D A σ 2 MC MS h0 (fun v h => ∃ r, v = some (.int r) ∧ Qr r h) (fun _ _ => False) y_M_isGroup.cls y_M_isGroup.name b_M_isGroup 7 ([] : List ExceptionTableEntry) (some .boolean) 19 [(0, .ref x0), (1, .int x1), (2, .int x2), (4, .int x4), (5, .int x5)] [] h 0 0) (x0 : Nat) (x1 : Int32) (x2 : Int32) (x5 : Int32) (y0 : Int32) (h : xb_H) (hw : w_M_isGroup_L54 K19 Qr x0 x1 x2 x5 y0 h) : xb_am l D A σ 2 MC MS h0 (fun v h => ∃ r, v = some (.int r) ∧ Qr r h) (fun _ _ => False) y_M_isGroup.cls y_M_isGroup.name b_M_isGroup 7 ([] : List ExceptionTableEntry) (some .boolean) 54 [(0, .ref x0), (1, .int x1), (2, .int x2), (5, .int x5)] [.int y0] h 0 0 := by
  unfold w_M_isGroup_L54 at hw
  intro p e s m args below meth c hC H locs ls k n hE hl hR hS hk hn
  obtain ⟨hx, hb, hown, hlocks, htab, hml, hr, hB, hA, hnm⟩ := id hC
  have hts := hB.1.1.at args
  refine lv_istore hx hb (xb_d D_M_isGroup 31 rfl) hl (by decide) rfl (fun ls hl => ?_)
  have hl : lv_has ls 7 [(4, .int y0), (0, .ref x0), (1, .int x1), (2, .int x2), (5, .int x5)] := hl
  refine lv_iinc (v := (x5 + 1)) (k := 4) hx hb (xb_d D_M_isGroup 32 rfl) hl rfl (by first | rfl | decide) (by decide) rfl (fun ls hl => ?_)
  have hl : lv_has ls 7 [(5, .int (x5 + 1)), (4, .int y0), (0, .ref x0), (1, .int x1), (2, .int x2)] := hl
  refine lv_goto (tgt := 19) hx hb (xb_d D_M_isGroup 33 rfl) rfl ?_
  exact hK19 x0 x1 x2 y0 (x5 + 1) h hw p e s m args below meth c hC H locs ls k n hE (lv_sub hl [2, 3, 4, 1, 0] rfl) hR hS (by omega) (by omega)

set_option maxHeartbeats 4000000 in
set_option maxRecDepth 100000 in
theorem am_M_isGroup_L53 (l : Launch) (hfl : l.flags = pinnedFlags ++ [noTraceFlag]) (D : va_G) (A : Nat → Prop) (σ MC MS : Nat) (h0 : xb_H) (Qr : Int32 → xb_H → Prop) (K19 : Nat → Int32 → Int32 → Int32 → Int32 → xb_H → Prop) (hK19 : ∀ (x0 : Nat) (x1 : Int32) (x2 : Int32) (x4 : Int32) (x5 : Int32) (h : xb_H), K19 x0 x1 x2 x4 x5 h → xb_am l D A σ 2 MC MS h0 (fun v h => ∃ r, v = some (.int r) ∧ Qr r h) (fun _ _ => False) y_M_isGroup.cls y_M_isGroup.name b_M_isGroup 7 ([] : List ExceptionTableEntry) (some .boolean) 19 [(0, .ref x0), (1, .int x1), (2, .int x2), (4, .int x4), (5, .int x5)] [] h 0 0) (x0 : Nat) (x1 : Int32) (x2 : Int32) (x5 : Int32) (h : xb_H) (hw : w_M_isGroup_L53 K19 Qr x0 x1 x2 x5 h) : xb_am l D A σ 2 MC MS h0 (fun v h => ∃ r, v = some (.int r) ∧ Qr r h) (fun _ _ => False) y_M_isGroup.cls y_M_isGroup.name b_M_isGroup 7 ([] : List ExceptionTableEntry) (some .boolean) 53 [(0, .ref x0), (1, .int x1), (2, .int x2), (5, .int x5)] [] h 0 0 := by
  unfold w_M_isGroup_L53 at hw
  intro p e s m args below meth c hC H locs ls k n hE hl hR hS hk hn
  obtain ⟨hx, hb, hown, hlocks, htab, hml, hr, hB, hA, hnm⟩ := id hC
  have hts := hB.1.1.at args
  refine lv_iconst (v := 0) hx hb (xb_d D_M_isGroup 30 rfl) (by decide) ?_
  exact am_M_isGroup_L54 l hfl D A σ MC MS h0 Qr K19 hK19 x0 x1 x2 x5 0 h hw p e s m args below meth c hC H locs ls k n hE (lv_sub hl [0, 1, 2, 3] rfl) hR hS (by omega) (by omega)

set_option maxHeartbeats 4000000 in
set_option maxRecDepth 100000 in
theorem am_M_isGroup_L19 (l : Launch) (hfl : l.flags = pinnedFlags ++ [noTraceFlag]) (D : va_G) (A : Nat → Prop) (σ MC MS : Nat) (h0 : xb_H) (Qr : Int32 → xb_H → Prop) (n9 : Nat) : ∀ (x0 : Nat) (x1 : Int32) (x2 : Int32) (x4 : Int32) (x5 : Int32) (h : xb_H), w_M_isGroup_L19 Qr n9 x0 x1 x2 x4 x5 h → xb_am l D A σ 2 MC MS h0 (fun v h => ∃ r, v = some (.int r) ∧ Qr r h) (fun _ _ => False) y_M_isGroup.cls y_M_isGroup.name b_M_isGroup 7 ([] : List ExceptionTableEntry) (some .boolean) 19 [(0, .ref x0), (1, .int x1), (2, .int x2), (4, .int x4), (5, .int x5)] [] h 0 0 := by
  induction n9 with
  | zero => intro x0 x1 x2 x4 x5 h hw; exact False.elim hw
  | succ n9 ih =>
    intro x0 x1 x2 x4 x5 h hw
    unfold w_M_isGroup_L19 at hw
    intro p e s m args below meth c hC H locs ls k n hE hl hR hS hk hn
    obtain ⟨hx, hb, hown, hlocks, htab, hml, hr, hB, hA, hnm⟩ := id hC
    have hts := hB.1.1.at args
    refine lv_iload hx hb (xb_d D_M_isGroup 13 rfl) (lv_at hl 4 rfl) ?_
    refine lv_iload_n hx hb (xb_d D_M_isGroup 14 rfl) rfl (lv_at hl 2 rfl) ?_
    refine lv_icmp_gt (tgt := 62) hx hb (xb_d D_M_isGroup 15 rfl) rfl (fun hc1 => ?_) (fun hc1 => ?_)
    · have hw := hw.1 hc1
      refine lv_aload_n hx hb (xb_d D_M_isGroup 34 rfl) rfl (lv_at hl 0 rfl) ?_
      obtain ⟨hk2, hw⟩ := hw
      refine xb_getP (C := R_M) (T := F_M) (N := 97) hx hb 8 3 hts fin_M hown hR hk2 (by decide) rfl (by decide) rfl (hts _ m_4f0568af) (fun _ h9 => h9) (xb_d D_M_isGroup 35 rfl) ?_
      obtain ⟨b3, eb3, hw⟩ := hw
      refine xb_some eb3 ?_
      refine lv_iload_n hx hb (xb_d D_M_isGroup 36 rfl) rfl (lv_at hl 1 rfl) ?_
      obtain ⟨hk5, hw⟩ := hw
      obtain ⟨hi4, hw⟩ := hw
      refine xb_bald hx hb hR hk5 hi4 (xb_d D_M_isGroup 37 rfl) ?_
      refine lv_sipush (v := 255) hx hb (xb_d D_M_isGroup 38 rfl) (by decide) ?_
      refine lv_iand hx hb (xb_d D_M_isGroup 39 rfl) ?_
      obtain ⟨v6, ev6⟩ : ∃ x : Int32, x = ((xb_i h b3 (Int32.toNatClampNeg x1)) &&& 255) := ⟨_, rfl⟩
      have hw := hw v6 ev6
      refine xt_numi (y := v6) ev6.symm ?_
      refine lv_istore hx hb (xb_d D_M_isGroup 40 rfl) hl (by decide) rfl (fun ls hl => ?_)
      have hl : lv_has ls 7 [(5, .int v6), (0, .ref x0), (1, .int x1), (2, .int x2), (4, .int x4)] := hl
      refine lv_iload_n hx hb (xb_d D_M_isGroup 41 rfl) rfl (lv_at hl 3 rfl) ?_
      refine lv_if_le (tgt := 93) hx hb (xb_d D_M_isGroup 42 rfl) rfl (fun hc7 => ?_) (fun hc7 => ?_)
      · have hw := hw.1 hc7
        refine lv_iconst (v := 0) hx hb (xb_d D_M_isGroup 52 rfl) (by decide) ?_
        exact am_M_isGroup_L94 l hfl D A σ MC MS h0 Qr x4 v6 0 h hw p e s m args below meth c hC H locs ls k n hE (lv_sub hl [4, 0] rfl) hR hS (by omega) (by omega)
      · have hw := hw.2 hc7
        refine lv_aload_n hx hb (xb_d D_M_isGroup 43 rfl) rfl (lv_at hl 1 rfl) ?_
        refine xb_getP (C := R_M) (T := F_M) (N := 97) hx hb 8 3 hts fin_M hown hR hk2 (by decide) rfl (by decide) rfl (hts _ m_4f0568af) (fun _ h9 => h9) (xb_d D_M_isGroup 44 rfl) ?_
        obtain ⟨b8, eb8, hw⟩ := hw
        refine xb_some eb8 ?_
        refine lv_iload_n hx hb (xb_d D_M_isGroup 45 rfl) rfl (lv_at hl 2 rfl) ?_
        refine lv_iconst (v := 1) hx hb (xb_d D_M_isGroup 46 rfl) (by decide) ?_
        refine lv_iadd hx hb (xb_d D_M_isGroup 47 rfl) ?_
        obtain ⟨hk10, hw⟩ := hw
        obtain ⟨hi9, hw⟩ := hw
        refine xb_bald hx hb hR hk10 hi9 (xb_d D_M_isGroup 48 rfl) ?_
        refine lv_sipush (v := 255) hx hb (xb_d D_M_isGroup 49 rfl) (by decide) ?_
        refine lv_iand hx hb (xb_d D_M_isGroup 50 rfl) ?_
        refine lv_goto (tgt := 94) hx hb (xb_d D_M_isGroup 51 rfl) rfl ?_
        exact am_M_isGroup_L94 l hfl D A σ MC MS h0 Qr x4 v6 ((xb_i h b8 (Int32.toNatClampNeg (x1 + 1))) &&& 255) h hw p e s m args below meth c hC H locs ls k n hE (lv_sub hl [4, 0] rfl) hR hS (by omega) (by omega)
    · have hw := hw.2 hc1
      refine lv_iload hx hb (xb_d D_M_isGroup 16 rfl) (lv_at hl 3 rfl) ?_
      refine lv_if_eq (tgt := 53) hx hb (xb_d D_M_isGroup 17 rfl) rfl (fun hc11 => ?_) (fun hc11 => ?_)
      · have hw := hw.1 hc11
        exact am_M_isGroup_L53 l hfl D A σ MC MS h0 Qr (w_M_isGroup_L19 Qr n9) ih x0 x1 x2 x5 h hw p e s m args below meth c hC H locs ls k n hE (lv_sub hl [0, 1, 2, 4] rfl) hR hS (by omega) (by omega)
      · have hw := hw.2 hc11
        refine lv_aload_n hx hb (xb_d D_M_isGroup 18 rfl) rfl (lv_at hl 0 rfl) ?_
        obtain ⟨hk12, hw⟩ := hw
        refine xb_getP (C := R_M) (T := F_M) (N := 97) hx hb 8 3 hts fin_M hown hR hk12 (by decide) rfl (by decide) rfl (hts _ m_4f0568af) (fun _ h9 => h9) (xb_d D_M_isGroup 19 rfl) ?_
        obtain ⟨b13, eb13, hw⟩ := hw
        refine xb_some eb13 ?_
        refine lv_iload_n hx hb (xb_d D_M_isGroup 20 rfl) rfl (lv_at hl 1 rfl) ?_
        refine lv_iload hx hb (xb_d D_M_isGroup 21 rfl) (lv_at hl 4 rfl) ?_
        refine lv_iadd hx hb (xb_d D_M_isGroup 22 rfl) ?_
        obtain ⟨hk15, hw⟩ := hw
        obtain ⟨hi14, hw⟩ := hw
        refine xb_bald hx hb hR hk15 hi14 (xb_d D_M_isGroup 23 rfl) ?_
        refine lv_sipush (v := 192) hx hb (xb_d D_M_isGroup 24 rfl) (by decide) ?_
        refine lv_iand hx hb (xb_d D_M_isGroup 25 rfl) ?_
        refine lv_sipush (v := 128) hx hb (xb_d D_M_isGroup 26 rfl) (by decide) ?_
        refine lv_icmp_ne (tgt := 53) hx hb (xb_d D_M_isGroup 27 rfl) rfl (fun hc16 => ?_) (fun hc16 => ?_)
        · have hw := hw.1 hc16
          exact am_M_isGroup_L53 l hfl D A σ MC MS h0 Qr (w_M_isGroup_L19 Qr n9) ih x0 x1 x2 x5 h hw p e s m args below meth c hC H locs ls k n hE (lv_sub hl [0, 1, 2, 4] rfl) hR hS (by omega) (by omega)
        · have hw := hw.2 hc16
          refine lv_iconst (v := 1) hx hb (xb_d D_M_isGroup 28 rfl) (by decide) ?_
          refine lv_goto (tgt := 54) hx hb (xb_d D_M_isGroup 29 rfl) rfl ?_
          exact am_M_isGroup_L54 l hfl D A σ MC MS h0 Qr (w_M_isGroup_L19 Qr n9) ih x0 x1 x2 x5 1 h hw p e s m args below meth c hC H locs ls k n hE (lv_sub hl [0, 1, 2, 4] rfl) hR hS (by omega) (by omega)

set_option maxHeartbeats 4000000 in
set_option maxRecDepth 100000 in
theorem am_M_isGroup_L11 (l : Launch) (hfl : l.flags = pinnedFlags ++ [noTraceFlag]) (D : va_G) (A : Nat → Prop) (σ MC MS : Nat) (h0 : xb_H) (Qr : Int32 → xb_H → Prop) (h : xb_H) (hw : w_M_isGroup_L11 Qr h) : xb_am l D A σ 2 MC MS h0 (fun v h => ∃ r, v = some (.int r) ∧ Qr r h) (fun _ _ => False) y_M_isGroup.cls y_M_isGroup.name b_M_isGroup 7 ([] : List ExceptionTableEntry) (some .boolean) 11 [] [] h 0 0 := by
  unfold w_M_isGroup_L11 at hw
  intro p e s m args below meth c hC H locs ls k n hE hl hR hS hk hn
  obtain ⟨hx, hb, hown, hlocks, htab, hml, hr, hB, hA, hnm⟩ := id hC
  have hts := hB.1.1.at args
  refine lv_iconst (v := 0) hx hb (xb_d D_M_isGroup 7 rfl) (by decide) ?_
  exact xb_zret hx hb hr hlocks (show k ≤ MC by omega) (show n ≤ MS by omega) (by decide) hE hR hS (xb_d D_M_isGroup 8 rfl) hw

set_option maxHeartbeats 4000000 in
set_option maxRecDepth 100000 in
theorem ok_M_isGroup (l : Launch) (hfl : l.flags = pinnedFlags ++ [noTraceFlag]) (D : va_G) (A : Nat → Prop) (σ : Nat) (x0 : Nat) (x1 : Int32) (x2 : Int32) (x3 : Int32) (h : xb_H) (Qr : Int32 → xb_H → Prop) (hw : w_M_isGroup x0 x1 x2 x3 h Qr) : xt_Met l y_M_isGroup [.code y_M_isGroup b_M_isGroup 7 (some .boolean)] (xb_rm 2 0 0) (xb_Pc D A σ h [.ref x0, .int x1, .int x2, .int x3]) (xb_Qc D A h (fun v h => ∃ r, v = some (.int r) ∧ Qr r h) (fun _ _ => False)) 0 0 A := by
  refine xb_ofAm (cc := b_M_isGroup) (by decide) (Nat.le_of_ble_eq_true rfl) ?_
  unfold w_M_isGroup at hw
  show xb_am l D A σ 2 0 0 h (fun v h => ∃ r, v = some (.int r) ∧ Qr r h) (fun _ _ => False) y_M_isGroup.cls y_M_isGroup.name b_M_isGroup 7 ([] : List ExceptionTableEntry) (some .boolean) 0 [(0, .ref x0), (1, .int x1), (2, .int x2), (3, .int x3)] [] h 0 0
  obtain ⟨MC, hMC⟩ : ∃ x, x = 0 := ⟨_, rfl⟩
  obtain ⟨MS, hMS⟩ : ∃ x, x = 0 := ⟨_, rfl⟩
  rw [show xb_am l D A σ 2 0 0 = xb_am l D A σ 2 MC MS by rw [hMC, hMS]]
  obtain ⟨h0, hh0⟩ : ∃ x, x = h := ⟨_, rfl⟩
  rw [show xb_am l D A σ 2 MC MS h = xb_am l D A σ 2 MC MS h0 by rw [hh0]]
  intro p e s m args below meth c hC H locs ls k n hE hl hR hS hk hn
  obtain ⟨hx, hb, hown, hlocks, htab, hml, hr, hB, hA, hnm⟩ := id hC
  have hts := hB.1.1.at args
  refine lv_iload_n hx hb (xb_d D_M_isGroup 0 rfl) rfl (lv_at hl 2 rfl) ?_
  refine lv_if_lt (tgt := 11) hx hb (xb_d D_M_isGroup 1 rfl) rfl (fun hc1 => ?_) (fun hc1 => ?_)
  · have hw := hw.1 hc1
    exact am_M_isGroup_L11 l hfl D A σ MC MS h0 Qr h hw p e s m args below meth c hC H locs ls k n hE (lv_sub hl [] rfl) hR hS (by omega) (by omega)
  · have hw := hw.2 hc1
    refine lv_iload_n hx hb (xb_d D_M_isGroup 2 rfl) rfl (lv_at hl 1 rfl) ?_
    refine lv_iload_n hx hb (xb_d D_M_isGroup 3 rfl) rfl (lv_at hl 2 rfl) ?_
    refine lv_iadd hx hb (xb_d D_M_isGroup 4 rfl) ?_
    refine lv_iload_n hx hb (xb_d D_M_isGroup 5 rfl) rfl (lv_at hl 3 rfl) ?_
    refine lv_icmp_lt (tgt := 13) hx hb (xb_d D_M_isGroup 6 rfl) rfl (fun hc2 => ?_) (fun hc2 => ?_)
    · have hw := hw.1 hc2
      refine lv_iconst (v := 1) hx hb (xb_d D_M_isGroup 9 rfl) (by decide) ?_
      refine lv_istore hx hb (xb_d D_M_isGroup 10 rfl) hl (by decide) rfl (fun ls hl => ?_)
      have hl : lv_has ls 7 [(4, .int 1), (0, .ref x0), (1, .int x1), (2, .int x2), (3, .int x3)] := hl
      refine lv_iconst (v := 1) hx hb (xb_d D_M_isGroup 11 rfl) (by decide) ?_
      refine lv_istore hx hb (xb_d D_M_isGroup 12 rfl) hl (by decide) rfl (fun ls hl => ?_)
      have hl : lv_has ls 7 [(5, .int 1), (4, .int 1), (0, .ref x0), (1, .int x1), (2, .int x2), (3, .int x3)] := hl
      obtain ⟨n8, hw⟩ := hw
      exact am_M_isGroup_L19 l hfl D A σ MC MS h0 Qr n8 x0 x1 x2 1 1 h hw p e s m args below meth c hC H locs ls k n hE (lv_sub hl [2, 3, 4, 1, 0] rfl) hR hS (by omega) (by omega)
    · have hw := hw.2 hc2
      exact am_M_isGroup_L11 l hfl D A σ MC MS h0 Qr h hw p e s m args below meth c hC H locs ls k n hE (lv_sub hl [] rfl) hR hS (by omega) (by omega)

set_option maxRecDepth 100000 in
def T_M_isHost : List (Nat × Instr × Nat) := [(0, .iload_n 2, 1), (1, .iconst 4, 1), (2, .if_icmp .ne 57, 3), (5, .aload_n 0, 1), (6, .getfield 14, 3), (9, .iload_n 1, 1), (10, .baload, 1), (11, .bipush 104, 2), (13, .if_icmp .ne 46, 3), (16, .aload_n 0, 1), (17, .getfield 14, 3), (20, .iload_n 1, 1), (21, .iconst 1, 1), (22, .iadd, 1), (23, .baload, 1), (24, .bipush 111, 2), (26, .if_icmp .ne 33, 3), (29, .aload_n 0, 1), (30, .getfield 14, 3), (33, .iload_n 1, 1), (34, .iconst 2, 1), (35, .iadd, 1), (36, .baload, 1), (37, .bipush 115, 2), (39, .if_icmp .ne 20, 3), (42, .aload_n 0, 1), (43, .getfield 14, 3), (46, .iload_n 1, 1), (47, .iconst 3, 1), (48, .iadd, 1), (49, .baload, 1), (50, .bipush 116, 2), (52, .if_icmp .ne 7, 3), (55, .iconst 1, 1), (56, .goto 4, 3), (59, .iconst 0, 1), (60, .ireturn, 1)]
theorem D_M_isHost : ∀ q ∈ T_M_isHost, decode b_M_isHost q.1 = .ok (q.2.1, q.2.2) := by decide +kernel
def w_M_isHost_L60 (Qr : Int32 → xb_H → Prop) (y0 : Int32) (h : xb_H) : Prop :=
    (y0 = 0 ∨ y0 = 1) ∧ Qr y0 h

def w_M_isHost_L59 (Qr : Int32 → xb_H → Prop) (h : xb_H) : Prop :=
    w_M_isHost_L60 Qr 0 h

def w_M_isHost (x0 : Nat) (x1 : Int32) (x2 : Int32) (h : xb_H) (Qr : Int32 → xb_H → Prop) : Prop :=
    ((¬ x2 = (4 : Int32) → w_M_isHost_L59 Qr h) ∧ (x2 = (4 : Int32) → xb_k h x0 = 9 ∧ ∃ b3 : Nat, (xb_r h x0 3) = some b3 ∧ xb_k h b3 = 100 ∧ vp_in x1 (xb_n h b3) ∧ ((¬ (xb_i h b3 (Int32.toNatClampNeg x1)) = (104 : Int32) → w_M_isHost_L59 Qr h) ∧ ((xb_i h b3 (Int32.toNatClampNeg x1)) = (104 : Int32) → ∃ b7 : Nat, (xb_r h x0 3) = some b7 ∧ xb_k h b7 = 100 ∧ vp_in (x1 + 1) (xb_n h b7) ∧ ((¬ (xb_i h b7 (Int32.toNatClampNeg (x1 + 1))) = (111 : Int32) → w_M_isHost_L59 Qr h) ∧ ((xb_i h b7 (Int32.toNatClampNeg (x1 + 1))) = (111 : Int32) → ∃ b11 : Nat, (xb_r h x0 3) = some b11 ∧ xb_k h b11 = 100 ∧ vp_in (x1 + 2) (xb_n h b11) ∧ ((¬ (xb_i h b11 (Int32.toNatClampNeg (x1 + 2))) = (115 : Int32) → w_M_isHost_L59 Qr h) ∧ ((xb_i h b11 (Int32.toNatClampNeg (x1 + 2))) = (115 : Int32) → ∃ b15 : Nat, (xb_r h x0 3) = some b15 ∧ xb_k h b15 = 100 ∧ vp_in (x1 + 3) (xb_n h b15) ∧ ((¬ (xb_i h b15 (Int32.toNatClampNeg (x1 + 3))) = (116 : Int32) → w_M_isHost_L59 Qr h) ∧ ((xb_i h b15 (Int32.toNatClampNeg (x1 + 3))) = (116 : Int32) → w_M_isHost_L60 Qr 1 h))))))))))

set_option maxHeartbeats 4000000 in
set_option maxRecDepth 100000 in
theorem am_M_isHost_L60 (l : Launch) (hfl : l.flags = pinnedFlags ++ [noTraceFlag]) (D : va_G) (A : Nat → Prop) (σ MC MS : Nat) (h0 : xb_H) (Qr : Int32 → xb_H → Prop) (y0 : Int32) (h : xb_H) (hw : w_M_isHost_L60 Qr y0 h) : xb_am l D A σ 2 MC MS h0 (fun v h => ∃ r, v = some (.int r) ∧ Qr r h) (fun _ _ => False) y_M_isHost.cls y_M_isHost.name b_M_isHost 3 ([] : List ExceptionTableEntry) (some .boolean) 60 [] [.int y0] h 0 0 := by
  unfold w_M_isHost_L60 at hw
  intro p e s m args below meth c hC H locs ls k n hE hl hR hS hk hn
  obtain ⟨hx, hb, hown, hlocks, htab, hml, hr, hB, hA, hnm⟩ := id hC
  have hts := hB.1.1.at args
  exact xb_zret hx hb hr hlocks (show k ≤ MC by omega) (show n ≤ MS by omega) hw.1 hE hR hS (xb_d D_M_isHost 36 rfl) hw.2

set_option maxHeartbeats 4000000 in
set_option maxRecDepth 100000 in
theorem am_M_isHost_L59 (l : Launch) (hfl : l.flags = pinnedFlags ++ [noTraceFlag]) (D : va_G) (A : Nat → Prop) (σ MC MS : Nat) (h0 : xb_H) (Qr : Int32 → xb_H → Prop) (h : xb_H) (hw : w_M_isHost_L59 Qr h) : xb_am l D A σ 2 MC MS h0 (fun v h => ∃ r, v = some (.int r) ∧ Qr r h) (fun _ _ => False) y_M_isHost.cls y_M_isHost.name b_M_isHost 3 ([] : List ExceptionTableEntry) (some .boolean) 59 [] [] h 0 0 := by
  unfold w_M_isHost_L59 at hw
  intro p e s m args below meth c hC H locs ls k n hE hl hR hS hk hn
  obtain ⟨hx, hb, hown, hlocks, htab, hml, hr, hB, hA, hnm⟩ := id hC
  have hts := hB.1.1.at args
  refine lv_iconst (v := 0) hx hb (xb_d D_M_isHost 35 rfl) (by decide) ?_
  exact am_M_isHost_L60 l hfl D A σ MC MS h0 Qr 0 h hw p e s m args below meth c hC H locs ls k n hE (lv_sub hl [] rfl) hR hS (by omega) (by omega)

set_option maxHeartbeats 4000000 in
set_option maxRecDepth 100000 in
theorem ok_M_isHost (l : Launch) (hfl : l.flags = pinnedFlags ++ [noTraceFlag]) (D : va_G) (A : Nat → Prop) (σ : Nat) (x0 : Nat) (x1 : Int32) (x2 : Int32) (h : xb_H) (Qr : Int32 → xb_H → Prop) (hw : w_M_isHost x0 x1 x2 h Qr) : xt_Met l y_M_isHost [.code y_M_isHost b_M_isHost 3 (some .boolean)] (xb_rm 2 0 0) (xb_Pc D A σ h [.ref x0, .int x1, .int x2]) (xb_Qc D A h (fun v h => ∃ r, v = some (.int r) ∧ Qr r h) (fun _ _ => False)) 0 0 A := by
  refine xb_ofAm (cc := b_M_isHost) (by decide) (Nat.le_of_ble_eq_true rfl) ?_
  unfold w_M_isHost at hw
  show xb_am l D A σ 2 0 0 h (fun v h => ∃ r, v = some (.int r) ∧ Qr r h) (fun _ _ => False) y_M_isHost.cls y_M_isHost.name b_M_isHost 3 ([] : List ExceptionTableEntry) (some .boolean) 0 [(0, .ref x0), (1, .int x1), (2, .int x2)] [] h 0 0
  obtain ⟨MC, hMC⟩ : ∃ x, x = 0 := ⟨_, rfl⟩
  obtain ⟨MS, hMS⟩ : ∃ x, x = 0 := ⟨_, rfl⟩
  rw [show xb_am l D A σ 2 0 0 = xb_am l D A σ 2 MC MS by rw [hMC, hMS]]
  obtain ⟨h0, hh0⟩ : ∃ x, x = h := ⟨_, rfl⟩
  rw [show xb_am l D A σ 2 MC MS h = xb_am l D A σ 2 MC MS h0 by rw [hh0]]
  intro p e s m args below meth c hC H locs ls k n hE hl hR hS hk hn
  obtain ⟨hx, hb, hown, hlocks, htab, hml, hr, hB, hA, hnm⟩ := id hC
  have hts := hB.1.1.at args
  refine lv_iload_n hx hb (xb_d D_M_isHost 0 rfl) rfl (lv_at hl 2 rfl) ?_
  refine lv_iconst (v := 4) hx hb (xb_d D_M_isHost 1 rfl) (by decide) ?_
  refine lv_icmp_ne (tgt := 59) hx hb (xb_d D_M_isHost 2 rfl) rfl (fun hc1 => ?_) (fun hc1 => ?_)
  · have hw := hw.1 hc1
    exact am_M_isHost_L59 l hfl D A σ MC MS h0 Qr h hw p e s m args below meth c hC H locs ls k n hE (lv_sub hl [] rfl) hR hS (by omega) (by omega)
  · have hw := hw.2 hc1
    refine lv_aload_n hx hb (xb_d D_M_isHost 3 rfl) rfl (lv_at hl 0 rfl) ?_
    obtain ⟨hk2, hw⟩ := hw
    refine xb_getP (C := R_M) (T := F_M) (N := 97) hx hb 8 3 hts fin_M hown hR hk2 (by decide) rfl (by decide) rfl (hts _ m_4f0568af) (fun _ h9 => h9) (xb_d D_M_isHost 4 rfl) ?_
    obtain ⟨b3, eb3, hw⟩ := hw
    refine xb_some eb3 ?_
    refine lv_iload_n hx hb (xb_d D_M_isHost 5 rfl) rfl (lv_at hl 1 rfl) ?_
    obtain ⟨hk5, hw⟩ := hw
    obtain ⟨hi4, hw⟩ := hw
    refine xb_bald hx hb hR hk5 hi4 (xb_d D_M_isHost 6 rfl) ?_
    refine lv_bipush (v := 104) hx hb (xb_d D_M_isHost 7 rfl) (by decide) ?_
    refine lv_icmp_ne (tgt := 59) hx hb (xb_d D_M_isHost 8 rfl) rfl (fun hc6 => ?_) (fun hc6 => ?_)
    · have hw := hw.1 hc6
      exact am_M_isHost_L59 l hfl D A σ MC MS h0 Qr h hw p e s m args below meth c hC H locs ls k n hE (lv_sub hl [] rfl) hR hS (by omega) (by omega)
    · have hw := hw.2 hc6
      refine lv_aload_n hx hb (xb_d D_M_isHost 9 rfl) rfl (lv_at hl 0 rfl) ?_
      refine xb_getP (C := R_M) (T := F_M) (N := 97) hx hb 8 3 hts fin_M hown hR hk2 (by decide) rfl (by decide) rfl (hts _ m_4f0568af) (fun _ h9 => h9) (xb_d D_M_isHost 10 rfl) ?_
      obtain ⟨b7, eb7, hw⟩ := hw
      refine xb_some eb7 ?_
      refine lv_iload_n hx hb (xb_d D_M_isHost 11 rfl) rfl (lv_at hl 1 rfl) ?_
      refine lv_iconst (v := 1) hx hb (xb_d D_M_isHost 12 rfl) (by decide) ?_
      refine lv_iadd hx hb (xb_d D_M_isHost 13 rfl) ?_
      obtain ⟨hk9, hw⟩ := hw
      obtain ⟨hi8, hw⟩ := hw
      refine xb_bald hx hb hR hk9 hi8 (xb_d D_M_isHost 14 rfl) ?_
      refine lv_bipush (v := 111) hx hb (xb_d D_M_isHost 15 rfl) (by decide) ?_
      refine lv_icmp_ne (tgt := 59) hx hb (xb_d D_M_isHost 16 rfl) rfl (fun hc10 => ?_) (fun hc10 => ?_)
      · have hw := hw.1 hc10
        exact am_M_isHost_L59 l hfl D A σ MC MS h0 Qr h hw p e s m args below meth c hC H locs ls k n hE (lv_sub hl [] rfl) hR hS (by omega) (by omega)
      · have hw := hw.2 hc10
        refine lv_aload_n hx hb (xb_d D_M_isHost 17 rfl) rfl (lv_at hl 0 rfl) ?_
        refine xb_getP (C := R_M) (T := F_M) (N := 97) hx hb 8 3 hts fin_M hown hR hk2 (by decide) rfl (by decide) rfl (hts _ m_4f0568af) (fun _ h9 => h9) (xb_d D_M_isHost 18 rfl) ?_
        obtain ⟨b11, eb11, hw⟩ := hw
        refine xb_some eb11 ?_
        refine lv_iload_n hx hb (xb_d D_M_isHost 19 rfl) rfl (lv_at hl 1 rfl) ?_
        refine lv_iconst (v := 2) hx hb (xb_d D_M_isHost 20 rfl) (by decide) ?_
        refine lv_iadd hx hb (xb_d D_M_isHost 21 rfl) ?_
        obtain ⟨hk13, hw⟩ := hw
        obtain ⟨hi12, hw⟩ := hw
        refine xb_bald hx hb hR hk13 hi12 (xb_d D_M_isHost 22 rfl) ?_
        refine lv_bipush (v := 115) hx hb (xb_d D_M_isHost 23 rfl) (by decide) ?_
        refine lv_icmp_ne (tgt := 59) hx hb (xb_d D_M_isHost 24 rfl) rfl (fun hc14 => ?_) (fun hc14 => ?_)
        · have hw := hw.1 hc14
          exact am_M_isHost_L59 l hfl D A σ MC MS h0 Qr h hw p e s m args below meth c hC H locs ls k n hE (lv_sub hl [] rfl) hR hS (by omega) (by omega)
        · have hw := hw.2 hc14
          refine lv_aload_n hx hb (xb_d D_M_isHost 25 rfl) rfl (lv_at hl 0 rfl) ?_
          refine xb_getP (C := R_M) (T := F_M) (N := 97) hx hb 8 3 hts fin_M hown hR hk2 (by decide) rfl (by decide) rfl (hts _ m_4f0568af) (fun _ h9 => h9) (xb_d D_M_isHost 26 rfl) ?_
          obtain ⟨b15, eb15, hw⟩ := hw
          refine xb_some eb15 ?_
          refine lv_iload_n hx hb (xb_d D_M_isHost 27 rfl) rfl (lv_at hl 1 rfl) ?_
          refine lv_iconst (v := 3) hx hb (xb_d D_M_isHost 28 rfl) (by decide) ?_
          refine lv_iadd hx hb (xb_d D_M_isHost 29 rfl) ?_
          obtain ⟨hk17, hw⟩ := hw
          obtain ⟨hi16, hw⟩ := hw
          refine xb_bald hx hb hR hk17 hi16 (xb_d D_M_isHost 30 rfl) ?_
          refine lv_bipush (v := 116) hx hb (xb_d D_M_isHost 31 rfl) (by decide) ?_
          refine lv_icmp_ne (tgt := 59) hx hb (xb_d D_M_isHost 32 rfl) rfl (fun hc18 => ?_) (fun hc18 => ?_)
          · have hw := hw.1 hc18
            exact am_M_isHost_L59 l hfl D A σ MC MS h0 Qr h hw p e s m args below meth c hC H locs ls k n hE (lv_sub hl [] rfl) hR hS (by omega) (by omega)
          · have hw := hw.2 hc18
            refine lv_iconst (v := 1) hx hb (xb_d D_M_isHost 33 rfl) (by decide) ?_
            refine lv_goto (tgt := 60) hx hb (xb_d D_M_isHost 34 rfl) rfl ?_
            exact am_M_isHost_L60 l hfl D A σ MC MS h0 Qr 1 h hw p e s m args below meth c hC H locs ls k n hE (lv_sub hl [] rfl) hR hS (by omega) (by omega)

theorem m_1c72c4e0 : (.fieldLink "StackHostModel" 476 "StackHostModel" "instances" "I" : Cond) ∈ xt_tbl := xt_in (xt_t9 (List.mem_of_getElem? (i := 169) (by decide +kernel))) (by decide +kernel)
set_option maxRecDepth 100000 in
def T_M_isInstance : List (Nat × Instr × Nat) := [(0, .iload_n 1, 1), (1, .ifCond .lt 15, 3), (4, .iload_n 1, 1), (5, .aload_n 0, 1), (6, .getfield 476, 3), (9, .if_icmp .ge 7, 3), (12, .iconst 1, 1), (13, .goto 4, 3), (16, .iconst 0, 1), (17, .ireturn, 1)]
theorem D_M_isInstance : ∀ q ∈ T_M_isInstance, decode b_M_isInstance q.1 = .ok (q.2.1, q.2.2) := by decide +kernel
def w_M_isInstance_L17 (Qr : Int32 → xb_H → Prop) (y0 : Int32) (h : xb_H) : Prop :=
    (y0 = 0 ∨ y0 = 1) ∧ Qr y0 h

def w_M_isInstance_L16 (Qr : Int32 → xb_H → Prop) (h : xb_H) : Prop :=
    w_M_isInstance_L17 Qr 0 h

def w_M_isInstance (x0 : Nat) (x1 : Int32) (h : xb_H) (Qr : Int32 → xb_H → Prop) : Prop :=
    ((x1 < (0 : Int32) → w_M_isInstance_L16 Qr h) ∧ (¬ x1 < (0 : Int32) → xb_k h x0 = 9 ∧ (((xb_i h x0 30) ≤ x1 → w_M_isInstance_L16 Qr h) ∧ (¬ (xb_i h x0 30) ≤ x1 → w_M_isInstance_L17 Qr 1 h))))

set_option maxHeartbeats 4000000 in
set_option maxRecDepth 100000 in
theorem am_M_isInstance_L17 (l : Launch) (hfl : l.flags = pinnedFlags ++ [noTraceFlag]) (D : va_G) (A : Nat → Prop) (σ MC MS : Nat) (h0 : xb_H) (Qr : Int32 → xb_H → Prop) (y0 : Int32) (h : xb_H) (hw : w_M_isInstance_L17 Qr y0 h) : xb_am l D A σ 2 MC MS h0 (fun v h => ∃ r, v = some (.int r) ∧ Qr r h) (fun _ _ => False) y_M_isInstance.cls y_M_isInstance.name b_M_isInstance 2 ([] : List ExceptionTableEntry) (some .boolean) 17 [] [.int y0] h 0 0 := by
  unfold w_M_isInstance_L17 at hw
  intro p e s m args below meth c hC H locs ls k n hE hl hR hS hk hn
  obtain ⟨hx, hb, hown, hlocks, htab, hml, hr, hB, hA, hnm⟩ := id hC
  have hts := hB.1.1.at args
  exact xb_zret hx hb hr hlocks (show k ≤ MC by omega) (show n ≤ MS by omega) hw.1 hE hR hS (xb_d D_M_isInstance 9 rfl) hw.2

set_option maxHeartbeats 4000000 in
set_option maxRecDepth 100000 in
theorem am_M_isInstance_L16 (l : Launch) (hfl : l.flags = pinnedFlags ++ [noTraceFlag]) (D : va_G) (A : Nat → Prop) (σ MC MS : Nat) (h0 : xb_H) (Qr : Int32 → xb_H → Prop) (h : xb_H) (hw : w_M_isInstance_L16 Qr h) : xb_am l D A σ 2 MC MS h0 (fun v h => ∃ r, v = some (.int r) ∧ Qr r h) (fun _ _ => False) y_M_isInstance.cls y_M_isInstance.name b_M_isInstance 2 ([] : List ExceptionTableEntry) (some .boolean) 16 [] [] h 0 0 := by
  unfold w_M_isInstance_L16 at hw
  intro p e s m args below meth c hC H locs ls k n hE hl hR hS hk hn
  obtain ⟨hx, hb, hown, hlocks, htab, hml, hr, hB, hA, hnm⟩ := id hC
  have hts := hB.1.1.at args
  refine lv_iconst (v := 0) hx hb (xb_d D_M_isInstance 8 rfl) (by decide) ?_
  exact am_M_isInstance_L17 l hfl D A σ MC MS h0 Qr 0 h hw p e s m args below meth c hC H locs ls k n hE (lv_sub hl [] rfl) hR hS (by omega) (by omega)

set_option maxHeartbeats 4000000 in
set_option maxRecDepth 100000 in
theorem ok_M_isInstance (l : Launch) (hfl : l.flags = pinnedFlags ++ [noTraceFlag]) (D : va_G) (A : Nat → Prop) (σ : Nat) (x0 : Nat) (x1 : Int32) (h : xb_H) (Qr : Int32 → xb_H → Prop) (hw : w_M_isInstance x0 x1 h Qr) : xt_Met l y_M_isInstance [.code y_M_isInstance b_M_isInstance 2 (some .boolean)] (xb_rm 2 0 0) (xb_Pc D A σ h [.ref x0, .int x1]) (xb_Qc D A h (fun v h => ∃ r, v = some (.int r) ∧ Qr r h) (fun _ _ => False)) 0 0 A := by
  refine xb_ofAm (cc := b_M_isInstance) (by decide) (Nat.le_of_ble_eq_true rfl) ?_
  unfold w_M_isInstance at hw
  show xb_am l D A σ 2 0 0 h (fun v h => ∃ r, v = some (.int r) ∧ Qr r h) (fun _ _ => False) y_M_isInstance.cls y_M_isInstance.name b_M_isInstance 2 ([] : List ExceptionTableEntry) (some .boolean) 0 [(0, .ref x0), (1, .int x1)] [] h 0 0
  obtain ⟨MC, hMC⟩ : ∃ x, x = 0 := ⟨_, rfl⟩
  obtain ⟨MS, hMS⟩ : ∃ x, x = 0 := ⟨_, rfl⟩
  rw [show xb_am l D A σ 2 0 0 = xb_am l D A σ 2 MC MS by rw [hMC, hMS]]
  obtain ⟨h0, hh0⟩ : ∃ x, x = h := ⟨_, rfl⟩
  rw [show xb_am l D A σ 2 MC MS h = xb_am l D A σ 2 MC MS h0 by rw [hh0]]
  intro p e s m args below meth c hC H locs ls k n hE hl hR hS hk hn
  obtain ⟨hx, hb, hown, hlocks, htab, hml, hr, hB, hA, hnm⟩ := id hC
  have hts := hB.1.1.at args
  refine lv_iload_n hx hb (xb_d D_M_isInstance 0 rfl) rfl (lv_at hl 1 rfl) ?_
  refine lv_if_lt (tgt := 16) hx hb (xb_d D_M_isInstance 1 rfl) rfl (fun hc1 => ?_) (fun hc1 => ?_)
  · have hw := hw.1 hc1
    exact am_M_isInstance_L16 l hfl D A σ MC MS h0 Qr h hw p e s m args below meth c hC H locs ls k n hE (lv_sub hl [] rfl) hR hS (by omega) (by omega)
  · have hw := hw.2 hc1
    refine lv_iload_n hx hb (xb_d D_M_isInstance 2 rfl) rfl (lv_at hl 1 rfl) ?_
    refine lv_aload_n hx hb (xb_d D_M_isInstance 3 rfl) rfl (lv_at hl 0 rfl) ?_
    obtain ⟨hk2, hw⟩ := hw
    refine xb_getI (C := R_M) (T := F_M) (N := 97) hx hb 8 30 hts fin_M hown hR hk2 (by decide) rfl (by decide) rfl (hts _ m_1c72c4e0) (fun _ h9 => h9) (xb_d D_M_isInstance 4 rfl) ?_
    refine lv_icmp_ge (tgt := 16) hx hb (xb_d D_M_isInstance 5 rfl) rfl (fun hc3 => ?_) (fun hc3 => ?_)
    · have hw := hw.1 hc3
      exact am_M_isInstance_L16 l hfl D A σ MC MS h0 Qr h hw p e s m args below meth c hC H locs ls k n hE (lv_sub hl [] rfl) hR hS (by omega) (by omega)
    · have hw := hw.2 hc3
      refine lv_iconst (v := 1) hx hb (xb_d D_M_isInstance 6 rfl) (by decide) ?_
      refine lv_goto (tgt := 17) hx hb (xb_d D_M_isInstance 7 rfl) rfl ?_
      exact am_M_isInstance_L17 l hfl D A σ MC MS h0 Qr 1 h hw p e s m args below meth c hC H locs ls k n hE (lv_sub hl [] rfl) hR hS (by omega) (by omega)

theorem m_b0f42f6b : (.fieldLink "StackHostModel" 275 "StackHostModel" "modules" "I" : Cond) ∈ xt_tbl := xt_in (xt_t9 (List.mem_of_getElem? (i := 144) (by decide +kernel))) (by decide +kernel)
set_option maxRecDepth 100000 in
def T_M_isModule : List (Nat × Instr × Nat) := [(0, .iload_n 1, 1), (1, .ifCond .lt 15, 3), (4, .iload_n 1, 1), (5, .aload_n 0, 1), (6, .getfield 275, 3), (9, .if_icmp .ge 7, 3), (12, .iconst 1, 1), (13, .goto 4, 3), (16, .iconst 0, 1), (17, .ireturn, 1)]
theorem D_M_isModule : ∀ q ∈ T_M_isModule, decode b_M_isModule q.1 = .ok (q.2.1, q.2.2) := by decide +kernel
def w_M_isModule_L17 (Qr : Int32 → xb_H → Prop) (y0 : Int32) (h : xb_H) : Prop :=
    (y0 = 0 ∨ y0 = 1) ∧ Qr y0 h

def w_M_isModule_L16 (Qr : Int32 → xb_H → Prop) (h : xb_H) : Prop :=
    w_M_isModule_L17 Qr 0 h

def w_M_isModule (x0 : Nat) (x1 : Int32) (h : xb_H) (Qr : Int32 → xb_H → Prop) : Prop :=
    ((x1 < (0 : Int32) → w_M_isModule_L16 Qr h) ∧ (¬ x1 < (0 : Int32) → xb_k h x0 = 9 ∧ (((xb_i h x0 5) ≤ x1 → w_M_isModule_L16 Qr h) ∧ (¬ (xb_i h x0 5) ≤ x1 → w_M_isModule_L17 Qr 1 h))))

set_option maxHeartbeats 4000000 in
set_option maxRecDepth 100000 in
theorem am_M_isModule_L17 (l : Launch) (hfl : l.flags = pinnedFlags ++ [noTraceFlag]) (D : va_G) (A : Nat → Prop) (σ MC MS : Nat) (h0 : xb_H) (Qr : Int32 → xb_H → Prop) (y0 : Int32) (h : xb_H) (hw : w_M_isModule_L17 Qr y0 h) : xb_am l D A σ 2 MC MS h0 (fun v h => ∃ r, v = some (.int r) ∧ Qr r h) (fun _ _ => False) y_M_isModule.cls y_M_isModule.name b_M_isModule 2 ([] : List ExceptionTableEntry) (some .boolean) 17 [] [.int y0] h 0 0 := by
  unfold w_M_isModule_L17 at hw
  intro p e s m args below meth c hC H locs ls k n hE hl hR hS hk hn
  obtain ⟨hx, hb, hown, hlocks, htab, hml, hr, hB, hA, hnm⟩ := id hC
  have hts := hB.1.1.at args
  exact xb_zret hx hb hr hlocks (show k ≤ MC by omega) (show n ≤ MS by omega) hw.1 hE hR hS (xb_d D_M_isModule 9 rfl) hw.2

set_option maxHeartbeats 4000000 in
set_option maxRecDepth 100000 in
theorem am_M_isModule_L16 (l : Launch) (hfl : l.flags = pinnedFlags ++ [noTraceFlag]) (D : va_G) (A : Nat → Prop) (σ MC MS : Nat) (h0 : xb_H) (Qr : Int32 → xb_H → Prop) (h : xb_H) (hw : w_M_isModule_L16 Qr h) : xb_am l D A σ 2 MC MS h0 (fun v h => ∃ r, v = some (.int r) ∧ Qr r h) (fun _ _ => False) y_M_isModule.cls y_M_isModule.name b_M_isModule 2 ([] : List ExceptionTableEntry) (some .boolean) 16 [] [] h 0 0 := by
  unfold w_M_isModule_L16 at hw
  intro p e s m args below meth c hC H locs ls k n hE hl hR hS hk hn
  obtain ⟨hx, hb, hown, hlocks, htab, hml, hr, hB, hA, hnm⟩ := id hC
  have hts := hB.1.1.at args
  refine lv_iconst (v := 0) hx hb (xb_d D_M_isModule 8 rfl) (by decide) ?_
  exact am_M_isModule_L17 l hfl D A σ MC MS h0 Qr 0 h hw p e s m args below meth c hC H locs ls k n hE (lv_sub hl [] rfl) hR hS (by omega) (by omega)

set_option maxHeartbeats 4000000 in
set_option maxRecDepth 100000 in
theorem ok_M_isModule (l : Launch) (hfl : l.flags = pinnedFlags ++ [noTraceFlag]) (D : va_G) (A : Nat → Prop) (σ : Nat) (x0 : Nat) (x1 : Int32) (h : xb_H) (Qr : Int32 → xb_H → Prop) (hw : w_M_isModule x0 x1 h Qr) : xt_Met l y_M_isModule [.code y_M_isModule b_M_isModule 2 (some .boolean)] (xb_rm 2 0 0) (xb_Pc D A σ h [.ref x0, .int x1]) (xb_Qc D A h (fun v h => ∃ r, v = some (.int r) ∧ Qr r h) (fun _ _ => False)) 0 0 A := by
  refine xb_ofAm (cc := b_M_isModule) (by decide) (Nat.le_of_ble_eq_true rfl) ?_
  unfold w_M_isModule at hw
  show xb_am l D A σ 2 0 0 h (fun v h => ∃ r, v = some (.int r) ∧ Qr r h) (fun _ _ => False) y_M_isModule.cls y_M_isModule.name b_M_isModule 2 ([] : List ExceptionTableEntry) (some .boolean) 0 [(0, .ref x0), (1, .int x1)] [] h 0 0
  obtain ⟨MC, hMC⟩ : ∃ x, x = 0 := ⟨_, rfl⟩
  obtain ⟨MS, hMS⟩ : ∃ x, x = 0 := ⟨_, rfl⟩
  rw [show xb_am l D A σ 2 0 0 = xb_am l D A σ 2 MC MS by rw [hMC, hMS]]
  obtain ⟨h0, hh0⟩ : ∃ x, x = h := ⟨_, rfl⟩
  rw [show xb_am l D A σ 2 MC MS h = xb_am l D A σ 2 MC MS h0 by rw [hh0]]
  intro p e s m args below meth c hC H locs ls k n hE hl hR hS hk hn
  obtain ⟨hx, hb, hown, hlocks, htab, hml, hr, hB, hA, hnm⟩ := id hC
  have hts := hB.1.1.at args
  refine lv_iload_n hx hb (xb_d D_M_isModule 0 rfl) rfl (lv_at hl 1 rfl) ?_
  refine lv_if_lt (tgt := 16) hx hb (xb_d D_M_isModule 1 rfl) rfl (fun hc1 => ?_) (fun hc1 => ?_)
  · have hw := hw.1 hc1
    exact am_M_isModule_L16 l hfl D A σ MC MS h0 Qr h hw p e s m args below meth c hC H locs ls k n hE (lv_sub hl [] rfl) hR hS (by omega) (by omega)
  · have hw := hw.2 hc1
    refine lv_iload_n hx hb (xb_d D_M_isModule 2 rfl) rfl (lv_at hl 1 rfl) ?_
    refine lv_aload_n hx hb (xb_d D_M_isModule 3 rfl) rfl (lv_at hl 0 rfl) ?_
    obtain ⟨hk2, hw⟩ := hw
    refine xb_getI (C := R_M) (T := F_M) (N := 97) hx hb 8 5 hts fin_M hown hR hk2 (by decide) rfl (by decide) rfl (hts _ m_b0f42f6b) (fun _ h9 => h9) (xb_d D_M_isModule 4 rfl) ?_
    refine lv_icmp_ge (tgt := 16) hx hb (xb_d D_M_isModule 5 rfl) rfl (fun hc3 => ?_) (fun hc3 => ?_)
    · have hw := hw.1 hc3
      exact am_M_isModule_L16 l hfl D A σ MC MS h0 Qr h hw p e s m args below meth c hC H locs ls k n hE (lv_sub hl [] rfl) hR hS (by omega) (by omega)
    · have hw := hw.2 hc3
      refine lv_iconst (v := 1) hx hb (xb_d D_M_isModule 6 rfl) (by decide) ?_
      refine lv_goto (tgt := 17) hx hb (xb_d D_M_isModule 7 rfl) rfl ?_
      exact am_M_isModule_L17 l hfl D A σ MC MS h0 Qr 1 h hw p e s m args below meth c hC H locs ls k n hE (lv_sub hl [] rfl) hR hS (by omega) (by omega)

set_option maxRecDepth 100000 in
def T_M_isStep : List (Nat × Instr × Nat) := [(0, .iload_n 0, 1), (1, .iconst 5, 1), (2, .if_icmp .le 9, 3), (5, .iload_n 0, 1), (6, .bipush 11, 2), (8, .if_icmp .ne 12, 3), (11, .iload_n 0, 1), (12, .ifCond .eq 8, 3), (15, .iload_n 0, 1), (16, .iconst 4, 1), (17, .if_icmp .ne 7, 3), (20, .iconst 1, 1), (21, .goto 4, 3), (24, .iconst 0, 1), (25, .ireturn, 1)]
theorem D_M_isStep : ∀ q ∈ T_M_isStep, decode b_M_isStep q.1 = .ok (q.2.1, q.2.2) := by decide +kernel
def w_M_isStep_L25 (Qr : Int32 → xb_H → Prop) (y0 : Int32) (h : xb_H) : Prop :=
    (y0 = 0 ∨ y0 = 1) ∧ Qr y0 h

def w_M_isStep_L20 (Qr : Int32 → xb_H → Prop) (h : xb_H) : Prop :=
    w_M_isStep_L25 Qr 1 h

def w_M_isStep_L11 (Qr : Int32 → xb_H → Prop) (x0 : Int32) (h : xb_H) : Prop :=
    ((x0 = (0 : Int32) → w_M_isStep_L20 Qr h) ∧ (¬ x0 = (0 : Int32) → ((¬ x0 = (4 : Int32) → w_M_isStep_L25 Qr 0 h) ∧ (x0 = (4 : Int32) → w_M_isStep_L20 Qr h))))

def w_M_isStep (x0 : Int32) (h : xb_H) (Qr : Int32 → xb_H → Prop) : Prop :=
    ((x0 ≤ (5 : Int32) → w_M_isStep_L11 Qr x0 h) ∧ (¬ x0 ≤ (5 : Int32) → ((¬ x0 = (11 : Int32) → w_M_isStep_L20 Qr h) ∧ (x0 = (11 : Int32) → w_M_isStep_L11 Qr x0 h))))

set_option maxHeartbeats 4000000 in
set_option maxRecDepth 100000 in
theorem am_M_isStep_L25 (l : Launch) (hfl : l.flags = pinnedFlags ++ [noTraceFlag]) (D : va_G) (A : Nat → Prop) (σ MC MS : Nat) (h0 : xb_H) (Qr : Int32 → xb_H → Prop) (y0 : Int32) (h : xb_H) (hw : w_M_isStep_L25 Qr y0 h) : xb_am l D A σ 2 MC MS h0 (fun v h => ∃ r, v = some (.int r) ∧ Qr r h) (fun _ _ => False) y_M_isStep.cls y_M_isStep.name b_M_isStep 1 ([] : List ExceptionTableEntry) (some .boolean) 25 [] [.int y0] h 0 0 := by
  unfold w_M_isStep_L25 at hw
  intro p e s m args below meth c hC H locs ls k n hE hl hR hS hk hn
  obtain ⟨hx, hb, hown, hlocks, htab, hml, hr, hB, hA, hnm⟩ := id hC
  have hts := hB.1.1.at args
  exact xb_zret hx hb hr hlocks (show k ≤ MC by omega) (show n ≤ MS by omega) hw.1 hE hR hS (xb_d D_M_isStep 14 rfl) hw.2

set_option maxHeartbeats 4000000 in
set_option maxRecDepth 100000 in
theorem am_M_isStep_L20 (l : Launch) (hfl : l.flags = pinnedFlags ++ [noTraceFlag]) (D : va_G) (A : Nat → Prop) (σ MC MS : Nat) (h0 : xb_H) (Qr : Int32 → xb_H → Prop) (h : xb_H) (hw : w_M_isStep_L20 Qr h) : xb_am l D A σ 2 MC MS h0 (fun v h => ∃ r, v = some (.int r) ∧ Qr r h) (fun _ _ => False) y_M_isStep.cls y_M_isStep.name b_M_isStep 1 ([] : List ExceptionTableEntry) (some .boolean) 20 [] [] h 0 0 := by
  unfold w_M_isStep_L20 at hw
  intro p e s m args below meth c hC H locs ls k n hE hl hR hS hk hn
  obtain ⟨hx, hb, hown, hlocks, htab, hml, hr, hB, hA, hnm⟩ := id hC
  have hts := hB.1.1.at args
  refine lv_iconst (v := 1) hx hb (xb_d D_M_isStep 11 rfl) (by decide) ?_
  refine lv_goto (tgt := 25) hx hb (xb_d D_M_isStep 12 rfl) rfl ?_
  exact am_M_isStep_L25 l hfl D A σ MC MS h0 Qr 1 h hw p e s m args below meth c hC H locs ls k n hE (lv_sub hl [] rfl) hR hS (by omega) (by omega)

set_option maxHeartbeats 4000000 in
set_option maxRecDepth 100000 in
theorem am_M_isStep_L11 (l : Launch) (hfl : l.flags = pinnedFlags ++ [noTraceFlag]) (D : va_G) (A : Nat → Prop) (σ MC MS : Nat) (h0 : xb_H) (Qr : Int32 → xb_H → Prop) (x0 : Int32) (h : xb_H) (hw : w_M_isStep_L11 Qr x0 h) : xb_am l D A σ 2 MC MS h0 (fun v h => ∃ r, v = some (.int r) ∧ Qr r h) (fun _ _ => False) y_M_isStep.cls y_M_isStep.name b_M_isStep 1 ([] : List ExceptionTableEntry) (some .boolean) 11 [(0, .int x0)] [] h 0 0 := by
  unfold w_M_isStep_L11 at hw
  intro p e s m args below meth c hC H locs ls k n hE hl hR hS hk hn
  obtain ⟨hx, hb, hown, hlocks, htab, hml, hr, hB, hA, hnm⟩ := id hC
  have hts := hB.1.1.at args
  refine lv_iload_n hx hb (xb_d D_M_isStep 6 rfl) rfl (lv_at hl 0 rfl) ?_
  refine lv_if_eq (tgt := 20) hx hb (xb_d D_M_isStep 7 rfl) rfl (fun hc1 => ?_) (fun hc1 => ?_)
  · have hw := hw.1 hc1
    exact am_M_isStep_L20 l hfl D A σ MC MS h0 Qr h hw p e s m args below meth c hC H locs ls k n hE (lv_sub hl [] rfl) hR hS (by omega) (by omega)
  · have hw := hw.2 hc1
    refine lv_iload_n hx hb (xb_d D_M_isStep 8 rfl) rfl (lv_at hl 0 rfl) ?_
    refine lv_iconst (v := 4) hx hb (xb_d D_M_isStep 9 rfl) (by decide) ?_
    refine lv_icmp_ne (tgt := 24) hx hb (xb_d D_M_isStep 10 rfl) rfl (fun hc2 => ?_) (fun hc2 => ?_)
    · have hw := hw.1 hc2
      refine lv_iconst (v := 0) hx hb (xb_d D_M_isStep 13 rfl) (by decide) ?_
      exact am_M_isStep_L25 l hfl D A σ MC MS h0 Qr 0 h hw p e s m args below meth c hC H locs ls k n hE (lv_sub hl [] rfl) hR hS (by omega) (by omega)
    · have hw := hw.2 hc2
      exact am_M_isStep_L20 l hfl D A σ MC MS h0 Qr h hw p e s m args below meth c hC H locs ls k n hE (lv_sub hl [] rfl) hR hS (by omega) (by omega)

set_option maxHeartbeats 4000000 in
set_option maxRecDepth 100000 in
theorem ok_M_isStep (l : Launch) (hfl : l.flags = pinnedFlags ++ [noTraceFlag]) (D : va_G) (A : Nat → Prop) (σ : Nat) (x0 : Int32) (h : xb_H) (Qr : Int32 → xb_H → Prop) (hw : w_M_isStep x0 h Qr) : xt_Met l y_M_isStep [.code y_M_isStep b_M_isStep 1 (some .boolean)] (xb_rm 2 0 0) (xb_Pc D A σ h [.int x0]) (xb_Qc D A h (fun v h => ∃ r, v = some (.int r) ∧ Qr r h) (fun _ _ => False)) 0 0 A := by
  refine xb_ofAm (cc := b_M_isStep) (by decide) (Nat.le_of_ble_eq_true rfl) ?_
  unfold w_M_isStep at hw
  show xb_am l D A σ 2 0 0 h (fun v h => ∃ r, v = some (.int r) ∧ Qr r h) (fun _ _ => False) y_M_isStep.cls y_M_isStep.name b_M_isStep 1 ([] : List ExceptionTableEntry) (some .boolean) 0 [(0, .int x0)] [] h 0 0
  obtain ⟨MC, hMC⟩ : ∃ x, x = 0 := ⟨_, rfl⟩
  obtain ⟨MS, hMS⟩ : ∃ x, x = 0 := ⟨_, rfl⟩
  rw [show xb_am l D A σ 2 0 0 = xb_am l D A σ 2 MC MS by rw [hMC, hMS]]
  obtain ⟨h0, hh0⟩ : ∃ x, x = h := ⟨_, rfl⟩
  rw [show xb_am l D A σ 2 MC MS h = xb_am l D A σ 2 MC MS h0 by rw [hh0]]
  intro p e s m args below meth c hC H locs ls k n hE hl hR hS hk hn
  obtain ⟨hx, hb, hown, hlocks, htab, hml, hr, hB, hA, hnm⟩ := id hC
  have hts := hB.1.1.at args
  refine lv_iload_n hx hb (xb_d D_M_isStep 0 rfl) rfl (lv_at hl 0 rfl) ?_
  refine lv_iconst (v := 5) hx hb (xb_d D_M_isStep 1 rfl) (by decide) ?_
  refine lv_icmp_le (tgt := 11) hx hb (xb_d D_M_isStep 2 rfl) rfl (fun hc1 => ?_) (fun hc1 => ?_)
  · have hw := hw.1 hc1
    exact am_M_isStep_L11 l hfl D A σ MC MS h0 Qr x0 h hw p e s m args below meth c hC H locs ls k n hE (lv_sub hl [0] rfl) hR hS (by omega) (by omega)
  · have hw := hw.2 hc1
    refine lv_iload_n hx hb (xb_d D_M_isStep 3 rfl) rfl (lv_at hl 0 rfl) ?_
    refine lv_bipush (v := 11) hx hb (xb_d D_M_isStep 4 rfl) (by decide) ?_
    refine lv_icmp_ne (tgt := 20) hx hb (xb_d D_M_isStep 5 rfl) rfl (fun hc2 => ?_) (fun hc2 => ?_)
    · have hw := hw.1 hc2
      exact am_M_isStep_L20 l hfl D A σ MC MS h0 Qr h hw p e s m args below meth c hC H locs ls k n hE (lv_sub hl [] rfl) hR hS (by omega) (by omega)
    · have hw := hw.2 hc2
      exact am_M_isStep_L11 l hfl D A σ MC MS h0 Qr x0 h hw p e s m args below meth c hC H locs ls k n hE (lv_sub hl [0] rfl) hR hS (by omega) (by omega)

set_option maxRecDepth 100000 in
def T_M_isType : List (Nat × Instr × Nat) := [(0, .iload_n 0, 1), (1, .bipush 124, 2), (3, .if_icmp .lt 13, 3), (6, .iload_n 0, 1), (7, .bipush 127, 2), (9, .if_icmp .gt 7, 3), (12, .iconst 1, 1), (13, .goto 4, 3), (16, .iconst 0, 1), (17, .ireturn, 1)]
theorem D_M_isType : ∀ q ∈ T_M_isType, decode b_M_isType q.1 = .ok (q.2.1, q.2.2) := by decide +kernel
def w_M_isType_L17 (Qr : Int32 → xb_H → Prop) (y0 : Int32) (h : xb_H) : Prop :=
    (y0 = 0 ∨ y0 = 1) ∧ Qr y0 h

def w_M_isType_L16 (Qr : Int32 → xb_H → Prop) (h : xb_H) : Prop :=
    w_M_isType_L17 Qr 0 h

def w_M_isType (x0 : Int32) (h : xb_H) (Qr : Int32 → xb_H → Prop) : Prop :=
    ((x0 < (124 : Int32) → w_M_isType_L16 Qr h) ∧ (¬ x0 < (124 : Int32) → (((127 : Int32) < x0 → w_M_isType_L16 Qr h) ∧ (¬ (127 : Int32) < x0 → w_M_isType_L17 Qr 1 h))))

set_option maxHeartbeats 4000000 in
set_option maxRecDepth 100000 in
theorem am_M_isType_L17 (l : Launch) (hfl : l.flags = pinnedFlags ++ [noTraceFlag]) (D : va_G) (A : Nat → Prop) (σ MC MS : Nat) (h0 : xb_H) (Qr : Int32 → xb_H → Prop) (y0 : Int32) (h : xb_H) (hw : w_M_isType_L17 Qr y0 h) : xb_am l D A σ 2 MC MS h0 (fun v h => ∃ r, v = some (.int r) ∧ Qr r h) (fun _ _ => False) y_M_isType.cls y_M_isType.name b_M_isType 1 ([] : List ExceptionTableEntry) (some .boolean) 17 [] [.int y0] h 0 0 := by
  unfold w_M_isType_L17 at hw
  intro p e s m args below meth c hC H locs ls k n hE hl hR hS hk hn
  obtain ⟨hx, hb, hown, hlocks, htab, hml, hr, hB, hA, hnm⟩ := id hC
  have hts := hB.1.1.at args
  exact xb_zret hx hb hr hlocks (show k ≤ MC by omega) (show n ≤ MS by omega) hw.1 hE hR hS (xb_d D_M_isType 9 rfl) hw.2

set_option maxHeartbeats 4000000 in
set_option maxRecDepth 100000 in
theorem am_M_isType_L16 (l : Launch) (hfl : l.flags = pinnedFlags ++ [noTraceFlag]) (D : va_G) (A : Nat → Prop) (σ MC MS : Nat) (h0 : xb_H) (Qr : Int32 → xb_H → Prop) (h : xb_H) (hw : w_M_isType_L16 Qr h) : xb_am l D A σ 2 MC MS h0 (fun v h => ∃ r, v = some (.int r) ∧ Qr r h) (fun _ _ => False) y_M_isType.cls y_M_isType.name b_M_isType 1 ([] : List ExceptionTableEntry) (some .boolean) 16 [] [] h 0 0 := by
  unfold w_M_isType_L16 at hw
  intro p e s m args below meth c hC H locs ls k n hE hl hR hS hk hn
  obtain ⟨hx, hb, hown, hlocks, htab, hml, hr, hB, hA, hnm⟩ := id hC
  have hts := hB.1.1.at args
  refine lv_iconst (v := 0) hx hb (xb_d D_M_isType 8 rfl) (by decide) ?_
  exact am_M_isType_L17 l hfl D A σ MC MS h0 Qr 0 h hw p e s m args below meth c hC H locs ls k n hE (lv_sub hl [] rfl) hR hS (by omega) (by omega)

set_option maxHeartbeats 4000000 in
set_option maxRecDepth 100000 in
theorem ok_M_isType (l : Launch) (hfl : l.flags = pinnedFlags ++ [noTraceFlag]) (D : va_G) (A : Nat → Prop) (σ : Nat) (x0 : Int32) (h : xb_H) (Qr : Int32 → xb_H → Prop) (hw : w_M_isType x0 h Qr) : xt_Met l y_M_isType [.code y_M_isType b_M_isType 1 (some .boolean)] (xb_rm 2 0 0) (xb_Pc D A σ h [.int x0]) (xb_Qc D A h (fun v h => ∃ r, v = some (.int r) ∧ Qr r h) (fun _ _ => False)) 0 0 A := by
  refine xb_ofAm (cc := b_M_isType) (by decide) (Nat.le_of_ble_eq_true rfl) ?_
  unfold w_M_isType at hw
  show xb_am l D A σ 2 0 0 h (fun v h => ∃ r, v = some (.int r) ∧ Qr r h) (fun _ _ => False) y_M_isType.cls y_M_isType.name b_M_isType 1 ([] : List ExceptionTableEntry) (some .boolean) 0 [(0, .int x0)] [] h 0 0
  obtain ⟨MC, hMC⟩ : ∃ x, x = 0 := ⟨_, rfl⟩
  obtain ⟨MS, hMS⟩ : ∃ x, x = 0 := ⟨_, rfl⟩
  rw [show xb_am l D A σ 2 0 0 = xb_am l D A σ 2 MC MS by rw [hMC, hMS]]
  obtain ⟨h0, hh0⟩ : ∃ x, x = h := ⟨_, rfl⟩
  rw [show xb_am l D A σ 2 MC MS h = xb_am l D A σ 2 MC MS h0 by rw [hh0]]
  intro p e s m args below meth c hC H locs ls k n hE hl hR hS hk hn
  obtain ⟨hx, hb, hown, hlocks, htab, hml, hr, hB, hA, hnm⟩ := id hC
  have hts := hB.1.1.at args
  refine lv_iload_n hx hb (xb_d D_M_isType 0 rfl) rfl (lv_at hl 0 rfl) ?_
  refine lv_bipush (v := 124) hx hb (xb_d D_M_isType 1 rfl) (by decide) ?_
  refine lv_icmp_lt (tgt := 16) hx hb (xb_d D_M_isType 2 rfl) rfl (fun hc1 => ?_) (fun hc1 => ?_)
  · have hw := hw.1 hc1
    exact am_M_isType_L16 l hfl D A σ MC MS h0 Qr h hw p e s m args below meth c hC H locs ls k n hE (lv_sub hl [] rfl) hR hS (by omega) (by omega)
  · have hw := hw.2 hc1
    refine lv_iload_n hx hb (xb_d D_M_isType 3 rfl) rfl (lv_at hl 0 rfl) ?_
    refine lv_bipush (v := 127) hx hb (xb_d D_M_isType 4 rfl) (by decide) ?_
    refine lv_icmp_gt (tgt := 16) hx hb (xb_d D_M_isType 5 rfl) rfl (fun hc2 => ?_) (fun hc2 => ?_)
    · have hw := hw.1 hc2
      exact am_M_isType_L16 l hfl D A σ MC MS h0 Qr h hw p e s m args below meth c hC H locs ls k n hE (lv_sub hl [] rfl) hR hS (by omega) (by omega)
    · have hw := hw.2 hc2
      refine lv_iconst (v := 1) hx hb (xb_d D_M_isType 6 rfl) (by decide) ?_
      refine lv_goto (tgt := 17) hx hb (xb_d D_M_isType 7 rfl) rfl ?_
      exact am_M_isType_L17 l hfl D A σ MC MS h0 Qr 1 h hw p e s m args below meth c hC H locs ls k n hE (lv_sub hl [] rfl) hR hS (by omega) (by omega)

theorem m_fea26463 : (.fieldLink "StackHostModel" 27 "StackHostModel" "many" "[I" : Cond) ∈ xt_tbl := xt_in (xt_t9 (List.mem_of_getElem? (i := 148) (by decide +kernel))) (by decide +kernel)
set_option maxRecDepth 100000 in
def T_M_manyOf : List (Nat × Instr × Nat) := [(0, .aload_n 0, 1), (1, .getfield 27, 3), (4, .bipush 12, 2), (6, .iload_n 1, 1), (7, .imul, 1), (8, .iload_n 2, 1), (9, .iadd, 1), (10, .iaload, 1), (11, .ireturn, 1)]
theorem D_M_manyOf : ∀ q ∈ T_M_manyOf, decode b_M_manyOf q.1 = .ok (q.2.1, q.2.2) := by decide +kernel
def w_M_manyOf (x0 : Nat) (x1 : Int32) (x2 : Int32) (h : xb_H) (Qr : Int32 → xb_H → Prop) : Prop :=
    xb_k h x0 = 9 ∧ ∃ b2 : Nat, (xb_r h x0 9) = some b2 ∧ xb_k h b2 = 102 ∧ vp_in ((12 * x1) + x2) (xb_n h b2) ∧ Qr (xb_i h b2 (Int32.toNatClampNeg ((12 * x1) + x2))) h

set_option maxHeartbeats 4000000 in
set_option maxRecDepth 100000 in
theorem ok_M_manyOf (l : Launch) (hfl : l.flags = pinnedFlags ++ [noTraceFlag]) (D : va_G) (A : Nat → Prop) (σ : Nat) (x0 : Nat) (x1 : Int32) (x2 : Int32) (h : xb_H) (Qr : Int32 → xb_H → Prop) (hw : w_M_manyOf x0 x1 x2 h Qr) : xt_Met l y_M_manyOf [.code y_M_manyOf b_M_manyOf 3 (some .int)] (xb_rm 2 0 0) (xb_Pc D A σ h [.ref x0, .int x1, .int x2]) (xb_Qc D A h (fun v h => ∃ r, v = some (.int r) ∧ Qr r h) (fun _ _ => False)) 0 0 A := by
  refine xb_ofAm (cc := b_M_manyOf) (by decide) (Nat.le_of_ble_eq_true rfl) ?_
  unfold w_M_manyOf at hw
  show xb_am l D A σ 2 0 0 h (fun v h => ∃ r, v = some (.int r) ∧ Qr r h) (fun _ _ => False) y_M_manyOf.cls y_M_manyOf.name b_M_manyOf 3 ([] : List ExceptionTableEntry) (some .int) 0 [(0, .ref x0), (1, .int x1), (2, .int x2)] [] h 0 0
  obtain ⟨MC, hMC⟩ : ∃ x, x = 0 := ⟨_, rfl⟩
  obtain ⟨MS, hMS⟩ : ∃ x, x = 0 := ⟨_, rfl⟩
  rw [show xb_am l D A σ 2 0 0 = xb_am l D A σ 2 MC MS by rw [hMC, hMS]]
  obtain ⟨h0, hh0⟩ : ∃ x, x = h := ⟨_, rfl⟩
  rw [show xb_am l D A σ 2 MC MS h = xb_am l D A σ 2 MC MS h0 by rw [hh0]]
  intro p e s m args below meth c hC H locs ls k n hE hl hR hS hk hn
  obtain ⟨hx, hb, hown, hlocks, htab, hml, hr, hB, hA, hnm⟩ := id hC
  have hts := hB.1.1.at args
  refine lv_aload_n hx hb (xb_d D_M_manyOf 0 rfl) rfl (lv_at hl 0 rfl) ?_
  obtain ⟨hk1, hw⟩ := hw
  refine xb_getP (C := R_M) (T := F_M) (N := 97) hx hb 8 9 hts fin_M hown hR hk1 (by decide) rfl (by decide) rfl (hts _ m_fea26463) (fun _ h9 => h9) (xb_d D_M_manyOf 1 rfl) ?_
  obtain ⟨b2, eb2, hw⟩ := hw
  refine xb_some eb2 ?_
  refine lv_bipush (v := 12) hx hb (xb_d D_M_manyOf 2 rfl) (by decide) ?_
  refine lv_iload_n hx hb (xb_d D_M_manyOf 3 rfl) rfl (lv_at hl 1 rfl) ?_
  refine lv_imul hx hb (xb_d D_M_manyOf 4 rfl) ?_
  refine lv_iload_n hx hb (xb_d D_M_manyOf 5 rfl) rfl (lv_at hl 2 rfl) ?_
  refine lv_iadd hx hb (xb_d D_M_manyOf 6 rfl) ?_
  obtain ⟨hk4, hw⟩ := hw
  obtain ⟨hi3, hw⟩ := hw
  refine xb_iald hx hb hR hk4 hi3 (xb_d D_M_manyOf 7 rfl) ?_
  exact xb_iret hx hb hr hlocks (show k ≤ MC by omega) (show n ≤ MS by omega) hE hR hS (xb_d D_M_manyOf 8 rfl) hw

theorem m_6a1d9b01 : (.fieldLink "StackHostModel" 33 "StackHostModel" "entry" "[I" : Cond) ∈ xt_tbl := xt_in (xt_t9 (List.mem_of_getElem? (i := 150) (by decide +kernel))) (by decide +kernel)
theorem m_d9ebb8df : (.fieldLink "StackHostModel" 272 "StackHostModel" "entries" "I" : Cond) ∈ xt_tbl := xt_in (xt_t9 (List.mem_of_getElem? (i := 152) (by decide +kernel))) (by decide +kernel)
theorem m_82208c1c : (.fieldLink "StackHostModel" 36 "StackHostModel" "room" "[I" : Cond) ∈ xt_tbl := xt_in (xt_t9 (List.mem_of_getElem? (i := 151) (by decide +kernel))) (by decide +kernel)
set_option maxRecDepth 100000 in
def T_M_note : List (Nat × Instr × Nat) := [(0, .aload_n 0, 1), (1, .getfield 272, 3), (4, .aload_n 0, 1), (5, .getfield 33, 3), (8, .arraylength, 1), (9, .if_icmp .ne 71, 3), (12, .iconst 2, 1), (13, .aload_n 0, 1), (14, .getfield 272, 3), (17, .imul, 1), (18, .newarray .int, 2), (20, .astore_n 2, 1), (21, .iconst 2, 1), (22, .aload_n 0, 1), (23, .getfield 272, 3), (26, .imul, 1), (27, .newarray .int, 2), (29, .astore_n 3, 1), (30, .iconst 0, 1), (31, .istore 4, 2), (33, .iload 4, 2), (35, .aload_n 0, 1), (36, .getfield 272, 3), (39, .if_icmp .ge 31, 3), (42, .aload_n 2, 1), (43, .iload 4, 2), (45, .aload_n 0, 1), (46, .getfield 33, 3), (49, .iload 4, 2), (51, .iaload, 1), (52, .iastore, 1), (53, .aload_n 3, 1), (54, .iload 4, 2), (56, .aload_n 0, 1), (57, .getfield 36, 3), (60, .iload 4, 2), (62, .iaload, 1), (63, .iastore, 1), (64, .iinc 4 1, 3), (67, .goto (-34), 3), (70, .aload_n 0, 1), (71, .aload_n 2, 1), (72, .putfield 33, 3), (75, .aload_n 0, 1), (76, .aload_n 3, 1), (77, .putfield 36, 3), (80, .aload_n 0, 1), (81, .getfield 33, 3), (84, .aload_n 0, 1), (85, .getfield 272, 3), (88, .aload_n 0, 1), (89, .getfield 202, 3), (92, .iastore, 1), (93, .aload_n 0, 1), (94, .dup, 1), (95, .getfield 272, 3), (98, .iconst 1, 1), (99, .iadd, 1), (100, .putfield 272, 3), (103, .aload_n 0, 1), (104, .getfield 27, 3), (107, .bipush 12, 2), (109, .aload_n 0, 1), (110, .getfield 275, 3), (113, .imul, 1), (114, .iload_n 1, 1), (115, .iadd, 1), (116, .dup2, 1), (117, .iaload, 1), (118, .iconst 1, 1), (119, .iadd, 1), (120, .iastore, 1), (121, .return_, 1)]
theorem D_M_note : ∀ q ∈ T_M_note, decode b_M_note q.1 = .ok (q.2.1, q.2.2) := by decide +kernel
def w_M_note_L80 (Qr : xb_H → Prop) (x0 : Nat) (x1 : Int32) (h : xb_H) (bc : Nat) (bs : Nat) : Prop :=
    xb_k h x0 = 9 ∧ ∃ b2 : Nat, (xb_r h x0 11) = some b2 ∧ xb_k h b2 = 102 ∧ vp_in (xb_i h x0 13) (xb_n h b2) ∧ ∀ h5 : xb_H, h5 = xb_I h b2 (Int32.toNatClampNeg (xb_i h x0 13)) (xb_i h x0 15) → ∀ h6 : xb_H, h6 = xb_I h5 x0 13 ((xb_i h5 x0 13) + 1) → ∃ b7 : Nat, (xb_r h6 x0 9) = some b7 ∧ xb_k h6 b7 = 102 ∧ vp_in ((12 * (xb_i h6 x0 5)) + x1) (xb_n h6 b7) ∧ vp_in ((12 * (xb_i h6 x0 5)) + x1) (xb_n h6 b7) ∧ ∀ h11 : xb_H, h11 = xb_I h6 b7 (Int32.toNatClampNeg ((12 * (xb_i h6 x0 5)) + x1)) ((xb_i h6 b7 (Int32.toNatClampNeg ((12 * (xb_i h6 x0 5)) + x1))) + 1) → Qr h11

def w_M_note_L33 (Qr : xb_H → Prop) : Nat → Nat → Int32 → Nat → Nat → Int32 → xb_H → Nat → Nat → Prop
  | 0, _, _, _, _, _, _, _, _ => False
  | n9 + 1, x0, x1, x2, x3, x4, h, bc, bs =>
    xb_k h x0 = 9 ∧ (((xb_i h x0 13) ≤ x4 → ∀ h3 : xb_H, h3 = xb_P h x0 11 (some x2) → ∀ h4 : xb_H, h4 = xb_P h3 x0 12 (some x3) → w_M_note_L80 Qr x0 x1 h4 bc bs) ∧ (¬ (xb_i h x0 13) ≤ x4 → ∃ b5 : Nat, (xb_r h x0 11) = some b5 ∧ xb_k h b5 = 102 ∧ vp_in x4 (xb_n h b5) ∧ xb_k h x2 = 102 ∧ vp_in x4 (xb_n h x2) ∧ ∀ h10 : xb_H, h10 = xb_I h x2 (Int32.toNatClampNeg x4) (xb_i h b5 (Int32.toNatClampNeg x4)) → ∃ b11 : Nat, (xb_r h10 x0 12) = some b11 ∧ xb_k h10 b11 = 102 ∧ vp_in x4 (xb_n h10 b11) ∧ xb_k h10 x3 = 102 ∧ vp_in x4 (xb_n h10 x3) ∧ ∀ h16 : xb_H, h16 = xb_I h10 x3 (Int32.toNatClampNeg x4) (xb_i h10 b11 (Int32.toNatClampNeg x4)) → w_M_note_L33 Qr n9 x0 x1 x2 x3 (x4 + 1) h16 bc bs))

def w_M_note (x0 : Nat) (x1 : Int32) (h : xb_H) (bc : Nat) (bs : Nat) (Qr : xb_H → Prop) : Prop :=
    xb_k h x0 = 9 ∧ ∃ b2 : Nat, (xb_r h x0 11) = some b2 ∧ xb_k h b2 = 102 ∧ ((¬ (xb_i h x0 13) = (nI (xb_n h b2)) → w_M_note_L80 Qr x0 x1 h bc bs) ∧ ((xb_i h x0 13) = (nI (xb_n h b2)) → ¬ (2 * (xb_i h x0 13)) < 0 ∧ (Int32.toNatClampNeg (2 * (xb_i h x0 13))) * 4 ≤ 536870912 ∧ 1 ≤ bc ∧ (Int32.toNatClampNeg (2 * (xb_i h x0 13))) ≤ bs ∧ ∀ q5 : Nat, xb_k h q5 = 0 → ∀ h6 : xb_H, h6 = xb_new h q5 102 (Int32.toNatClampNeg (2 * (xb_i h x0 13))) → ¬ (2 * (xb_i h6 x0 13)) < 0 ∧ (Int32.toNatClampNeg (2 * (xb_i h6 x0 13))) * 4 ≤ 536870912 ∧ 1 ≤ (bc - 1) ∧ (Int32.toNatClampNeg (2 * (xb_i h6 x0 13))) ≤ (bs - (Int32.toNatClampNeg (2 * (xb_i h x0 13)))) ∧ ∀ q8 : Nat, xb_k h6 q8 = 0 → ∀ h9 : xb_H, h9 = xb_new h6 q8 102 (Int32.toNatClampNeg (2 * (xb_i h6 x0 13))) → (∃ n8 : Nat, w_M_note_L33 Qr n8 x0 x1 q5 q8 0 h9 ((bc - 1) - 1) ((bs - (Int32.toNatClampNeg (2 * (xb_i h x0 13)))) - (Int32.toNatClampNeg (2 * (xb_i h6 x0 13)))))))

set_option maxHeartbeats 4000000 in
set_option maxRecDepth 100000 in
theorem am_M_note_L80 (l : Launch) (hfl : l.flags = pinnedFlags ++ [noTraceFlag]) (D : va_G) (A : Nat → Prop) (σ MC MS : Nat) (h0 : xb_H) (Qr : xb_H → Prop) (x0 : Nat) (x1 : Int32) (h : xb_H) (bc : Nat) (bs : Nat) (hw : w_M_note_L80 Qr x0 x1 h bc bs) : xb_am l D A σ 2 MC MS h0 (fun v h => v = none ∧ Qr h) (fun _ _ => False) y_M_note.cls y_M_note.name b_M_note 5 ([] : List ExceptionTableEntry) none 80 [(0, .ref x0), (1, .int x1)] [] h bc bs := by
  unfold w_M_note_L80 at hw
  intro p e s m args below meth c hC H locs ls k n hE hl hR hS hk hn
  obtain ⟨hx, hb, hown, hlocks, htab, hml, hr, hB, hA, hnm⟩ := id hC
  have hts := hB.1.1.at args
  refine lv_aload_n hx hb (xb_d D_M_note 46 rfl) rfl (lv_at hl 0 rfl) ?_
  obtain ⟨hk1, hw⟩ := hw
  refine xb_getP (C := R_M) (T := F_M) (N := 97) hx hb 8 11 hts fin_M hown hR hk1 (by decide) rfl (by decide) rfl (hts _ m_6a1d9b01) (fun _ h9 => h9) (xb_d D_M_note 47 rfl) ?_
  obtain ⟨b2, eb2, hw⟩ := hw
  refine xb_some eb2 ?_
  refine lv_aload_n hx hb (xb_d D_M_note 48 rfl) rfl (lv_at hl 0 rfl) ?_
  refine xb_getI (C := R_M) (T := F_M) (N := 97) hx hb 8 13 hts fin_M hown hR hk1 (by decide) rfl (by decide) rfl (hts _ m_d9ebb8df) (fun _ h9 => h9) (xb_d D_M_note 49 rfl) ?_
  refine lv_aload_n hx hb (xb_d D_M_note 50 rfl) rfl (lv_at hl 0 rfl) ?_
  refine xb_getI (C := R_M) (T := F_M) (N := 97) hx hb 8 15 hts fin_M hown hR hk1 (by decide) rfl (by decide) rfl (hts _ m_6c2d27ad) (fun _ h9 => h9) (xb_d D_M_note 51 rfl) ?_
  obtain ⟨hk3, hw⟩ := hw
  obtain ⟨hi4, hw⟩ := hw
  refine xb_iast hx hb hR hS hk3 hi4 (xb_d D_M_note 52 rfl) (fun H locs hR hS => ?_)
  obtain ⟨h5, eh5⟩ : ∃ x : xb_H, x = xb_I h b2 (Int32.toNatClampNeg (xb_i h x0 13)) (xb_i h x0 15) := ⟨_, rfl⟩
  rw [← eh5] at hR
  have hw := hw h5 eh5
  have hE : xb_ext h0 h5 := by rw [eh5]; exact hE
  refine lv_aload_n hx hb (xb_d D_M_note 53 rfl) rfl (lv_at hl 0 rfl) ?_
  refine lv_dup hx hb (xb_d D_M_note 54 rfl) rfl ?_
  have hk1 : xb_k h5 x0 = 9 := by rw [eh5]; exact hk1
  refine xb_getI (C := R_M) (T := F_M) (N := 97) hx hb 8 13 hts fin_M hown hR hk1 (by decide) rfl (by decide) rfl (hts _ m_d9ebb8df) (fun _ h9 => h9) (xb_d D_M_note 55 rfl) ?_
  refine lv_iconst (v := 1) hx hb (xb_d D_M_note 56 rfl) (by decide) ?_
  refine lv_iadd hx hb (xb_d D_M_note 57 rfl) ?_
  refine xb_putI (C := R_M) (T := F_M) (N := 97) (ty := .int) (x := ((xb_i h5 x0 13) + 1)) hx hb 8 13 hts fin_M t_M t_M_ok n_M hown hR hS hk1 (by decide) rfl (by decide) rfl (hts _ m_d9ebb8df) (fun _ h9 => h9) rfl (by decide +kernel) rfl rfl (xb_d D_M_note 58 rfl) (fun H locs hR hS => ?_)
  obtain ⟨h6, eh6⟩ : ∃ x : xb_H, x = xb_I h5 x0 13 ((xb_i h5 x0 13) + 1) := ⟨_, rfl⟩
  rw [← eh6] at hR
  have hw := hw h6 eh6
  have hE : xb_ext h0 h6 := by rw [eh6]; exact hE
  refine lv_aload_n hx hb (xb_d D_M_note 59 rfl) rfl (lv_at hl 0 rfl) ?_
  have hk1 : xb_k h6 x0 = 9 := by rw [eh6]; exact hk1
  refine xb_getP (C := R_M) (T := F_M) (N := 97) hx hb 8 9 hts fin_M hown hR hk1 (by decide) rfl (by decide) rfl (hts _ m_fea26463) (fun _ h9 => h9) (xb_d D_M_note 60 rfl) ?_
  obtain ⟨b7, eb7, hw⟩ := hw
  refine xb_some eb7 ?_
  refine lv_bipush (v := 12) hx hb (xb_d D_M_note 61 rfl) (by decide) ?_
  refine lv_aload_n hx hb (xb_d D_M_note 62 rfl) rfl (lv_at hl 0 rfl) ?_
  refine xb_getI (C := R_M) (T := F_M) (N := 97) hx hb 8 5 hts fin_M hown hR hk1 (by decide) rfl (by decide) rfl (hts _ m_b0f42f6b) (fun _ h9 => h9) (xb_d D_M_note 63 rfl) ?_
  refine lv_imul hx hb (xb_d D_M_note 64 rfl) ?_
  refine lv_iload_n hx hb (xb_d D_M_note 65 rfl) rfl (lv_at hl 1 rfl) ?_
  refine lv_iadd hx hb (xb_d D_M_note 66 rfl) ?_
  refine lv_dup2_11 hx hb (xb_d D_M_note 67 rfl) rfl rfl ?_
  obtain ⟨hk9, hw⟩ := hw
  obtain ⟨hi8, hw⟩ := hw
  refine xb_iald hx hb hR hk9 hi8 (xb_d D_M_note 68 rfl) ?_
  refine lv_iconst (v := 1) hx hb (xb_d D_M_note 69 rfl) (by decide) ?_
  refine lv_iadd hx hb (xb_d D_M_note 70 rfl) ?_
  obtain ⟨hi10, hw⟩ := hw
  refine xb_iast hx hb hR hS hk9 hi10 (xb_d D_M_note 71 rfl) (fun H locs hR hS => ?_)
  obtain ⟨h11, eh11⟩ : ∃ x : xb_H, x = xb_I h6 b7 (Int32.toNatClampNeg ((12 * (xb_i h6 x0 5)) + x1)) ((xb_i h6 b7 (Int32.toNatClampNeg ((12 * (xb_i h6 x0 5)) + x1))) + 1) := ⟨_, rfl⟩
  rw [← eh11] at hR
  have hw := hw h11 eh11
  have hE : xb_ext h0 h11 := by rw [eh11]; exact hE
  exact xb_vret hx hb hr hlocks (show k ≤ MC by omega) (show n ≤ MS by omega) hE hR hS (xb_d D_M_note 72 rfl) hw

set_option maxHeartbeats 4000000 in
set_option maxRecDepth 100000 in
theorem am_M_note_L33 (l : Launch) (hfl : l.flags = pinnedFlags ++ [noTraceFlag]) (D : va_G) (A : Nat → Prop) (σ MC MS : Nat) (h0 : xb_H) (Qr : xb_H → Prop) (n9 : Nat) : ∀ (x0 : Nat) (x1 : Int32) (x2 : Nat) (x3 : Nat) (x4 : Int32) (h : xb_H) (bc : Nat) (bs : Nat), w_M_note_L33 Qr n9 x0 x1 x2 x3 x4 h bc bs → xb_am l D A σ 2 MC MS h0 (fun v h => v = none ∧ Qr h) (fun _ _ => False) y_M_note.cls y_M_note.name b_M_note 5 ([] : List ExceptionTableEntry) none 33 [(0, .ref x0), (1, .int x1), (2, .ref x2), (3, .ref x3), (4, .int x4)] [] h bc bs := by
  induction n9 with
  | zero => intro x0 x1 x2 x3 x4 h bc bs hw; exact False.elim hw
  | succ n9 ih =>
    intro x0 x1 x2 x3 x4 h bc bs hw
    unfold w_M_note_L33 at hw
    intro p e s m args below meth c hC H locs ls k n hE hl hR hS hk hn
    obtain ⟨hx, hb, hown, hlocks, htab, hml, hr, hB, hA, hnm⟩ := id hC
    have hts := hB.1.1.at args
    refine lv_iload hx hb (xb_d D_M_note 20 rfl) (lv_at hl 4 rfl) ?_
    refine lv_aload_n hx hb (xb_d D_M_note 21 rfl) rfl (lv_at hl 0 rfl) ?_
    obtain ⟨hk1, hw⟩ := hw
    refine xb_getI (C := R_M) (T := F_M) (N := 97) hx hb 8 13 hts fin_M hown hR hk1 (by decide) rfl (by decide) rfl (hts _ m_d9ebb8df) (fun _ h9 => h9) (xb_d D_M_note 22 rfl) ?_
    refine lv_icmp_ge (tgt := 70) hx hb (xb_d D_M_note 23 rfl) rfl (fun hc2 => ?_) (fun hc2 => ?_)
    · have hw := hw.1 hc2
      refine lv_aload_n hx hb (xb_d D_M_note 40 rfl) rfl (lv_at hl 0 rfl) ?_
      refine lv_aload_n hx hb (xb_d D_M_note 41 rfl) rfl (lv_at hl 2 rfl) ?_
      refine xb_putP (C := R_M) (T := F_M) (N := 97) (ty := .array .int) (x := (some x2)) hx hb 8 11 hts fin_M t_M t_M_ok n_M hown hR hS hk1 (by decide) rfl (by decide) rfl (hts _ m_6a1d9b01) (fun _ h9 => h9) rfl (by decide +kernel) (xb_pnA _ _).1 (xb_pnA _ _).2 (xb_d D_M_note 42 rfl) (fun H locs hR hS => ?_)
      obtain ⟨h3, eh3⟩ : ∃ x : xb_H, x = xb_P h x0 11 (some x2) := ⟨_, rfl⟩
      rw [← eh3] at hR
      have hw := hw h3 eh3
      have hE : xb_ext h0 h3 := by rw [eh3]; exact hE
      refine lv_aload_n hx hb (xb_d D_M_note 43 rfl) rfl (lv_at hl 0 rfl) ?_
      refine lv_aload_n hx hb (xb_d D_M_note 44 rfl) rfl (lv_at hl 3 rfl) ?_
      have hk1 : xb_k h3 x0 = 9 := by rw [eh3]; exact hk1
      refine xb_putP (C := R_M) (T := F_M) (N := 97) (ty := .array .int) (x := (some x3)) hx hb 8 12 hts fin_M t_M t_M_ok n_M hown hR hS hk1 (by decide) rfl (by decide) rfl (hts _ m_82208c1c) (fun _ h9 => h9) rfl (by decide +kernel) (xb_pnA _ _).1 (xb_pnA _ _).2 (xb_d D_M_note 45 rfl) (fun H locs hR hS => ?_)
      obtain ⟨h4, eh4⟩ : ∃ x : xb_H, x = xb_P h3 x0 12 (some x3) := ⟨_, rfl⟩
      rw [← eh4] at hR
      have hw := hw h4 eh4
      have hE : xb_ext h0 h4 := by rw [eh4]; exact hE
      exact am_M_note_L80 l hfl D A σ MC MS h0 Qr x0 x1 h4 bc bs hw p e s m args below meth c hC H locs ls k n hE (lv_sub hl [0, 1] rfl) hR hS (by omega) (by omega)
    · have hw := hw.2 hc2
      refine lv_aload_n hx hb (xb_d D_M_note 24 rfl) rfl (lv_at hl 2 rfl) ?_
      refine lv_iload hx hb (xb_d D_M_note 25 rfl) (lv_at hl 4 rfl) ?_
      refine lv_aload_n hx hb (xb_d D_M_note 26 rfl) rfl (lv_at hl 0 rfl) ?_
      refine xb_getP (C := R_M) (T := F_M) (N := 97) hx hb 8 11 hts fin_M hown hR hk1 (by decide) rfl (by decide) rfl (hts _ m_6a1d9b01) (fun _ h9 => h9) (xb_d D_M_note 27 rfl) ?_
      obtain ⟨b5, eb5, hw⟩ := hw
      refine xb_some eb5 ?_
      refine lv_iload hx hb (xb_d D_M_note 28 rfl) (lv_at hl 4 rfl) ?_
      obtain ⟨hk7, hw⟩ := hw
      obtain ⟨hi6, hw⟩ := hw
      refine xb_iald hx hb hR hk7 hi6 (xb_d D_M_note 29 rfl) ?_
      obtain ⟨hk8, hw⟩ := hw
      obtain ⟨hi9, hw⟩ := hw
      refine xb_iast hx hb hR hS hk8 hi9 (xb_d D_M_note 30 rfl) (fun H locs hR hS => ?_)
      obtain ⟨h10, eh10⟩ : ∃ x : xb_H, x = xb_I h x2 (Int32.toNatClampNeg x4) (xb_i h b5 (Int32.toNatClampNeg x4)) := ⟨_, rfl⟩
      rw [← eh10] at hR
      have hw := hw h10 eh10
      have hE : xb_ext h0 h10 := by rw [eh10]; exact hE
      refine lv_aload_n hx hb (xb_d D_M_note 31 rfl) rfl (lv_at hl 3 rfl) ?_
      refine lv_iload hx hb (xb_d D_M_note 32 rfl) (lv_at hl 4 rfl) ?_
      refine lv_aload_n hx hb (xb_d D_M_note 33 rfl) rfl (lv_at hl 0 rfl) ?_
      have hk1 : xb_k h10 x0 = 9 := by rw [eh10]; exact hk1
      refine xb_getP (C := R_M) (T := F_M) (N := 97) hx hb 8 12 hts fin_M hown hR hk1 (by decide) rfl (by decide) rfl (hts _ m_82208c1c) (fun _ h9 => h9) (xb_d D_M_note 34 rfl) ?_
      obtain ⟨b11, eb11, hw⟩ := hw
      refine xb_some eb11 ?_
      refine lv_iload hx hb (xb_d D_M_note 35 rfl) (lv_at hl 4 rfl) ?_
      obtain ⟨hk13, hw⟩ := hw
      obtain ⟨hi12, hw⟩ := hw
      refine xb_iald hx hb hR hk13 hi12 (xb_d D_M_note 36 rfl) ?_
      obtain ⟨hk14, hw⟩ := hw
      obtain ⟨hi15, hw⟩ := hw
      refine xb_iast hx hb hR hS hk14 hi15 (xb_d D_M_note 37 rfl) (fun H locs hR hS => ?_)
      obtain ⟨h16, eh16⟩ : ∃ x : xb_H, x = xb_I h10 x3 (Int32.toNatClampNeg x4) (xb_i h10 b11 (Int32.toNatClampNeg x4)) := ⟨_, rfl⟩
      rw [← eh16] at hR
      have hw := hw h16 eh16
      have hE : xb_ext h0 h16 := by rw [eh16]; exact hE
      refine lv_iinc (v := (x4 + 1)) (k := 4) hx hb (xb_d D_M_note 38 rfl) hl rfl (by first | rfl | decide) (by decide) rfl (fun ls hl => ?_)
      have hl : lv_has ls 5 [(4, .int (x4 + 1)), (0, .ref x0), (1, .int x1), (2, .ref x2), (3, .ref x3)] := hl
      refine lv_goto (tgt := 33) hx hb (xb_d D_M_note 39 rfl) rfl ?_
      exact ih x0 x1 x2 x3 (x4 + 1) h16 bc bs hw p e s m args below meth c hC H locs ls k n hE (lv_sub hl [1, 2, 3, 4, 0] rfl) hR hS (by omega) (by omega)

set_option maxHeartbeats 4000000 in
set_option maxRecDepth 100000 in
theorem ok_M_note (l : Launch) (hfl : l.flags = pinnedFlags ++ [noTraceFlag]) (D : va_G) (A : Nat → Prop) (σ : Nat) (x0 : Nat) (x1 : Int32) (h : xb_H) (bc : Nat) (bs : Nat) (Qr : xb_H → Prop) (hw : w_M_note x0 x1 h bc bs Qr) : xt_Met l y_M_note [.code y_M_note b_M_note 5 none] (xb_rm 2 bc bs) (xb_Pc D A σ h [.ref x0, .int x1]) (xb_Qc D A h (fun v h => v = none ∧ Qr h) (fun _ _ => False)) bc bs A := by
  refine xb_ofAm (cc := b_M_note) (by decide) (Nat.le_of_ble_eq_true rfl) ?_
  unfold w_M_note at hw
  show xb_am l D A σ 2 bc bs h (fun v h => v = none ∧ Qr h) (fun _ _ => False) y_M_note.cls y_M_note.name b_M_note 5 ([] : List ExceptionTableEntry) none 0 [(0, .ref x0), (1, .int x1)] [] h bc bs
  obtain ⟨MC, hMC⟩ : ∃ x, x = bc := ⟨_, rfl⟩
  obtain ⟨MS, hMS⟩ : ∃ x, x = bs := ⟨_, rfl⟩
  rw [show xb_am l D A σ 2 bc bs = xb_am l D A σ 2 MC MS by rw [hMC, hMS]]
  obtain ⟨h0, hh0⟩ : ∃ x, x = h := ⟨_, rfl⟩
  rw [show xb_am l D A σ 2 MC MS h = xb_am l D A σ 2 MC MS h0 by rw [hh0]]
  intro p e s m args below meth c hC H locs ls k n hE hl hR hS hk hn
  obtain ⟨hx, hb, hown, hlocks, htab, hml, hr, hB, hA, hnm⟩ := id hC
  have hts := hB.1.1.at args
  refine lv_aload_n hx hb (xb_d D_M_note 0 rfl) rfl (lv_at hl 0 rfl) ?_
  obtain ⟨hk1, hw⟩ := hw
  refine xb_getI (C := R_M) (T := F_M) (N := 97) hx hb 8 13 hts fin_M hown hR hk1 (by decide) rfl (by decide) rfl (hts _ m_d9ebb8df) (fun _ h9 => h9) (xb_d D_M_note 1 rfl) ?_
  refine lv_aload_n hx hb (xb_d D_M_note 2 rfl) rfl (lv_at hl 0 rfl) ?_
  refine xb_getP (C := R_M) (T := F_M) (N := 97) hx hb 8 11 hts fin_M hown hR hk1 (by decide) rfl (by decide) rfl (hts _ m_6a1d9b01) (fun _ h9 => h9) (xb_d D_M_note 3 rfl) ?_
  obtain ⟨b2, eb2, hw⟩ := hw
  refine xb_some eb2 ?_
  obtain ⟨hk3, hw⟩ := hw
  refine xb_alen hx hb hR hk3 (by decide) (xb_d D_M_note 4 rfl) ?_
  refine lv_icmp_ne (tgt := 80) hx hb (xb_d D_M_note 5 rfl) rfl (fun hc4 => ?_) (fun hc4 => ?_)
  · have hw := hw.1 hc4
    exact am_M_note_L80 l hfl D A σ MC MS h0 Qr x0 x1 h bc bs hw p e s m args below meth c hC H locs ls k n hE (lv_sub hl [0, 1] rfl) hR hS (by omega) (by omega)
  · have hw := hw.2 hc4
    refine lv_iconst (v := 2) hx hb (xb_d D_M_note 6 rfl) (by decide) ?_
    refine lv_aload_n hx hb (xb_d D_M_note 7 rfl) rfl (lv_at hl 0 rfl) ?_
    refine xb_getI (C := R_M) (T := F_M) (N := 97) hx hb 8 13 hts fin_M hown hR hk1 (by decide) rfl (by decide) rfl (hts _ m_d9ebb8df) (fun _ h9 => h9) (xb_d D_M_note 8 rfl) ?_
    refine lv_imul hx hb (xb_d D_M_note 9 rfl) ?_
    obtain ⟨hnq5, hbq5, hcq5, hsq5, hw⟩ := hw
    have enq5 : (Int32.toNatClampNeg (2 * (xb_i h x0 13))) = (Int32.toNatClampNeg (2 * (xb_i h x0 13))) := rfl
    refine xb_newa_i hx hb (hts _ m_d160d5ac) hR hS hA hnq5 hbq5 (show k + 1 ≤ MC by omega) (show n + _ ≤ MS by rw [enq5]; omega) (xb_d D_M_note 10 rfl) (fun q5 H hqq5 hR hS => ?_)
    rw [enq5] at hR ⊢
    have hw := hw q5 hqq5
    obtain ⟨h6, eh6⟩ : ∃ x : xb_H, x = xb_new h q5 102 (Int32.toNatClampNeg (2 * (xb_i h x0 13))) := ⟨_, rfl⟩
    rw [← eh6] at hR
    have hw := hw h6 eh6
    have hE : xb_ext h0 h6 := by rw [eh6]; exact hE.new _ _ hqq5
    have hk7 : xb_k h6 q5 = 102 := by rw [eh6]; exact xb_new_k _ _ _ _
    refine lv_astore_n hx hb (xb_d D_M_note 11 rfl) rfl hl (by decide) rfl (fun ls hl => ?_)
    have hl : lv_has ls 5 [(2, .ref q5), (0, .ref x0), (1, .int x1)] := hl
    refine lv_iconst (v := 2) hx hb (xb_d D_M_note 12 rfl) (by decide) ?_
    refine lv_aload_n hx hb (xb_d D_M_note 13 rfl) rfl (lv_at hl 1 rfl) ?_
    have hk1 : xb_k h6 x0 = 9 := by rw [eh6]; exact xb_nk hqq5 hk1
    refine xb_getI (C := R_M) (T := F_M) (N := 97) hx hb 8 13 hts fin_M hown hR hk1 (by decide) rfl (by decide) rfl (hts _ m_d9ebb8df) (fun _ h9 => h9) (xb_d D_M_note 14 rfl) ?_
    refine lv_imul hx hb (xb_d D_M_note 15 rfl) ?_
    obtain ⟨hnq8, hbq8, hcq8, hsq8, hw⟩ := hw
    have enq8 : (Int32.toNatClampNeg (2 * (xb_i h6 x0 13))) = (Int32.toNatClampNeg (2 * (xb_i h6 x0 13))) := rfl
    refine xb_newa_i hx hb (hts _ m_d160d5ac) hR hS hA hnq8 hbq8 (show (k + 1) + 1 ≤ MC by omega) (show (n + (Int32.toNatClampNeg (2 * (xb_i h x0 13)))) + _ ≤ MS by rw [enq8]; omega) (xb_d D_M_note 16 rfl) (fun q8 H hqq8 hR hS => ?_)
    rw [enq8] at hR ⊢
    have hw := hw q8 hqq8
    obtain ⟨h9, eh9⟩ : ∃ x : xb_H, x = xb_new h6 q8 102 (Int32.toNatClampNeg (2 * (xb_i h6 x0 13))) := ⟨_, rfl⟩
    rw [← eh9] at hR
    have hw := hw h9 eh9
    have hE : xb_ext h0 h9 := by rw [eh9]; exact hE.new _ _ hqq8
    have hk10 : xb_k h9 q8 = 102 := by rw [eh9]; exact xb_new_k _ _ _ _
    refine lv_astore_n hx hb (xb_d D_M_note 17 rfl) rfl hl (by decide) rfl (fun ls hl => ?_)
    have hl : lv_has ls 5 [(3, .ref q8), (2, .ref q5), (0, .ref x0), (1, .int x1)] := hl
    refine lv_iconst (v := 0) hx hb (xb_d D_M_note 18 rfl) (by decide) ?_
    refine lv_istore hx hb (xb_d D_M_note 19 rfl) hl (by decide) rfl (fun ls hl => ?_)
    have hl : lv_has ls 5 [(4, .int 0), (3, .ref q8), (2, .ref q5), (0, .ref x0), (1, .int x1)] := hl
    obtain ⟨n8, hw⟩ := hw
    exact am_M_note_L33 l hfl D A σ MC MS h0 Qr n8 x0 x1 q5 q8 0 h9 ((bc - 1) - 1) ((bs - (Int32.toNatClampNeg (2 * (xb_i h x0 13)))) - (Int32.toNatClampNeg (2 * (xb_i h6 x0 13)))) hw p e s m args below meth c hC H locs ls ((k + 1) + 1) ((n + (Int32.toNatClampNeg (2 * (xb_i h x0 13)))) + (Int32.toNatClampNeg (2 * (xb_i h6 x0 13)))) hE (lv_sub hl [3, 4, 2, 1, 0] rfl) hR hS (by omega) (by omega)

theorem m_70e943ac : (.fieldLink "StackHostModel" 139 "StackHostModel" "callFunction" "[I" : Cond) ∈ xt_tbl := xt_in (xt_t9 (List.mem_of_getElem? (i := 208) (by decide +kernel))) (by decide +kernel)
theorem m_691d5f47 : (.fieldLink "StackHostModel" 62 "StackHostModel" "moduleOf" "[I" : Cond) ∈ xt_tbl := xt_in (xt_t9 (List.mem_of_getElem? (i := 170) (by decide +kernel))) (by decide +kernel)
theorem m_ad0cc5a3 : (.fieldLink "StackHostModel" 92 "StackHostModel" "functionOf" "[I" : Cond) ∈ xt_tbl := xt_in (xt_t9 (List.mem_of_getElem? (i := 183) (by decide +kernel))) (by decide +kernel)
theorem m_6e1e432a : (.fieldLink "StackHostModel" 173 "StackHostModel" "trapped" "[I" : Cond) ∈ xt_tbl := xt_in (xt_t9 (List.mem_of_getElem? (i := 224) (by decide +kernel))) (by decide +kernel)
theorem m_01d0d957 : (.fieldLink "StackHostModel" 30 "StackHostModel" "imported" "[I" : Cond) ∈ xt_tbl := xt_in (xt_t9 (List.mem_of_getElem? (i := 149) (by decide +kernel))) (by decide +kernel)
theorem m_4c98e665 : (.fieldLink "StackHostModel" 95 "StackHostModel" "bodyOf" "[I" : Cond) ∈ xt_tbl := xt_in (xt_t9 (List.mem_of_getElem? (i := 184) (by decide +kernel))) (by decide +kernel)
theorem m_ad343437 : (.fieldLink "StackHostModel" 625 "StackHostModel" "trap" "I" : Cond) ∈ xt_tbl := xt_in (xt_t9 (List.mem_of_getElem? (i := 221) (by decide +kernel))) (by decide +kernel)
set_option maxRecDepth 100000 in
def T_M_noteTrap : List (Nat × Instr × Nat) := [(0, .aload_n 0, 1), (1, .getfield 625, 3), (4, .ifCond .ne 4, 3), (7, .return_, 1), (8, .aload_n 0, 1), (9, .getfield 173, 3), (12, .iconst 0, 1), (13, .aload_n 0, 1), (14, .getfield 625, 3), (17, .iastore, 1), (18, .iconst 1, 1), (19, .istore_n 2, 1), (20, .iload_n 2, 1), (21, .iconst 4, 1), (22, .if_icmp .ge 16, 3), (25, .aload_n 0, 1), (26, .getfield 173, 3), (29, .iload_n 2, 1), (30, .iconst (-1), 1), (31, .iastore, 1), (32, .iinc 2 1, 3), (35, .goto (-15), 3), (38, .aload_n 0, 1), (39, .getfield 616, 3), (42, .ifCond .le 74, 3), (45, .aload_n 0, 1), (46, .getfield 139, 3), (49, .aload_n 0, 1), (50, .getfield 616, 3), (53, .iconst 1, 1), (54, .isub, 1), (55, .iaload, 1), (56, .istore_n 2, 1), (57, .aload_n 0, 1), (58, .getfield 62, 3), (61, .aload_n 0, 1), (62, .getfield 92, 3), (65, .iload_n 2, 1), (66, .iaload, 1), (67, .iaload, 1), (68, .istore_n 3, 1), (69, .aload_n 0, 1), (70, .getfield 173, 3), (73, .iconst 1, 1), (74, .aload_n 0, 1), (75, .getfield 92, 3), (78, .iload_n 2, 1), (79, .iaload, 1), (80, .iastore, 1), (81, .aload_n 0, 1), (82, .getfield 173, 3), (85, .iconst 2, 1), (86, .aload_n 0, 1), (87, .getfield 30, 3), (90, .iconst 4, 1), (91, .iload_n 3, 1), (92, .imul, 1), (93, .iaload, 1), (94, .aload_n 0, 1), (95, .getfield 95, 3), (98, .iload_n 2, 1), (99, .iaload, 1), (100, .iadd, 1), (101, .iastore, 1), (102, .aload_n 0, 1), (103, .getfield 173, 3), (106, .iconst 3, 1), (107, .iload_n 1, 1), (108, .aload_n 0, 1), (109, .getfield 17, 3), (112, .iload_n 3, 1), (113, .iaload, 1), (114, .isub, 1), (115, .iastore, 1), (116, .return_, 1)]
theorem D_M_noteTrap : ∀ q ∈ T_M_noteTrap, decode b_M_noteTrap q.1 = .ok (q.2.1, q.2.2) := by decide +kernel
def w_M_noteTrap_L116 (Qr : xb_H → Prop) (h : xb_H) : Prop :=
    Qr h

def w_M_noteTrap_L20 (Qr : xb_H → Prop) : Nat → Nat → Int32 → Int32 → xb_H → Prop
  | 0, _, _, _, _ => False
  | n9 + 1, x0, x1, x2, h =>
    (((4 : Int32) ≤ x2 → xb_k h x0 = 9 ∧ (((xb_i h x0 68) ≤ (0 : Int32) → w_M_noteTrap_L116 Qr h) ∧ (¬ (xb_i h x0 68) ≤ (0 : Int32) → ∃ b4 : Nat, (xb_r h x0 69) = some b4 ∧ xb_k h b4 = 102 ∧ vp_in ((xb_i h x0 68) - 1) (xb_n h b4) ∧ ∀ v7 : Int32, v7 = (xb_i h b4 (Int32.toNatClampNeg ((xb_i h x0 68) - 1))) → ∃ b8 : Nat, (xb_r h x0 31) = some b8 ∧ ∃ b9 : Nat, (xb_r h x0 44) = some b9 ∧ xb_k h b9 = 102 ∧ vp_in v7 (xb_n h b9) ∧ xb_k h b8 = 102 ∧ vp_in (xb_i h b9 (Int32.toNatClampNeg v7)) (xb_n h b8) ∧ ∀ v14 : Int32, v14 = (xb_i h b8 (Int32.toNatClampNeg (xb_i h b9 (Int32.toNatClampNeg v7)))) → ∃ b15 : Nat, (xb_r h x0 86) = some b15 ∧ ∃ b16 : Nat, (xb_r h x0 44) = some b16 ∧ xb_k h b16 = 102 ∧ vp_in v7 (xb_n h b16) ∧ xb_k h b15 = 102 ∧ vp_in 1 (xb_n h b15) ∧ ∀ h21 : xb_H, h21 = xb_I h b15 (Int32.toNatClampNeg 1) (xb_i h b16 (Int32.toNatClampNeg v7)) → ∃ b22 : Nat, (xb_r h21 x0 86) = some b22 ∧ ∃ b23 : Nat, (xb_r h21 x0 10) = some b23 ∧ xb_k h21 b23 = 102 ∧ vp_in (4 * v14) (xb_n h21 b23) ∧ ∃ b26 : Nat, (xb_r h21 x0 45) = some b26 ∧ xb_k h21 b26 = 102 ∧ vp_in v7 (xb_n h21 b26) ∧ xb_k h21 b22 = 102 ∧ vp_in 2 (xb_n h21 b22) ∧ ∀ h31 : xb_H, h31 = xb_I h21 b22 (Int32.toNatClampNeg 2) ((xb_i h21 b23 (Int32.toNatClampNeg (4 * v14))) + (xb_i h21 b26 (Int32.toNatClampNeg v7))) → ∃ b32 : Nat, (xb_r h31 x0 86) = some b32 ∧ ∃ b33 : Nat, (xb_r h31 x0 6) = some b33 ∧ xb_k h31 b33 = 102 ∧ vp_in v14 (xb_n h31 b33) ∧ xb_k h31 b32 = 102 ∧ vp_in 3 (xb_n h31 b32) ∧ ∀ h38 : xb_H, h38 = xb_I h31 b32 (Int32.toNatClampNeg 3) (x1 - (xb_i h31 b33 (Int32.toNatClampNeg v14))) → w_M_noteTrap_L116 Qr h38))) ∧ (¬ (4 : Int32) ≤ x2 → xb_k h x0 = 9 ∧ ∃ b40 : Nat, (xb_r h x0 86) = some b40 ∧ xb_k h b40 = 102 ∧ vp_in x2 (xb_n h b40) ∧ ∀ h43 : xb_H, h43 = xb_I h b40 (Int32.toNatClampNeg x2) (-1) → w_M_noteTrap_L20 Qr n9 x0 x1 (x2 + 1) h43))

def w_M_noteTrap (x0 : Nat) (x1 : Int32) (h : xb_H) (Qr : xb_H → Prop) : Prop :=
    xb_k h x0 = 9 ∧ ((¬ (xb_i h x0 82) = (0 : Int32) → ∃ b3 : Nat, (xb_r h x0 86) = some b3 ∧ xb_k h b3 = 102 ∧ vp_in 0 (xb_n h b3) ∧ ∀ h6 : xb_H, h6 = xb_I h b3 (Int32.toNatClampNeg 0) (xb_i h x0 82) → (∃ n8 : Nat, w_M_noteTrap_L20 Qr n8 x0 x1 1 h6)) ∧ ((xb_i h x0 82) = (0 : Int32) → Qr h))

set_option maxHeartbeats 4000000 in
set_option maxRecDepth 100000 in
theorem am_M_noteTrap_L116 (l : Launch) (hfl : l.flags = pinnedFlags ++ [noTraceFlag]) (D : va_G) (A : Nat → Prop) (σ MC MS : Nat) (h0 : xb_H) (Qr : xb_H → Prop) (h : xb_H) (hw : w_M_noteTrap_L116 Qr h) : xb_am l D A σ 2 MC MS h0 (fun v h => v = none ∧ Qr h) (fun _ _ => False) y_M_noteTrap.cls y_M_noteTrap.name b_M_noteTrap 4 ([] : List ExceptionTableEntry) none 116 [] [] h 0 0 := by
  unfold w_M_noteTrap_L116 at hw
  intro p e s m args below meth c hC H locs ls k n hE hl hR hS hk hn
  obtain ⟨hx, hb, hown, hlocks, htab, hml, hr, hB, hA, hnm⟩ := id hC
  have hts := hB.1.1.at args
  exact xb_vret hx hb hr hlocks (show k ≤ MC by omega) (show n ≤ MS by omega) hE hR hS (xb_d D_M_noteTrap 74 rfl) hw

set_option maxHeartbeats 4000000 in
set_option maxRecDepth 100000 in
theorem am_M_noteTrap_L20 (l : Launch) (hfl : l.flags = pinnedFlags ++ [noTraceFlag]) (D : va_G) (A : Nat → Prop) (σ MC MS : Nat) (h0 : xb_H) (Qr : xb_H → Prop) (n9 : Nat) : ∀ (x0 : Nat) (x1 : Int32) (x2 : Int32) (h : xb_H), w_M_noteTrap_L20 Qr n9 x0 x1 x2 h → xb_am l D A σ 2 MC MS h0 (fun v h => v = none ∧ Qr h) (fun _ _ => False) y_M_noteTrap.cls y_M_noteTrap.name b_M_noteTrap 4 ([] : List ExceptionTableEntry) none 20 [(0, .ref x0), (1, .int x1), (2, .int x2)] [] h 0 0 := by
  induction n9 with
  | zero => intro x0 x1 x2 h hw; exact False.elim hw
  | succ n9 ih =>
    intro x0 x1 x2 h hw
    unfold w_M_noteTrap_L20 at hw
    intro p e s m args below meth c hC H locs ls k n hE hl hR hS hk hn
    obtain ⟨hx, hb, hown, hlocks, htab, hml, hr, hB, hA, hnm⟩ := id hC
    have hts := hB.1.1.at args
    refine lv_iload_n hx hb (xb_d D_M_noteTrap 12 rfl) rfl (lv_at hl 2 rfl) ?_
    refine lv_iconst (v := 4) hx hb (xb_d D_M_noteTrap 13 rfl) (by decide) ?_
    refine lv_icmp_ge (tgt := 38) hx hb (xb_d D_M_noteTrap 14 rfl) rfl (fun hc1 => ?_) (fun hc1 => ?_)
    · have hw := hw.1 hc1
      refine lv_aload_n hx hb (xb_d D_M_noteTrap 22 rfl) rfl (lv_at hl 0 rfl) ?_
      obtain ⟨hk2, hw⟩ := hw
      refine xb_getI (C := R_M) (T := F_M) (N := 97) hx hb 8 68 hts fin_M hown hR hk2 (by decide) rfl (by decide) rfl (hts _ m_11712ae1) (fun _ h9 => h9) (xb_d D_M_noteTrap 23 rfl) ?_
      refine lv_if_le (tgt := 116) hx hb (xb_d D_M_noteTrap 24 rfl) rfl (fun hc3 => ?_) (fun hc3 => ?_)
      · have hw := hw.1 hc3
        exact am_M_noteTrap_L116 l hfl D A σ MC MS h0 Qr h hw p e s m args below meth c hC H locs ls k n hE (lv_sub hl [] rfl) hR hS (by omega) (by omega)
      · have hw := hw.2 hc3
        refine lv_aload_n hx hb (xb_d D_M_noteTrap 25 rfl) rfl (lv_at hl 0 rfl) ?_
        refine xb_getP (C := R_M) (T := F_M) (N := 97) hx hb 8 69 hts fin_M hown hR hk2 (by decide) rfl (by decide) rfl (hts _ m_70e943ac) (fun _ h9 => h9) (xb_d D_M_noteTrap 26 rfl) ?_
        obtain ⟨b4, eb4, hw⟩ := hw
        refine xb_some eb4 ?_
        refine lv_aload_n hx hb (xb_d D_M_noteTrap 27 rfl) rfl (lv_at hl 0 rfl) ?_
        refine xb_getI (C := R_M) (T := F_M) (N := 97) hx hb 8 68 hts fin_M hown hR hk2 (by decide) rfl (by decide) rfl (hts _ m_11712ae1) (fun _ h9 => h9) (xb_d D_M_noteTrap 28 rfl) ?_
        refine lv_iconst (v := 1) hx hb (xb_d D_M_noteTrap 29 rfl) (by decide) ?_
        refine lv_isub hx hb (xb_d D_M_noteTrap 30 rfl) ?_
        obtain ⟨hk6, hw⟩ := hw
        obtain ⟨hi5, hw⟩ := hw
        refine xb_iald hx hb hR hk6 hi5 (xb_d D_M_noteTrap 31 rfl) ?_
        obtain ⟨v7, ev7⟩ : ∃ x : Int32, x = (xb_i h b4 (Int32.toNatClampNeg ((xb_i h x0 68) - 1))) := ⟨_, rfl⟩
        have hw := hw v7 ev7
        refine xt_numi (y := v7) ev7.symm ?_
        refine lv_istore_n hx hb (xb_d D_M_noteTrap 32 rfl) rfl hl (by decide) rfl (fun ls hl => ?_)
        have hl : lv_has ls 4 [(2, .int v7), (0, .ref x0), (1, .int x1)] := hl
        refine lv_aload_n hx hb (xb_d D_M_noteTrap 33 rfl) rfl (lv_at hl 1 rfl) ?_
        refine xb_getP (C := R_M) (T := F_M) (N := 97) hx hb 8 31 hts fin_M hown hR hk2 (by decide) rfl (by decide) rfl (hts _ m_691d5f47) (fun _ h9 => h9) (xb_d D_M_noteTrap 34 rfl) ?_
        obtain ⟨b8, eb8, hw⟩ := hw
        refine xb_some eb8 ?_
        refine lv_aload_n hx hb (xb_d D_M_noteTrap 35 rfl) rfl (lv_at hl 1 rfl) ?_
        refine xb_getP (C := R_M) (T := F_M) (N := 97) hx hb 8 44 hts fin_M hown hR hk2 (by decide) rfl (by decide) rfl (hts _ m_ad0cc5a3) (fun _ h9 => h9) (xb_d D_M_noteTrap 36 rfl) ?_
        obtain ⟨b9, eb9, hw⟩ := hw
        refine xb_some eb9 ?_
        refine lv_iload_n hx hb (xb_d D_M_noteTrap 37 rfl) rfl (lv_at hl 0 rfl) ?_
        obtain ⟨hk11, hw⟩ := hw
        obtain ⟨hi10, hw⟩ := hw
        refine xb_iald hx hb hR hk11 hi10 (xb_d D_M_noteTrap 38 rfl) ?_
        obtain ⟨hk13, hw⟩ := hw
        obtain ⟨hi12, hw⟩ := hw
        refine xb_iald hx hb hR hk13 hi12 (xb_d D_M_noteTrap 39 rfl) ?_
        obtain ⟨v14, ev14⟩ : ∃ x : Int32, x = (xb_i h b8 (Int32.toNatClampNeg (xb_i h b9 (Int32.toNatClampNeg v7)))) := ⟨_, rfl⟩
        have hw := hw v14 ev14
        refine xt_numi (y := v14) ev14.symm ?_
        refine lv_istore_n hx hb (xb_d D_M_noteTrap 40 rfl) rfl hl (by decide) rfl (fun ls hl => ?_)
        have hl : lv_has ls 4 [(3, .int v14), (2, .int v7), (0, .ref x0), (1, .int x1)] := hl
        refine lv_aload_n hx hb (xb_d D_M_noteTrap 41 rfl) rfl (lv_at hl 2 rfl) ?_
        refine xb_getP (C := R_M) (T := F_M) (N := 97) hx hb 8 86 hts fin_M hown hR hk2 (by decide) rfl (by decide) rfl (hts _ m_6e1e432a) (fun _ h9 => h9) (xb_d D_M_noteTrap 42 rfl) ?_
        obtain ⟨b15, eb15, hw⟩ := hw
        refine xb_some eb15 ?_
        refine lv_iconst (v := 1) hx hb (xb_d D_M_noteTrap 43 rfl) (by decide) ?_
        refine lv_aload_n hx hb (xb_d D_M_noteTrap 44 rfl) rfl (lv_at hl 2 rfl) ?_
        refine xb_getP (C := R_M) (T := F_M) (N := 97) hx hb 8 44 hts fin_M hown hR hk2 (by decide) rfl (by decide) rfl (hts _ m_ad0cc5a3) (fun _ h9 => h9) (xb_d D_M_noteTrap 45 rfl) ?_
        obtain ⟨b16, eb16, hw⟩ := hw
        refine xb_some eb16 ?_
        refine lv_iload_n hx hb (xb_d D_M_noteTrap 46 rfl) rfl (lv_at hl 1 rfl) ?_
        obtain ⟨hk18, hw⟩ := hw
        obtain ⟨hi17, hw⟩ := hw
        refine xb_iald hx hb hR hk18 hi17 (xb_d D_M_noteTrap 47 rfl) ?_
        obtain ⟨hk19, hw⟩ := hw
        obtain ⟨hi20, hw⟩ := hw
        refine xb_iast hx hb hR hS hk19 hi20 (xb_d D_M_noteTrap 48 rfl) (fun H locs hR hS => ?_)
        obtain ⟨h21, eh21⟩ : ∃ x : xb_H, x = xb_I h b15 (Int32.toNatClampNeg 1) (xb_i h b16 (Int32.toNatClampNeg v7)) := ⟨_, rfl⟩
        rw [← eh21] at hR
        have hw := hw h21 eh21
        have hE : xb_ext h0 h21 := by rw [eh21]; exact hE
        refine lv_aload_n hx hb (xb_d D_M_noteTrap 49 rfl) rfl (lv_at hl 2 rfl) ?_
        have hk2 : xb_k h21 x0 = 9 := by rw [eh21]; exact hk2
        refine xb_getP (C := R_M) (T := F_M) (N := 97) hx hb 8 86 hts fin_M hown hR hk2 (by decide) rfl (by decide) rfl (hts _ m_6e1e432a) (fun _ h9 => h9) (xb_d D_M_noteTrap 50 rfl) ?_
        obtain ⟨b22, eb22, hw⟩ := hw
        refine xb_some eb22 ?_
        refine lv_iconst (v := 2) hx hb (xb_d D_M_noteTrap 51 rfl) (by decide) ?_
        refine lv_aload_n hx hb (xb_d D_M_noteTrap 52 rfl) rfl (lv_at hl 2 rfl) ?_
        refine xb_getP (C := R_M) (T := F_M) (N := 97) hx hb 8 10 hts fin_M hown hR hk2 (by decide) rfl (by decide) rfl (hts _ m_01d0d957) (fun _ h9 => h9) (xb_d D_M_noteTrap 53 rfl) ?_
        obtain ⟨b23, eb23, hw⟩ := hw
        refine xb_some eb23 ?_
        refine lv_iconst (v := 4) hx hb (xb_d D_M_noteTrap 54 rfl) (by decide) ?_
        refine lv_iload_n hx hb (xb_d D_M_noteTrap 55 rfl) rfl (lv_at hl 0 rfl) ?_
        refine lv_imul hx hb (xb_d D_M_noteTrap 56 rfl) ?_
        obtain ⟨hk25, hw⟩ := hw
        obtain ⟨hi24, hw⟩ := hw
        refine xb_iald hx hb hR hk25 hi24 (xb_d D_M_noteTrap 57 rfl) ?_
        refine lv_aload_n hx hb (xb_d D_M_noteTrap 58 rfl) rfl (lv_at hl 2 rfl) ?_
        refine xb_getP (C := R_M) (T := F_M) (N := 97) hx hb 8 45 hts fin_M hown hR hk2 (by decide) rfl (by decide) rfl (hts _ m_4c98e665) (fun _ h9 => h9) (xb_d D_M_noteTrap 59 rfl) ?_
        obtain ⟨b26, eb26, hw⟩ := hw
        refine xb_some eb26 ?_
        refine lv_iload_n hx hb (xb_d D_M_noteTrap 60 rfl) rfl (lv_at hl 1 rfl) ?_
        obtain ⟨hk28, hw⟩ := hw
        obtain ⟨hi27, hw⟩ := hw
        refine xb_iald hx hb hR hk28 hi27 (xb_d D_M_noteTrap 61 rfl) ?_
        refine lv_iadd hx hb (xb_d D_M_noteTrap 62 rfl) ?_
        obtain ⟨hk29, hw⟩ := hw
        obtain ⟨hi30, hw⟩ := hw
        refine xb_iast hx hb hR hS hk29 hi30 (xb_d D_M_noteTrap 63 rfl) (fun H locs hR hS => ?_)
        obtain ⟨h31, eh31⟩ : ∃ x : xb_H, x = xb_I h21 b22 (Int32.toNatClampNeg 2) ((xb_i h21 b23 (Int32.toNatClampNeg (4 * v14))) + (xb_i h21 b26 (Int32.toNatClampNeg v7))) := ⟨_, rfl⟩
        rw [← eh31] at hR
        have hw := hw h31 eh31
        have hE : xb_ext h0 h31 := by rw [eh31]; exact hE
        refine lv_aload_n hx hb (xb_d D_M_noteTrap 64 rfl) rfl (lv_at hl 2 rfl) ?_
        have hk2 : xb_k h31 x0 = 9 := by rw [eh31]; exact hk2
        refine xb_getP (C := R_M) (T := F_M) (N := 97) hx hb 8 86 hts fin_M hown hR hk2 (by decide) rfl (by decide) rfl (hts _ m_6e1e432a) (fun _ h9 => h9) (xb_d D_M_noteTrap 65 rfl) ?_
        obtain ⟨b32, eb32, hw⟩ := hw
        refine xb_some eb32 ?_
        refine lv_iconst (v := 3) hx hb (xb_d D_M_noteTrap 66 rfl) (by decide) ?_
        refine lv_iload_n hx hb (xb_d D_M_noteTrap 67 rfl) rfl (lv_at hl 3 rfl) ?_
        refine lv_aload_n hx hb (xb_d D_M_noteTrap 68 rfl) rfl (lv_at hl 2 rfl) ?_
        refine xb_getP (C := R_M) (T := F_M) (N := 97) hx hb 8 6 hts fin_M hown hR hk2 (by decide) rfl (by decide) rfl (hts _ m_2efec494) (fun _ h9 => h9) (xb_d D_M_noteTrap 69 rfl) ?_
        obtain ⟨b33, eb33, hw⟩ := hw
        refine xb_some eb33 ?_
        refine lv_iload_n hx hb (xb_d D_M_noteTrap 70 rfl) rfl (lv_at hl 0 rfl) ?_
        obtain ⟨hk35, hw⟩ := hw
        obtain ⟨hi34, hw⟩ := hw
        refine xb_iald hx hb hR hk35 hi34 (xb_d D_M_noteTrap 71 rfl) ?_
        refine lv_isub hx hb (xb_d D_M_noteTrap 72 rfl) ?_
        obtain ⟨hk36, hw⟩ := hw
        obtain ⟨hi37, hw⟩ := hw
        refine xb_iast hx hb hR hS hk36 hi37 (xb_d D_M_noteTrap 73 rfl) (fun H locs hR hS => ?_)
        obtain ⟨h38, eh38⟩ : ∃ x : xb_H, x = xb_I h31 b32 (Int32.toNatClampNeg 3) (x1 - (xb_i h31 b33 (Int32.toNatClampNeg v14))) := ⟨_, rfl⟩
        rw [← eh38] at hR
        have hw := hw h38 eh38
        have hE : xb_ext h0 h38 := by rw [eh38]; exact hE
        exact am_M_noteTrap_L116 l hfl D A σ MC MS h0 Qr h38 hw p e s m args below meth c hC H locs ls k n hE (lv_sub hl [] rfl) hR hS (by omega) (by omega)
    · have hw := hw.2 hc1
      refine lv_aload_n hx hb (xb_d D_M_noteTrap 15 rfl) rfl (lv_at hl 0 rfl) ?_
      obtain ⟨hk39, hw⟩ := hw
      refine xb_getP (C := R_M) (T := F_M) (N := 97) hx hb 8 86 hts fin_M hown hR hk39 (by decide) rfl (by decide) rfl (hts _ m_6e1e432a) (fun _ h9 => h9) (xb_d D_M_noteTrap 16 rfl) ?_
      obtain ⟨b40, eb40, hw⟩ := hw
      refine xb_some eb40 ?_
      refine lv_iload_n hx hb (xb_d D_M_noteTrap 17 rfl) rfl (lv_at hl 2 rfl) ?_
      refine lv_iconst (v := (-1)) hx hb (xb_d D_M_noteTrap 18 rfl) (by decide) ?_
      obtain ⟨hk41, hw⟩ := hw
      obtain ⟨hi42, hw⟩ := hw
      refine xb_iast hx hb hR hS hk41 hi42 (xb_d D_M_noteTrap 19 rfl) (fun H locs hR hS => ?_)
      obtain ⟨h43, eh43⟩ : ∃ x : xb_H, x = xb_I h b40 (Int32.toNatClampNeg x2) (-1) := ⟨_, rfl⟩
      rw [← eh43] at hR
      have hw := hw h43 eh43
      have hE : xb_ext h0 h43 := by rw [eh43]; exact hE
      refine lv_iinc (v := (x2 + 1)) (k := 2) hx hb (xb_d D_M_noteTrap 20 rfl) hl rfl (by first | rfl | decide) (by decide) rfl (fun ls hl => ?_)
      have hl : lv_has ls 4 [(2, .int (x2 + 1)), (0, .ref x0), (1, .int x1)] := hl
      refine lv_goto (tgt := 20) hx hb (xb_d D_M_noteTrap 21 rfl) rfl ?_
      exact ih x0 x1 (x2 + 1) h43 hw p e s m args below meth c hC H locs ls k n hE (lv_sub hl [1, 2, 0] rfl) hR hS (by omega) (by omega)

set_option maxHeartbeats 4000000 in
set_option maxRecDepth 100000 in
theorem ok_M_noteTrap (l : Launch) (hfl : l.flags = pinnedFlags ++ [noTraceFlag]) (D : va_G) (A : Nat → Prop) (σ : Nat) (x0 : Nat) (x1 : Int32) (h : xb_H) (Qr : xb_H → Prop) (hw : w_M_noteTrap x0 x1 h Qr) : xt_Met l y_M_noteTrap [.code y_M_noteTrap b_M_noteTrap 4 none] (xb_rm 2 0 0) (xb_Pc D A σ h [.ref x0, .int x1]) (xb_Qc D A h (fun v h => v = none ∧ Qr h) (fun _ _ => False)) 0 0 A := by
  refine xb_ofAm (cc := b_M_noteTrap) (by decide) (Nat.le_of_ble_eq_true rfl) ?_
  unfold w_M_noteTrap at hw
  show xb_am l D A σ 2 0 0 h (fun v h => v = none ∧ Qr h) (fun _ _ => False) y_M_noteTrap.cls y_M_noteTrap.name b_M_noteTrap 4 ([] : List ExceptionTableEntry) none 0 [(0, .ref x0), (1, .int x1)] [] h 0 0
  obtain ⟨MC, hMC⟩ : ∃ x, x = 0 := ⟨_, rfl⟩
  obtain ⟨MS, hMS⟩ : ∃ x, x = 0 := ⟨_, rfl⟩
  rw [show xb_am l D A σ 2 0 0 = xb_am l D A σ 2 MC MS by rw [hMC, hMS]]
  obtain ⟨h0, hh0⟩ : ∃ x, x = h := ⟨_, rfl⟩
  rw [show xb_am l D A σ 2 MC MS h = xb_am l D A σ 2 MC MS h0 by rw [hh0]]
  intro p e s m args below meth c hC H locs ls k n hE hl hR hS hk hn
  obtain ⟨hx, hb, hown, hlocks, htab, hml, hr, hB, hA, hnm⟩ := id hC
  have hts := hB.1.1.at args
  refine lv_aload_n hx hb (xb_d D_M_noteTrap 0 rfl) rfl (lv_at hl 0 rfl) ?_
  obtain ⟨hk1, hw⟩ := hw
  refine xb_getI (C := R_M) (T := F_M) (N := 97) hx hb 8 82 hts fin_M hown hR hk1 (by decide) rfl (by decide) rfl (hts _ m_ad343437) (fun _ h9 => h9) (xb_d D_M_noteTrap 1 rfl) ?_
  refine lv_if_ne (tgt := 8) hx hb (xb_d D_M_noteTrap 2 rfl) rfl (fun hc2 => ?_) (fun hc2 => ?_)
  · have hw := hw.1 hc2
    refine lv_aload_n hx hb (xb_d D_M_noteTrap 4 rfl) rfl (lv_at hl 0 rfl) ?_
    refine xb_getP (C := R_M) (T := F_M) (N := 97) hx hb 8 86 hts fin_M hown hR hk1 (by decide) rfl (by decide) rfl (hts _ m_6e1e432a) (fun _ h9 => h9) (xb_d D_M_noteTrap 5 rfl) ?_
    obtain ⟨b3, eb3, hw⟩ := hw
    refine xb_some eb3 ?_
    refine lv_iconst (v := 0) hx hb (xb_d D_M_noteTrap 6 rfl) (by decide) ?_
    refine lv_aload_n hx hb (xb_d D_M_noteTrap 7 rfl) rfl (lv_at hl 0 rfl) ?_
    refine xb_getI (C := R_M) (T := F_M) (N := 97) hx hb 8 82 hts fin_M hown hR hk1 (by decide) rfl (by decide) rfl (hts _ m_ad343437) (fun _ h9 => h9) (xb_d D_M_noteTrap 8 rfl) ?_
    obtain ⟨hk4, hw⟩ := hw
    obtain ⟨hi5, hw⟩ := hw
    refine xb_iast hx hb hR hS hk4 hi5 (xb_d D_M_noteTrap 9 rfl) (fun H locs hR hS => ?_)
    obtain ⟨h6, eh6⟩ : ∃ x : xb_H, x = xb_I h b3 (Int32.toNatClampNeg 0) (xb_i h x0 82) := ⟨_, rfl⟩
    rw [← eh6] at hR
    have hw := hw h6 eh6
    have hE : xb_ext h0 h6 := by rw [eh6]; exact hE
    refine lv_iconst (v := 1) hx hb (xb_d D_M_noteTrap 10 rfl) (by decide) ?_
    refine lv_istore_n hx hb (xb_d D_M_noteTrap 11 rfl) rfl hl (by decide) rfl (fun ls hl => ?_)
    have hl : lv_has ls 4 [(2, .int 1), (0, .ref x0), (1, .int x1)] := hl
    obtain ⟨n8, hw⟩ := hw
    exact am_M_noteTrap_L20 l hfl D A σ MC MS h0 Qr n8 x0 x1 1 h6 hw p e s m args below meth c hC H locs ls k n hE (lv_sub hl [1, 2, 0] rfl) hR hS (by omega) (by omega)
  · have hw := hw.2 hc2
    exact xb_vret hx hb hr hlocks (show k ≤ MC by omega) (show n ≤ MS by omega) hE hR hS (xb_d D_M_noteTrap 3 rfl) hw

theorem m_4fda1f04 : (.constantLong "StackHostModel" 352 65536 : Cond) ∈ xt_tbl := xt_in (xt_t11 (List.mem_of_getElem? (i := 96) (by decide +kernel))) (by decide +kernel)
theorem m_36de59d5 : (.constant "StackHostModel" 7 65536 : Cond) ∈ xt_tbl := xt_in (xt_t9 (List.mem_of_getElem? (i := 94) (by decide +kernel))) (by decide +kernel)
theorem m_e7f615b2 : (.fieldLink "StackHostModel" 117 "StackHostModel" "pageAt" "[I" : Cond) ∈ xt_tbl := xt_in (xt_t9 (List.mem_of_getElem? (i := 195) (by decide +kernel))) (by decide +kernel)
set_option maxRecDepth 100000 in
def T_M_ofMemory : List (Nat × Instr × Nat) := [(0, .lload_n 2, 1), (1, .ldc2_w 352, 3), (4, .ldiv, 1), (5, .l2i, 1), (6, .istore 4, 2), (8, .ldc 7, 2), (10, .aload_n 0, 1), (11, .getfield 117, 3), (14, .bipush 16, 2), (16, .iload_n 1, 1), (17, .imul, 1), (18, .iload 4, 2), (20, .iadd, 1), (21, .iaload, 1), (22, .imul, 1), (23, .lload_n 2, 1), (24, .ldc2_w 352, 3), (27, .lrem, 1), (28, .l2i, 1), (29, .iadd, 1), (30, .ireturn, 1)]
theorem D_M_ofMemory : ∀ q ∈ T_M_ofMemory, decode b_M_ofMemory q.1 = .ok (q.2.1, q.2.2) := by decide +kernel
def w_M_ofMemory (x0 : Nat) (x1 : Int32) (x2 : Int64) (h : xb_H) (Qr : Int32 → xb_H → Prop) : Prop :=
    ∀ v1 : Int32, v1 = (Int64.toInt32 (x2 / 65536)) → xb_k h x0 = 9 ∧ ∃ b3 : Nat, (xb_r h x0 56) = some b3 ∧ xb_k h b3 = 102 ∧ vp_in ((16 * x1) + v1) (xb_n h b3) ∧ Qr ((65536 * (xb_i h b3 (Int32.toNatClampNeg ((16 * x1) + v1)))) + (Int64.toInt32 (x2 - x2 / 65536 * 65536))) h

set_option maxHeartbeats 4000000 in
set_option maxRecDepth 100000 in
theorem ok_M_ofMemory (l : Launch) (hfl : l.flags = pinnedFlags ++ [noTraceFlag]) (D : va_G) (A : Nat → Prop) (σ : Nat) (x0 : Nat) (x1 : Int32) (x2 : Int64) (h : xb_H) (Qr : Int32 → xb_H → Prop) (hw : w_M_ofMemory x0 x1 x2 h Qr) : xt_Met l y_M_ofMemory [.code y_M_ofMemory b_M_ofMemory 5 (some .int)] (xb_rm 2 0 0) (xb_Pc D A σ h [.ref x0, .int x1, .long x2]) (xb_Qc D A h (fun v h => ∃ r, v = some (.int r) ∧ Qr r h) (fun _ _ => False)) 0 0 A := by
  refine xb_ofAm (cc := b_M_ofMemory) (by decide) (Nat.le_of_ble_eq_true rfl) ?_
  unfold w_M_ofMemory at hw
  show xb_am l D A σ 2 0 0 h (fun v h => ∃ r, v = some (.int r) ∧ Qr r h) (fun _ _ => False) y_M_ofMemory.cls y_M_ofMemory.name b_M_ofMemory 5 ([] : List ExceptionTableEntry) (some .int) 0 [(0, .ref x0), (1, .int x1), (2, .long x2)] [] h 0 0
  obtain ⟨MC, hMC⟩ : ∃ x, x = 0 := ⟨_, rfl⟩
  obtain ⟨MS, hMS⟩ : ∃ x, x = 0 := ⟨_, rfl⟩
  rw [show xb_am l D A σ 2 0 0 = xb_am l D A σ 2 MC MS by rw [hMC, hMS]]
  obtain ⟨h0, hh0⟩ : ∃ x, x = h := ⟨_, rfl⟩
  rw [show xb_am l D A σ 2 MC MS h = xb_am l D A σ 2 MC MS h0 by rw [hh0]]
  intro p e s m args below meth c hC H locs ls k n hE hl hR hS hk hn
  obtain ⟨hx, hb, hown, hlocks, htab, hml, hr, hB, hA, hnm⟩ := id hC
  have hts := hB.1.1.at args
  refine lv_lload_n hx hb (xb_d D_M_ofMemory 0 rfl) rfl (lv_at hl 2 rfl) ?_
  refine lv_ldc2 (v := 65536) hx hb hown (hts _ m_4fda1f04) (xb_d D_M_ofMemory 1 rfl) ?_
  refine lv_ldiv hx hb (xb_d D_M_ofMemory 2 rfl) (by decide) ?_
  refine lv_l2i hx hb (xb_d D_M_ofMemory 3 rfl) rfl ?_
  obtain ⟨v1, ev1⟩ : ∃ x : Int32, x = (Int64.toInt32 (x2 / 65536)) := ⟨_, rfl⟩
  have hw := hw v1 ev1
  refine xt_numi (y := v1) ev1.symm ?_
  refine lv_istore hx hb (xb_d D_M_ofMemory 4 rfl) hl (by decide) rfl (fun ls hl => ?_)
  have hl : lv_has ls 5 [(4, .int v1), (0, .ref x0), (1, .int x1), (2, .long x2)] := hl
  refine lv_ldc (v := 65536) hx hb hown (hts _ m_36de59d5) (xb_d D_M_ofMemory 5 rfl) ?_
  refine lv_aload_n hx hb (xb_d D_M_ofMemory 6 rfl) rfl (lv_at hl 1 rfl) ?_
  obtain ⟨hk2, hw⟩ := hw
  refine xb_getP (C := R_M) (T := F_M) (N := 97) hx hb 8 56 hts fin_M hown hR hk2 (by decide) rfl (by decide) rfl (hts _ m_e7f615b2) (fun _ h9 => h9) (xb_d D_M_ofMemory 7 rfl) ?_
  obtain ⟨b3, eb3, hw⟩ := hw
  refine xb_some eb3 ?_
  refine lv_bipush (v := 16) hx hb (xb_d D_M_ofMemory 8 rfl) (by decide) ?_
  refine lv_iload_n hx hb (xb_d D_M_ofMemory 9 rfl) rfl (lv_at hl 2 rfl) ?_
  refine lv_imul hx hb (xb_d D_M_ofMemory 10 rfl) ?_
  refine lv_iload hx hb (xb_d D_M_ofMemory 11 rfl) (lv_at hl 0 rfl) ?_
  refine lv_iadd hx hb (xb_d D_M_ofMemory 12 rfl) ?_
  obtain ⟨hk5, hw⟩ := hw
  obtain ⟨hi4, hw⟩ := hw
  refine xb_iald hx hb hR hk5 hi4 (xb_d D_M_ofMemory 13 rfl) ?_
  refine lv_imul hx hb (xb_d D_M_ofMemory 14 rfl) ?_
  refine lv_lload_n hx hb (xb_d D_M_ofMemory 15 rfl) rfl (lv_at hl 3 rfl) ?_
  refine lv_ldc2 (v := 65536) hx hb hown (hts _ m_4fda1f04) (xb_d D_M_ofMemory 16 rfl) ?_
  refine lv_lrem hx hb (xb_d D_M_ofMemory 17 rfl) (by decide) ?_
  refine lv_l2i hx hb (xb_d D_M_ofMemory 18 rfl) rfl ?_
  refine lv_iadd hx hb (xb_d D_M_ofMemory 19 rfl) ?_
  exact xb_iret hx hb hr hlocks (show k ≤ MC by omega) (show n ≤ MS by omega) hE hR hS (xb_d D_M_ofMemory 20 rfl) hw

theorem m_3921a746 : (.fieldLink "StackHostModel" 161 "StackHostModel" "runKind" "[I" : Cond) ∈ xt_tbl := xt_in (xt_t9 (List.mem_of_getElem? (i := 216) (by decide +kernel))) (by decide +kernel)
theorem m_65743087 : (.fieldLink "StackHostModel" 610 "StackHostModel" "opens" "I" : Cond) ∈ xt_tbl := xt_in (xt_t9 (List.mem_of_getElem? (i := 220) (by decide +kernel))) (by decide +kernel)
theorem m_6fbbe4c1 : (.fieldLink "StackHostModel" 164 "StackHostModel" "runStart" "[I" : Cond) ∈ xt_tbl := xt_in (xt_t9 (List.mem_of_getElem? (i := 217) (by decide +kernel))) (by decide +kernel)
theorem m_0f6cf014 : (.fieldLink "StackHostModel" 167 "StackHostModel" "runLabel" "[I" : Cond) ∈ xt_tbl := xt_in (xt_t9 (List.mem_of_getElem? (i := 218) (by decide +kernel))) (by decide +kernel)
theorem m_24ba043b : (.fieldLink "StackHostModel" 170 "StackHostModel" "runHeight" "[I" : Cond) ∈ xt_tbl := xt_in (xt_t9 (List.mem_of_getElem? (i := 219) (by decide +kernel))) (by decide +kernel)
set_option maxRecDepth 100000 in
def T_M_open : List (Nat × Instr × Nat) := [(0, .aload_n 0, 1), (1, .getfield 161, 3), (4, .aload_n 0, 1), (5, .getfield 610, 3), (8, .iload_n 1, 1), (9, .iastore, 1), (10, .aload_n 0, 1), (11, .getfield 164, 3), (14, .aload_n 0, 1), (15, .getfield 610, 3), (18, .aload_n 0, 1), (19, .getfield 202, 3), (22, .iastore, 1), (23, .aload_n 0, 1), (24, .getfield 167, 3), (27, .aload_n 0, 1), (28, .getfield 610, 3), (31, .iload_n 2, 1), (32, .iastore, 1), (33, .aload_n 0, 1), (34, .getfield 170, 3), (37, .aload_n 0, 1), (38, .getfield 610, 3), (41, .aload_n 0, 1), (42, .getfield 607, 3), (45, .iastore, 1), (46, .aload_n 0, 1), (47, .dup, 1), (48, .getfield 610, 3), (51, .iconst 1, 1), (52, .iadd, 1), (53, .putfield 610, 3), (56, .return_, 1)]
theorem D_M_open : ∀ q ∈ T_M_open, decode b_M_open q.1 = .ok (q.2.1, q.2.2) := by decide +kernel
def w_M_open (x0 : Nat) (x1 : Int32) (x2 : Int32) (h : xb_H) (Qr : xb_H → Prop) : Prop :=
    xb_k h x0 = 9 ∧ ∃ b2 : Nat, (xb_r h x0 77) = some b2 ∧ xb_k h b2 = 102 ∧ vp_in (xb_i h x0 81) (xb_n h b2) ∧ ∀ h5 : xb_H, h5 = xb_I h b2 (Int32.toNatClampNeg (xb_i h x0 81)) x1 → ∃ b6 : Nat, (xb_r h5 x0 78) = some b6 ∧ xb_k h5 b6 = 102 ∧ vp_in (xb_i h5 x0 81) (xb_n h5 b6) ∧ ∀ h9 : xb_H, h9 = xb_I h5 b6 (Int32.toNatClampNeg (xb_i h5 x0 81)) (xb_i h5 x0 15) → ∃ b10 : Nat, (xb_r h9 x0 79) = some b10 ∧ xb_k h9 b10 = 102 ∧ vp_in (xb_i h9 x0 81) (xb_n h9 b10) ∧ ∀ h13 : xb_H, h13 = xb_I h9 b10 (Int32.toNatClampNeg (xb_i h9 x0 81)) x2 → ∃ b14 : Nat, (xb_r h13 x0 80) = some b14 ∧ xb_k h13 b14 = 102 ∧ vp_in (xb_i h13 x0 81) (xb_n h13 b14) ∧ ∀ h17 : xb_H, h17 = xb_I h13 b14 (Int32.toNatClampNeg (xb_i h13 x0 81)) (xb_i h13 x0 76) → ∀ h18 : xb_H, h18 = xb_I h17 x0 81 ((xb_i h17 x0 81) + 1) → Qr h18

set_option maxHeartbeats 4000000 in
set_option maxRecDepth 100000 in
theorem ok_M_open (l : Launch) (hfl : l.flags = pinnedFlags ++ [noTraceFlag]) (D : va_G) (A : Nat → Prop) (σ : Nat) (x0 : Nat) (x1 : Int32) (x2 : Int32) (h : xb_H) (Qr : xb_H → Prop) (hw : w_M_open x0 x1 x2 h Qr) : xt_Met l y_M_open [.code y_M_open b_M_open 3 none] (xb_rm 2 0 0) (xb_Pc D A σ h [.ref x0, .int x1, .int x2]) (xb_Qc D A h (fun v h => v = none ∧ Qr h) (fun _ _ => False)) 0 0 A := by
  refine xb_ofAm (cc := b_M_open) (by decide) (Nat.le_of_ble_eq_true rfl) ?_
  unfold w_M_open at hw
  show xb_am l D A σ 2 0 0 h (fun v h => v = none ∧ Qr h) (fun _ _ => False) y_M_open.cls y_M_open.name b_M_open 3 ([] : List ExceptionTableEntry) none 0 [(0, .ref x0), (1, .int x1), (2, .int x2)] [] h 0 0
  obtain ⟨MC, hMC⟩ : ∃ x, x = 0 := ⟨_, rfl⟩
  obtain ⟨MS, hMS⟩ : ∃ x, x = 0 := ⟨_, rfl⟩
  rw [show xb_am l D A σ 2 0 0 = xb_am l D A σ 2 MC MS by rw [hMC, hMS]]
  obtain ⟨h0, hh0⟩ : ∃ x, x = h := ⟨_, rfl⟩
  rw [show xb_am l D A σ 2 MC MS h = xb_am l D A σ 2 MC MS h0 by rw [hh0]]
  intro p e s m args below meth c hC H locs ls k n hE hl hR hS hk hn
  obtain ⟨hx, hb, hown, hlocks, htab, hml, hr, hB, hA, hnm⟩ := id hC
  have hts := hB.1.1.at args
  refine lv_aload_n hx hb (xb_d D_M_open 0 rfl) rfl (lv_at hl 0 rfl) ?_
  obtain ⟨hk1, hw⟩ := hw
  refine xb_getP (C := R_M) (T := F_M) (N := 97) hx hb 8 77 hts fin_M hown hR hk1 (by decide) rfl (by decide) rfl (hts _ m_3921a746) (fun _ h9 => h9) (xb_d D_M_open 1 rfl) ?_
  obtain ⟨b2, eb2, hw⟩ := hw
  refine xb_some eb2 ?_
  refine lv_aload_n hx hb (xb_d D_M_open 2 rfl) rfl (lv_at hl 0 rfl) ?_
  refine xb_getI (C := R_M) (T := F_M) (N := 97) hx hb 8 81 hts fin_M hown hR hk1 (by decide) rfl (by decide) rfl (hts _ m_65743087) (fun _ h9 => h9) (xb_d D_M_open 3 rfl) ?_
  refine lv_iload_n hx hb (xb_d D_M_open 4 rfl) rfl (lv_at hl 1 rfl) ?_
  obtain ⟨hk3, hw⟩ := hw
  obtain ⟨hi4, hw⟩ := hw
  refine xb_iast hx hb hR hS hk3 hi4 (xb_d D_M_open 5 rfl) (fun H locs hR hS => ?_)
  obtain ⟨h5, eh5⟩ : ∃ x : xb_H, x = xb_I h b2 (Int32.toNatClampNeg (xb_i h x0 81)) x1 := ⟨_, rfl⟩
  rw [← eh5] at hR
  have hw := hw h5 eh5
  have hE : xb_ext h0 h5 := by rw [eh5]; exact hE
  refine lv_aload_n hx hb (xb_d D_M_open 6 rfl) rfl (lv_at hl 0 rfl) ?_
  have hk1 : xb_k h5 x0 = 9 := by rw [eh5]; exact hk1
  refine xb_getP (C := R_M) (T := F_M) (N := 97) hx hb 8 78 hts fin_M hown hR hk1 (by decide) rfl (by decide) rfl (hts _ m_6fbbe4c1) (fun _ h9 => h9) (xb_d D_M_open 7 rfl) ?_
  obtain ⟨b6, eb6, hw⟩ := hw
  refine xb_some eb6 ?_
  refine lv_aload_n hx hb (xb_d D_M_open 8 rfl) rfl (lv_at hl 0 rfl) ?_
  refine xb_getI (C := R_M) (T := F_M) (N := 97) hx hb 8 81 hts fin_M hown hR hk1 (by decide) rfl (by decide) rfl (hts _ m_65743087) (fun _ h9 => h9) (xb_d D_M_open 9 rfl) ?_
  refine lv_aload_n hx hb (xb_d D_M_open 10 rfl) rfl (lv_at hl 0 rfl) ?_
  refine xb_getI (C := R_M) (T := F_M) (N := 97) hx hb 8 15 hts fin_M hown hR hk1 (by decide) rfl (by decide) rfl (hts _ m_6c2d27ad) (fun _ h9 => h9) (xb_d D_M_open 11 rfl) ?_
  obtain ⟨hk7, hw⟩ := hw
  obtain ⟨hi8, hw⟩ := hw
  refine xb_iast hx hb hR hS hk7 hi8 (xb_d D_M_open 12 rfl) (fun H locs hR hS => ?_)
  obtain ⟨h9, eh9⟩ : ∃ x : xb_H, x = xb_I h5 b6 (Int32.toNatClampNeg (xb_i h5 x0 81)) (xb_i h5 x0 15) := ⟨_, rfl⟩
  rw [← eh9] at hR
  have hw := hw h9 eh9
  have hE : xb_ext h0 h9 := by rw [eh9]; exact hE
  refine lv_aload_n hx hb (xb_d D_M_open 13 rfl) rfl (lv_at hl 0 rfl) ?_
  have hk1 : xb_k h9 x0 = 9 := by rw [eh9]; exact hk1
  refine xb_getP (C := R_M) (T := F_M) (N := 97) hx hb 8 79 hts fin_M hown hR hk1 (by decide) rfl (by decide) rfl (hts _ m_0f6cf014) (fun _ h9 => h9) (xb_d D_M_open 14 rfl) ?_
  obtain ⟨b10, eb10, hw⟩ := hw
  refine xb_some eb10 ?_
  refine lv_aload_n hx hb (xb_d D_M_open 15 rfl) rfl (lv_at hl 0 rfl) ?_
  refine xb_getI (C := R_M) (T := F_M) (N := 97) hx hb 8 81 hts fin_M hown hR hk1 (by decide) rfl (by decide) rfl (hts _ m_65743087) (fun _ h9 => h9) (xb_d D_M_open 16 rfl) ?_
  refine lv_iload_n hx hb (xb_d D_M_open 17 rfl) rfl (lv_at hl 2 rfl) ?_
  obtain ⟨hk11, hw⟩ := hw
  obtain ⟨hi12, hw⟩ := hw
  refine xb_iast hx hb hR hS hk11 hi12 (xb_d D_M_open 18 rfl) (fun H locs hR hS => ?_)
  obtain ⟨h13, eh13⟩ : ∃ x : xb_H, x = xb_I h9 b10 (Int32.toNatClampNeg (xb_i h9 x0 81)) x2 := ⟨_, rfl⟩
  rw [← eh13] at hR
  have hw := hw h13 eh13
  have hE : xb_ext h0 h13 := by rw [eh13]; exact hE
  refine lv_aload_n hx hb (xb_d D_M_open 19 rfl) rfl (lv_at hl 0 rfl) ?_
  have hk1 : xb_k h13 x0 = 9 := by rw [eh13]; exact hk1
  refine xb_getP (C := R_M) (T := F_M) (N := 97) hx hb 8 80 hts fin_M hown hR hk1 (by decide) rfl (by decide) rfl (hts _ m_24ba043b) (fun _ h9 => h9) (xb_d D_M_open 20 rfl) ?_
  obtain ⟨b14, eb14, hw⟩ := hw
  refine xb_some eb14 ?_
  refine lv_aload_n hx hb (xb_d D_M_open 21 rfl) rfl (lv_at hl 0 rfl) ?_
  refine xb_getI (C := R_M) (T := F_M) (N := 97) hx hb 8 81 hts fin_M hown hR hk1 (by decide) rfl (by decide) rfl (hts _ m_65743087) (fun _ h9 => h9) (xb_d D_M_open 22 rfl) ?_
  refine lv_aload_n hx hb (xb_d D_M_open 23 rfl) rfl (lv_at hl 0 rfl) ?_
  refine xb_getI (C := R_M) (T := F_M) (N := 97) hx hb 8 76 hts fin_M hown hR hk1 (by decide) rfl (by decide) rfl (hts _ m_d6ddfcd8) (fun _ h9 => h9) (xb_d D_M_open 24 rfl) ?_
  obtain ⟨hk15, hw⟩ := hw
  obtain ⟨hi16, hw⟩ := hw
  refine xb_iast hx hb hR hS hk15 hi16 (xb_d D_M_open 25 rfl) (fun H locs hR hS => ?_)
  obtain ⟨h17, eh17⟩ : ∃ x : xb_H, x = xb_I h13 b14 (Int32.toNatClampNeg (xb_i h13 x0 81)) (xb_i h13 x0 76) := ⟨_, rfl⟩
  rw [← eh17] at hR
  have hw := hw h17 eh17
  have hE : xb_ext h0 h17 := by rw [eh17]; exact hE
  refine lv_aload_n hx hb (xb_d D_M_open 26 rfl) rfl (lv_at hl 0 rfl) ?_
  refine lv_dup hx hb (xb_d D_M_open 27 rfl) rfl ?_
  have hk1 : xb_k h17 x0 = 9 := by rw [eh17]; exact hk1
  refine xb_getI (C := R_M) (T := F_M) (N := 97) hx hb 8 81 hts fin_M hown hR hk1 (by decide) rfl (by decide) rfl (hts _ m_65743087) (fun _ h9 => h9) (xb_d D_M_open 28 rfl) ?_
  refine lv_iconst (v := 1) hx hb (xb_d D_M_open 29 rfl) (by decide) ?_
  refine lv_iadd hx hb (xb_d D_M_open 30 rfl) ?_
  refine xb_putI (C := R_M) (T := F_M) (N := 97) (ty := .int) (x := ((xb_i h17 x0 81) + 1)) hx hb 8 81 hts fin_M t_M t_M_ok n_M hown hR hS hk1 (by decide) rfl (by decide) rfl (hts _ m_65743087) (fun _ h9 => h9) rfl (by decide +kernel) rfl rfl (xb_d D_M_open 31 rfl) (fun H locs hR hS => ?_)
  obtain ⟨h18, eh18⟩ : ∃ x : xb_H, x = xb_I h17 x0 81 ((xb_i h17 x0 81) + 1) := ⟨_, rfl⟩
  rw [← eh18] at hR
  have hw := hw h18 eh18
  have hE : xb_ext h0 h18 := by rw [eh18]; exact hE
  exact xb_vret hx hb hr hlocks (show k ≤ MC by omega) (show n ≤ MS by omega) hE hR hS (xb_d D_M_open 32 rfl) hw

theorem m_82d42698 : (.fieldLink "StackHostModel" 176 "StackHostModel" "out" "[J" : Cond) ∈ xt_tbl := xt_in (xt_t9 (List.mem_of_getElem? (i := 225) (by decide +kernel))) (by decide +kernel)
set_option maxRecDepth 100000 in
def T_M_out : List (Nat × Instr × Nat) := [(0, .aload_n 0, 1), (1, .iload_n 1, 1), (2, .ifCond .lt 15, 3), (5, .iload_n 1, 1), (6, .aload_n 0, 1), (7, .getfield 622, 3), (10, .if_icmp .ge 7, 3), (13, .iconst 0, 1), (14, .goto 4, 3), (17, .iconst 1, 1), (18, .putfield 189, 3), (21, .aload_n 0, 1), (22, .getfield 189, 3), (25, .ifCond .le 7, 3), (28, .lconst 0, 1), (29, .goto 9, 3), (32, .aload_n 0, 1), (33, .getfield 176, 3), (36, .iload_n 1, 1), (37, .laload, 1), (38, .lreturn, 1)]
theorem D_M_out : ∀ q ∈ T_M_out, decode b_M_out q.1 = .ok (q.2.1, q.2.2) := by decide +kernel
def w_M_out_L38 (Qr : Int64 → xb_H → Prop) (y0 : Int64) (h : xb_H) : Prop :=
    Qr y0 h

def w_M_out_L18 (Qr : Int64 → xb_H → Prop) (x0 : Nat) (x1 : Int32) (y0 : Int32) (y1 : Nat) (h : xb_H) : Prop :=
    xb_k h y1 = 9 ∧ ∀ h2 : xb_H, h2 = xb_I h y1 0 y0 → xb_k h2 x0 = 9 ∧ (((xb_i h2 x0 0) ≤ (0 : Int32) → ∃ b5 : Nat, (xb_r h2 x0 87) = some b5 ∧ xb_k h2 b5 = 103 ∧ vp_in x1 (xb_n h2 b5) ∧ w_M_out_L38 Qr (xb_l h2 b5 (Int32.toNatClampNeg x1)) h2) ∧ (¬ (xb_i h2 x0 0) ≤ (0 : Int32) → w_M_out_L38 Qr 0 h2))

def w_M_out_L17 (Qr : Int64 → xb_H → Prop) (x0 : Nat) (x1 : Int32) (y0 : Nat) (h : xb_H) : Prop :=
    w_M_out_L18 Qr x0 x1 1 y0 h

def w_M_out (x0 : Nat) (x1 : Int32) (h : xb_H) (Qr : Int64 → xb_H → Prop) : Prop :=
    ((x1 < (0 : Int32) → w_M_out_L17 Qr x0 x1 x0 h) ∧ (¬ x1 < (0 : Int32) → xb_k h x0 = 9 ∧ (((xb_i h x0 88) ≤ x1 → w_M_out_L17 Qr x0 x1 x0 h) ∧ (¬ (xb_i h x0 88) ≤ x1 → w_M_out_L18 Qr x0 x1 0 x0 h))))

set_option maxHeartbeats 4000000 in
set_option maxRecDepth 100000 in
theorem am_M_out_L38 (l : Launch) (hfl : l.flags = pinnedFlags ++ [noTraceFlag]) (D : va_G) (A : Nat → Prop) (σ MC MS : Nat) (h0 : xb_H) (Qr : Int64 → xb_H → Prop) (y0 : Int64) (h : xb_H) (hw : w_M_out_L38 Qr y0 h) : xb_am l D A σ 2 MC MS h0 (fun v h => ∃ r, v = some (.long r) ∧ Qr r h) (fun _ _ => False) y_M_out.cls y_M_out.name b_M_out 2 ([] : List ExceptionTableEntry) (some .long) 38 [] [.long y0] h 0 0 := by
  unfold w_M_out_L38 at hw
  intro p e s m args below meth c hC H locs ls k n hE hl hR hS hk hn
  obtain ⟨hx, hb, hown, hlocks, htab, hml, hr, hB, hA, hnm⟩ := id hC
  have hts := hB.1.1.at args
  exact xb_lret hx hb hr hlocks (show k ≤ MC by omega) (show n ≤ MS by omega) hE hR hS (xb_d D_M_out 20 rfl) hw

set_option maxHeartbeats 4000000 in
set_option maxRecDepth 100000 in
theorem am_M_out_L18 (l : Launch) (hfl : l.flags = pinnedFlags ++ [noTraceFlag]) (D : va_G) (A : Nat → Prop) (σ MC MS : Nat) (h0 : xb_H) (Qr : Int64 → xb_H → Prop) (x0 : Nat) (x1 : Int32) (y0 : Int32) (y1 : Nat) (h : xb_H) (hw : w_M_out_L18 Qr x0 x1 y0 y1 h) : xb_am l D A σ 2 MC MS h0 (fun v h => ∃ r, v = some (.long r) ∧ Qr r h) (fun _ _ => False) y_M_out.cls y_M_out.name b_M_out 2 ([] : List ExceptionTableEntry) (some .long) 18 [(0, .ref x0), (1, .int x1)] [.int y0, .ref y1] h 0 0 := by
  unfold w_M_out_L18 at hw
  intro p e s m args below meth c hC H locs ls k n hE hl hR hS hk hn
  obtain ⟨hx, hb, hown, hlocks, htab, hml, hr, hB, hA, hnm⟩ := id hC
  have hts := hB.1.1.at args
  obtain ⟨hk1, hw⟩ := hw
  refine xb_putI (C := R_M) (T := F_M) (N := 97) (ty := .int) (x := y0) hx hb 8 0 hts fin_M t_M t_M_ok n_M hown hR hS hk1 (by decide) rfl (by decide) rfl (hts _ m_afabd6a0) (fun _ h9 => h9) rfl (by decide +kernel) rfl rfl (xb_d D_M_out 10 rfl) (fun H locs hR hS => ?_)
  obtain ⟨h2, eh2⟩ : ∃ x : xb_H, x = xb_I h y1 0 y0 := ⟨_, rfl⟩
  rw [← eh2] at hR
  have hw := hw h2 eh2
  have hE : xb_ext h0 h2 := by rw [eh2]; exact hE
  refine lv_aload_n hx hb (xb_d D_M_out 11 rfl) rfl (lv_at hl 0 rfl) ?_
  obtain ⟨hk3, hw⟩ := hw
  refine xb_getI (C := R_M) (T := F_M) (N := 97) hx hb 8 0 hts fin_M hown hR hk3 (by decide) rfl (by decide) rfl (hts _ m_afabd6a0) (fun _ h9 => h9) (xb_d D_M_out 12 rfl) ?_
  refine lv_if_le (tgt := 32) hx hb (xb_d D_M_out 13 rfl) rfl (fun hc4 => ?_) (fun hc4 => ?_)
  · have hw := hw.1 hc4
    refine lv_aload_n hx hb (xb_d D_M_out 16 rfl) rfl (lv_at hl 0 rfl) ?_
    refine xb_getP (C := R_M) (T := F_M) (N := 97) hx hb 8 87 hts fin_M hown hR hk3 (by decide) rfl (by decide) rfl (hts _ m_82d42698) (fun _ h9 => h9) (xb_d D_M_out 17 rfl) ?_
    obtain ⟨b5, eb5, hw⟩ := hw
    refine xb_some eb5 ?_
    refine lv_iload_n hx hb (xb_d D_M_out 18 rfl) rfl (lv_at hl 1 rfl) ?_
    obtain ⟨hk7, hw⟩ := hw
    obtain ⟨hi6, hw⟩ := hw
    refine xb_lald hx hb hR hk7 hi6 (xb_d D_M_out 19 rfl) ?_
    exact am_M_out_L38 l hfl D A σ MC MS h0 Qr (xb_l h2 b5 (Int32.toNatClampNeg x1)) h2 hw p e s m args below meth c hC H locs ls k n hE (lv_sub hl [] rfl) hR hS (by omega) (by omega)
  · have hw := hw.2 hc4
    refine lv_lconst (v := 0) hx hb (xb_d D_M_out 14 rfl) (by decide) ?_
    refine lv_goto (tgt := 38) hx hb (xb_d D_M_out 15 rfl) rfl ?_
    exact am_M_out_L38 l hfl D A σ MC MS h0 Qr 0 h2 hw p e s m args below meth c hC H locs ls k n hE (lv_sub hl [] rfl) hR hS (by omega) (by omega)

set_option maxHeartbeats 4000000 in
set_option maxRecDepth 100000 in
theorem am_M_out_L17 (l : Launch) (hfl : l.flags = pinnedFlags ++ [noTraceFlag]) (D : va_G) (A : Nat → Prop) (σ MC MS : Nat) (h0 : xb_H) (Qr : Int64 → xb_H → Prop) (x0 : Nat) (x1 : Int32) (y0 : Nat) (h : xb_H) (hw : w_M_out_L17 Qr x0 x1 y0 h) : xb_am l D A σ 2 MC MS h0 (fun v h => ∃ r, v = some (.long r) ∧ Qr r h) (fun _ _ => False) y_M_out.cls y_M_out.name b_M_out 2 ([] : List ExceptionTableEntry) (some .long) 17 [(0, .ref x0), (1, .int x1)] [.ref y0] h 0 0 := by
  unfold w_M_out_L17 at hw
  intro p e s m args below meth c hC H locs ls k n hE hl hR hS hk hn
  obtain ⟨hx, hb, hown, hlocks, htab, hml, hr, hB, hA, hnm⟩ := id hC
  have hts := hB.1.1.at args
  refine lv_iconst (v := 1) hx hb (xb_d D_M_out 9 rfl) (by decide) ?_
  exact am_M_out_L18 l hfl D A σ MC MS h0 Qr x0 x1 1 y0 h hw p e s m args below meth c hC H locs ls k n hE (lv_sub hl [0, 1] rfl) hR hS (by omega) (by omega)

set_option maxHeartbeats 4000000 in
set_option maxRecDepth 100000 in
theorem ok_M_out (l : Launch) (hfl : l.flags = pinnedFlags ++ [noTraceFlag]) (D : va_G) (A : Nat → Prop) (σ : Nat) (x0 : Nat) (x1 : Int32) (h : xb_H) (Qr : Int64 → xb_H → Prop) (hw : w_M_out x0 x1 h Qr) : xt_Met l y_M_out [.code y_M_out b_M_out 2 (some .long)] (xb_rm 2 0 0) (xb_Pc D A σ h [.ref x0, .int x1]) (xb_Qc D A h (fun v h => ∃ r, v = some (.long r) ∧ Qr r h) (fun _ _ => False)) 0 0 A := by
  refine xb_ofAm (cc := b_M_out) (by decide) (Nat.le_of_ble_eq_true rfl) ?_
  unfold w_M_out at hw
  show xb_am l D A σ 2 0 0 h (fun v h => ∃ r, v = some (.long r) ∧ Qr r h) (fun _ _ => False) y_M_out.cls y_M_out.name b_M_out 2 ([] : List ExceptionTableEntry) (some .long) 0 [(0, .ref x0), (1, .int x1)] [] h 0 0
  obtain ⟨MC, hMC⟩ : ∃ x, x = 0 := ⟨_, rfl⟩
  obtain ⟨MS, hMS⟩ : ∃ x, x = 0 := ⟨_, rfl⟩
  rw [show xb_am l D A σ 2 0 0 = xb_am l D A σ 2 MC MS by rw [hMC, hMS]]
  obtain ⟨h0, hh0⟩ : ∃ x, x = h := ⟨_, rfl⟩
  rw [show xb_am l D A σ 2 MC MS h = xb_am l D A σ 2 MC MS h0 by rw [hh0]]
  intro p e s m args below meth c hC H locs ls k n hE hl hR hS hk hn
  obtain ⟨hx, hb, hown, hlocks, htab, hml, hr, hB, hA, hnm⟩ := id hC
  have hts := hB.1.1.at args
  refine lv_aload_n hx hb (xb_d D_M_out 0 rfl) rfl (lv_at hl 0 rfl) ?_
  refine lv_iload_n hx hb (xb_d D_M_out 1 rfl) rfl (lv_at hl 1 rfl) ?_
  refine lv_if_lt (tgt := 17) hx hb (xb_d D_M_out 2 rfl) rfl (fun hc1 => ?_) (fun hc1 => ?_)
  · have hw := hw.1 hc1
    exact am_M_out_L17 l hfl D A σ MC MS h0 Qr x0 x1 x0 h hw p e s m args below meth c hC H locs ls k n hE (lv_sub hl [0, 1] rfl) hR hS (by omega) (by omega)
  · have hw := hw.2 hc1
    refine lv_iload_n hx hb (xb_d D_M_out 3 rfl) rfl (lv_at hl 1 rfl) ?_
    refine lv_aload_n hx hb (xb_d D_M_out 4 rfl) rfl (lv_at hl 0 rfl) ?_
    obtain ⟨hk2, hw⟩ := hw
    refine xb_getI (C := R_M) (T := F_M) (N := 97) hx hb 8 88 hts fin_M hown hR hk2 (by decide) rfl (by decide) rfl (hts _ m_e2832a78) (fun _ h9 => h9) (xb_d D_M_out 5 rfl) ?_
    refine lv_icmp_ge (tgt := 17) hx hb (xb_d D_M_out 6 rfl) rfl (fun hc3 => ?_) (fun hc3 => ?_)
    · have hw := hw.1 hc3
      exact am_M_out_L17 l hfl D A σ MC MS h0 Qr x0 x1 x0 h hw p e s m args below meth c hC H locs ls k n hE (lv_sub hl [0, 1] rfl) hR hS (by omega) (by omega)
    · have hw := hw.2 hc3
      refine lv_iconst (v := 0) hx hb (xb_d D_M_out 7 rfl) (by decide) ?_
      refine lv_goto (tgt := 18) hx hb (xb_d D_M_out 8 rfl) rfl ?_
      exact am_M_out_L18 l hfl D A σ MC MS h0 Qr x0 x1 0 x0 h hw p e s m args below meth c hC H locs ls k n hE (lv_sub hl [0, 1] rfl) hR hS (by omega) (by omega)

set_option maxRecDepth 100000 in
def T_M_outs : List (Nat × Instr × Nat) := [(0, .aload_n 0, 1), (1, .iconst 0, 1), (2, .putfield 189, 3), (5, .aload_n 0, 1), (6, .getfield 622, 3), (9, .ireturn, 1)]
theorem D_M_outs : ∀ q ∈ T_M_outs, decode b_M_outs q.1 = .ok (q.2.1, q.2.2) := by decide +kernel
def w_M_outs (x0 : Nat) (h : xb_H) (Qr : Int32 → xb_H → Prop) : Prop :=
    xb_k h x0 = 9 ∧ ∀ h2 : xb_H, h2 = xb_I h x0 0 0 → Qr (xb_i h2 x0 88) h2

set_option maxHeartbeats 4000000 in
set_option maxRecDepth 100000 in
theorem ok_M_outs (l : Launch) (hfl : l.flags = pinnedFlags ++ [noTraceFlag]) (D : va_G) (A : Nat → Prop) (σ : Nat) (x0 : Nat) (h : xb_H) (Qr : Int32 → xb_H → Prop) (hw : w_M_outs x0 h Qr) : xt_Met l y_M_outs [.code y_M_outs b_M_outs 1 (some .int)] (xb_rm 2 0 0) (xb_Pc D A σ h [.ref x0]) (xb_Qc D A h (fun v h => ∃ r, v = some (.int r) ∧ Qr r h) (fun _ _ => False)) 0 0 A := by
  refine xb_ofAm (cc := b_M_outs) (by decide) (Nat.le_of_ble_eq_true rfl) ?_
  unfold w_M_outs at hw
  show xb_am l D A σ 2 0 0 h (fun v h => ∃ r, v = some (.int r) ∧ Qr r h) (fun _ _ => False) y_M_outs.cls y_M_outs.name b_M_outs 1 ([] : List ExceptionTableEntry) (some .int) 0 [(0, .ref x0)] [] h 0 0
  obtain ⟨MC, hMC⟩ : ∃ x, x = 0 := ⟨_, rfl⟩
  obtain ⟨MS, hMS⟩ : ∃ x, x = 0 := ⟨_, rfl⟩
  rw [show xb_am l D A σ 2 0 0 = xb_am l D A σ 2 MC MS by rw [hMC, hMS]]
  obtain ⟨h0, hh0⟩ : ∃ x, x = h := ⟨_, rfl⟩
  rw [show xb_am l D A σ 2 MC MS h = xb_am l D A σ 2 MC MS h0 by rw [hh0]]
  intro p e s m args below meth c hC H locs ls k n hE hl hR hS hk hn
  obtain ⟨hx, hb, hown, hlocks, htab, hml, hr, hB, hA, hnm⟩ := id hC
  have hts := hB.1.1.at args
  refine lv_aload_n hx hb (xb_d D_M_outs 0 rfl) rfl (lv_at hl 0 rfl) ?_
  refine lv_iconst (v := 0) hx hb (xb_d D_M_outs 1 rfl) (by decide) ?_
  obtain ⟨hk1, hw⟩ := hw
  refine xb_putI (C := R_M) (T := F_M) (N := 97) (ty := .int) (x := 0) hx hb 8 0 hts fin_M t_M t_M_ok n_M hown hR hS hk1 (by decide) rfl (by decide) rfl (hts _ m_afabd6a0) (fun _ h9 => h9) rfl (by decide +kernel) rfl rfl (xb_d D_M_outs 2 rfl) (fun H locs hR hS => ?_)
  obtain ⟨h2, eh2⟩ : ∃ x : xb_H, x = xb_I h x0 0 0 := ⟨_, rfl⟩
  rw [← eh2] at hR
  have hw := hw h2 eh2
  have hE : xb_ext h0 h2 := by rw [eh2]; exact hE
  refine lv_aload_n hx hb (xb_d D_M_outs 3 rfl) rfl (lv_at hl 0 rfl) ?_
  have hk1 : xb_k h2 x0 = 9 := by rw [eh2]; exact hk1
  refine xb_getI (C := R_M) (T := F_M) (N := 97) hx hb 8 88 hts fin_M hown hR hk1 (by decide) rfl (by decide) rfl (hts _ m_e2832a78) (fun _ h9 => h9) (xb_d D_M_outs 4 rfl) ?_
  exact xb_iret hx hb hr hlocks (show k ≤ MC by omega) (show n ≤ MS by omega) hE hR hS (xb_d D_M_outs 5 rfl) hw

theorem m_7cc4ea11 : (.fieldLink "StackHostModel" 24 "StackHostModel" "first" "[I" : Cond) ∈ xt_tbl := xt_in (xt_t9 (List.mem_of_getElem? (i := 147) (by decide +kernel))) (by decide +kernel)
set_option maxRecDepth 100000 in
def T_M_placeOf : List (Nat × Instr × Nat) := [(0, .aload_n 0, 1), (1, .getfield 33, 3), (4, .aload_n 0, 1), (5, .getfield 24, 3), (8, .bipush 12, 2), (10, .iload_n 1, 1), (11, .imul, 1), (12, .iload_n 2, 1), (13, .iadd, 1), (14, .iaload, 1), (15, .iload_n 3, 1), (16, .iadd, 1), (17, .iaload, 1), (18, .ireturn, 1)]
theorem D_M_placeOf : ∀ q ∈ T_M_placeOf, decode b_M_placeOf q.1 = .ok (q.2.1, q.2.2) := by decide +kernel
def w_M_placeOf (x0 : Nat) (x1 : Int32) (x2 : Int32) (x3 : Int32) (h : xb_H) (Qr : Int32 → xb_H → Prop) : Prop :=
    xb_k h x0 = 9 ∧ ∃ b2 : Nat, (xb_r h x0 11) = some b2 ∧ ∃ b3 : Nat, (xb_r h x0 8) = some b3 ∧ xb_k h b3 = 102 ∧ vp_in ((12 * x1) + x2) (xb_n h b3) ∧ xb_k h b2 = 102 ∧ vp_in ((xb_i h b3 (Int32.toNatClampNeg ((12 * x1) + x2))) + x3) (xb_n h b2) ∧ Qr (xb_i h b2 (Int32.toNatClampNeg ((xb_i h b3 (Int32.toNatClampNeg ((12 * x1) + x2))) + x3))) h

set_option maxHeartbeats 4000000 in
set_option maxRecDepth 100000 in
theorem ok_M_placeOf (l : Launch) (hfl : l.flags = pinnedFlags ++ [noTraceFlag]) (D : va_G) (A : Nat → Prop) (σ : Nat) (x0 : Nat) (x1 : Int32) (x2 : Int32) (x3 : Int32) (h : xb_H) (Qr : Int32 → xb_H → Prop) (hw : w_M_placeOf x0 x1 x2 x3 h Qr) : xt_Met l y_M_placeOf [.code y_M_placeOf b_M_placeOf 4 (some .int)] (xb_rm 2 0 0) (xb_Pc D A σ h [.ref x0, .int x1, .int x2, .int x3]) (xb_Qc D A h (fun v h => ∃ r, v = some (.int r) ∧ Qr r h) (fun _ _ => False)) 0 0 A := by
  refine xb_ofAm (cc := b_M_placeOf) (by decide) (Nat.le_of_ble_eq_true rfl) ?_
  unfold w_M_placeOf at hw
  show xb_am l D A σ 2 0 0 h (fun v h => ∃ r, v = some (.int r) ∧ Qr r h) (fun _ _ => False) y_M_placeOf.cls y_M_placeOf.name b_M_placeOf 4 ([] : List ExceptionTableEntry) (some .int) 0 [(0, .ref x0), (1, .int x1), (2, .int x2), (3, .int x3)] [] h 0 0
  obtain ⟨MC, hMC⟩ : ∃ x, x = 0 := ⟨_, rfl⟩
  obtain ⟨MS, hMS⟩ : ∃ x, x = 0 := ⟨_, rfl⟩
  rw [show xb_am l D A σ 2 0 0 = xb_am l D A σ 2 MC MS by rw [hMC, hMS]]
  obtain ⟨h0, hh0⟩ : ∃ x, x = h := ⟨_, rfl⟩
  rw [show xb_am l D A σ 2 MC MS h = xb_am l D A σ 2 MC MS h0 by rw [hh0]]
  intro p e s m args below meth c hC H locs ls k n hE hl hR hS hk hn
  obtain ⟨hx, hb, hown, hlocks, htab, hml, hr, hB, hA, hnm⟩ := id hC
  have hts := hB.1.1.at args
  refine lv_aload_n hx hb (xb_d D_M_placeOf 0 rfl) rfl (lv_at hl 0 rfl) ?_
  obtain ⟨hk1, hw⟩ := hw
  refine xb_getP (C := R_M) (T := F_M) (N := 97) hx hb 8 11 hts fin_M hown hR hk1 (by decide) rfl (by decide) rfl (hts _ m_6a1d9b01) (fun _ h9 => h9) (xb_d D_M_placeOf 1 rfl) ?_
  obtain ⟨b2, eb2, hw⟩ := hw
  refine xb_some eb2 ?_
  refine lv_aload_n hx hb (xb_d D_M_placeOf 2 rfl) rfl (lv_at hl 0 rfl) ?_
  refine xb_getP (C := R_M) (T := F_M) (N := 97) hx hb 8 8 hts fin_M hown hR hk1 (by decide) rfl (by decide) rfl (hts _ m_7cc4ea11) (fun _ h9 => h9) (xb_d D_M_placeOf 3 rfl) ?_
  obtain ⟨b3, eb3, hw⟩ := hw
  refine xb_some eb3 ?_
  refine lv_bipush (v := 12) hx hb (xb_d D_M_placeOf 4 rfl) (by decide) ?_
  refine lv_iload_n hx hb (xb_d D_M_placeOf 5 rfl) rfl (lv_at hl 1 rfl) ?_
  refine lv_imul hx hb (xb_d D_M_placeOf 6 rfl) ?_
  refine lv_iload_n hx hb (xb_d D_M_placeOf 7 rfl) rfl (lv_at hl 2 rfl) ?_
  refine lv_iadd hx hb (xb_d D_M_placeOf 8 rfl) ?_
  obtain ⟨hk5, hw⟩ := hw
  obtain ⟨hi4, hw⟩ := hw
  refine xb_iald hx hb hR hk5 hi4 (xb_d D_M_placeOf 9 rfl) ?_
  refine lv_iload_n hx hb (xb_d D_M_placeOf 10 rfl) rfl (lv_at hl 3 rfl) ?_
  refine lv_iadd hx hb (xb_d D_M_placeOf 11 rfl) ?_
  obtain ⟨hk7, hw⟩ := hw
  obtain ⟨hi6, hw⟩ := hw
  refine xb_iald hx hb hR hk7 hi6 (xb_d D_M_placeOf 12 rfl) ?_
  exact xb_iret hx hb hr hlocks (show k ≤ MC by omega) (show n ≤ MS by omega) hE hR hS (xb_d D_M_placeOf 13 rfl) hw

