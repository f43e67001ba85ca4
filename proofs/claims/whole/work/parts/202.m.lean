set_option maxRecDepth 100000 in
def T_Reader_shapeOf : List (Nat × Instr × Nat) := [(0, .iload_n 0, 1), (1, .bipush 69, 2), (3, .if_icmp .lt 17, 3), (6, .iload_n 0, 1), (7, .sipush 191, 3), (10, .if_icmp .gt 7, 3), (13, .iconst 0, 1), (14, .goto 5, 3), (17, .bipush 13, 2), (19, .ireturn, 1), (20, .iload_n 0, 1), (21, .bipush 65, 2), (23, .if_icmp .lt 11, 3), (26, .bipush 9, 2), (28, .iload_n 0, 1), (29, .bipush 65, 2), (31, .isub, 1), (32, .iadd, 1), (33, .ireturn, 1), (34, .iload_n 0, 1), (35, .bipush 40, 2), (37, .if_icmp .lt 17, 3), (40, .iload_n 0, 1), (41, .bipush 63, 2), (43, .if_icmp .lt 8, 3), (46, .bipush 8, 2), (48, .goto 5, 3), (51, .bipush 7, 2), (53, .ireturn, 1), (54, .iload_n 0, 1), (55, .tableswitch 178 0 36 #[161, 161, 163, 163, 163, 165, 178, 178, 178, 178, 178, 167, 169, 169, 173, 161, 169, 175, 178, 178, 178, 178, 178, 178, 178, 178, 161, 161, 178, 178, 178, 178, 171, 171, 171, 171, 171], 161), (216, .iconst 0, 1), (217, .ireturn, 1), (218, .iconst 1, 1), (219, .ireturn, 1), (220, .iconst 2, 1), (221, .ireturn, 1), (222, .iconst 3, 1), (223, .ireturn, 1), (224, .iconst 4, 1), (225, .ireturn, 1), (226, .iconst 4, 1), (227, .ireturn, 1), (228, .iconst 5, 1), (229, .ireturn, 1), (230, .bipush 6, 2), (232, .ireturn, 1), (233, .bipush 13, 2), (235, .ireturn, 1)]
theorem D_Reader_shapeOf : ∀ q ∈ T_Reader_shapeOf, decode b_Reader_shapeOf q.1 = .ok (q.2.1, q.2.2) := by decide +kernel

set_option maxHeartbeats 4000000 in
set_option maxRecDepth 100000 in
theorem am_Reader_shapeOf_L233 (l : Launch) (hfl : l.flags = pinnedFlags ++ [noTraceFlag]) (D : va_G) (A : Nat → Prop) (σ MC MS : Nat) (h0 : xb_H) (Qr : Int32 → xb_H → Prop) (h : xb_H) (hw : w_Reader_shapeOf_L233 Qr h) : xb_am l D A σ 2 MC MS h0 (fun v h _ _ => ∃ r, v = some (.int r) ∧ Qr r h) (fun _ _ _ _ => False) y_Reader_shapeOf.cls y_Reader_shapeOf.name b_Reader_shapeOf 1 ([] : List ExceptionTableEntry) (some .int) 233 [] [] h 0 0 := by
  unfold w_Reader_shapeOf_L233 at hw
  intro p e s m args below meth c hC H locs ls k n hE hl hR hS hk hn
  obtain ⟨hx, hb, hown, hlocks, htab, hml, hr, hB, hA, hnm⟩ := id hC
  have hts := hB.1.1.at args
  refine lv_bipush (v := 13) hx hb (xb_d D_Reader_shapeOf 47 rfl) (by decide) ?_
  exact xb_iret 0 0 hx hb hr hlocks (show k + 0 ≤ MC by omega) (show n + 0 ≤ MS by omega) hE hR hS (xb_d D_Reader_shapeOf 48 rfl) hw

set_option maxHeartbeats 4000000 in
set_option maxRecDepth 100000 in
theorem am_Reader_shapeOf_L226 (l : Launch) (hfl : l.flags = pinnedFlags ++ [noTraceFlag]) (D : va_G) (A : Nat → Prop) (σ MC MS : Nat) (h0 : xb_H) (Qr : Int32 → xb_H → Prop) (h : xb_H) (hw : w_Reader_shapeOf_L226 Qr h) : xb_am l D A σ 2 MC MS h0 (fun v h _ _ => ∃ r, v = some (.int r) ∧ Qr r h) (fun _ _ _ _ => False) y_Reader_shapeOf.cls y_Reader_shapeOf.name b_Reader_shapeOf 1 ([] : List ExceptionTableEntry) (some .int) 226 [] [] h 0 0 := by
  unfold w_Reader_shapeOf_L226 at hw
  intro p e s m args below meth c hC H locs ls k n hE hl hR hS hk hn
  obtain ⟨hx, hb, hown, hlocks, htab, hml, hr, hB, hA, hnm⟩ := id hC
  have hts := hB.1.1.at args
  refine lv_iconst (v := 4) hx hb (xb_d D_Reader_shapeOf 41 rfl) (by decide) ?_
  exact xb_iret 0 0 hx hb hr hlocks (show k + 0 ≤ MC by omega) (show n + 0 ≤ MS by omega) hE hR hS (xb_d D_Reader_shapeOf 42 rfl) hw

set_option maxHeartbeats 4000000 in
set_option maxRecDepth 100000 in
theorem am_Reader_shapeOf_L224 (l : Launch) (hfl : l.flags = pinnedFlags ++ [noTraceFlag]) (D : va_G) (A : Nat → Prop) (σ MC MS : Nat) (h0 : xb_H) (Qr : Int32 → xb_H → Prop) (h : xb_H) (hw : w_Reader_shapeOf_L224 Qr h) : xb_am l D A σ 2 MC MS h0 (fun v h _ _ => ∃ r, v = some (.int r) ∧ Qr r h) (fun _ _ _ _ => False) y_Reader_shapeOf.cls y_Reader_shapeOf.name b_Reader_shapeOf 1 ([] : List ExceptionTableEntry) (some .int) 224 [] [] h 0 0 := by
  unfold w_Reader_shapeOf_L224 at hw
  intro p e s m args below meth c hC H locs ls k n hE hl hR hS hk hn
  obtain ⟨hx, hb, hown, hlocks, htab, hml, hr, hB, hA, hnm⟩ := id hC
  have hts := hB.1.1.at args
  refine lv_iconst (v := 4) hx hb (xb_d D_Reader_shapeOf 39 rfl) (by decide) ?_
  exact xb_iret 0 0 hx hb hr hlocks (show k + 0 ≤ MC by omega) (show n + 0 ≤ MS by omega) hE hR hS (xb_d D_Reader_shapeOf 40 rfl) hw

set_option maxHeartbeats 4000000 in
set_option maxRecDepth 100000 in
theorem am_Reader_shapeOf_L218 (l : Launch) (hfl : l.flags = pinnedFlags ++ [noTraceFlag]) (D : va_G) (A : Nat → Prop) (σ MC MS : Nat) (h0 : xb_H) (Qr : Int32 → xb_H → Prop) (h : xb_H) (hw : w_Reader_shapeOf_L218 Qr h) : xb_am l D A σ 2 MC MS h0 (fun v h _ _ => ∃ r, v = some (.int r) ∧ Qr r h) (fun _ _ _ _ => False) y_Reader_shapeOf.cls y_Reader_shapeOf.name b_Reader_shapeOf 1 ([] : List ExceptionTableEntry) (some .int) 218 [] [] h 0 0 := by
  unfold w_Reader_shapeOf_L218 at hw
  intro p e s m args below meth c hC H locs ls k n hE hl hR hS hk hn
  obtain ⟨hx, hb, hown, hlocks, htab, hml, hr, hB, hA, hnm⟩ := id hC
  have hts := hB.1.1.at args
  refine lv_iconst (v := 1) hx hb (xb_d D_Reader_shapeOf 33 rfl) (by decide) ?_
  exact xb_iret 0 0 hx hb hr hlocks (show k + 0 ≤ MC by omega) (show n + 0 ≤ MS by omega) hE hR hS (xb_d D_Reader_shapeOf 34 rfl) hw

set_option maxHeartbeats 4000000 in
set_option maxRecDepth 100000 in
theorem am_Reader_shapeOf_L216 (l : Launch) (hfl : l.flags = pinnedFlags ++ [noTraceFlag]) (D : va_G) (A : Nat → Prop) (σ MC MS : Nat) (h0 : xb_H) (Qr : Int32 → xb_H → Prop) (h : xb_H) (hw : w_Reader_shapeOf_L216 Qr h) : xb_am l D A σ 2 MC MS h0 (fun v h _ _ => ∃ r, v = some (.int r) ∧ Qr r h) (fun _ _ _ _ => False) y_Reader_shapeOf.cls y_Reader_shapeOf.name b_Reader_shapeOf 1 ([] : List ExceptionTableEntry) (some .int) 216 [] [] h 0 0 := by
  unfold w_Reader_shapeOf_L216 at hw
  intro p e s m args below meth c hC H locs ls k n hE hl hR hS hk hn
  obtain ⟨hx, hb, hown, hlocks, htab, hml, hr, hB, hA, hnm⟩ := id hC
  have hts := hB.1.1.at args
  refine lv_iconst (v := 0) hx hb (xb_d D_Reader_shapeOf 31 rfl) (by decide) ?_
  exact xb_iret 0 0 hx hb hr hlocks (show k + 0 ≤ MC by omega) (show n + 0 ≤ MS by omega) hE hR hS (xb_d D_Reader_shapeOf 32 rfl) hw

set_option maxHeartbeats 4000000 in
set_option maxRecDepth 100000 in
theorem am_Reader_shapeOf_L53 (l : Launch) (hfl : l.flags = pinnedFlags ++ [noTraceFlag]) (D : va_G) (A : Nat → Prop) (σ MC MS : Nat) (h0 : xb_H) (Qr : Int32 → xb_H → Prop) (y0 : Int32) (h : xb_H) (hw : w_Reader_shapeOf_L53 Qr y0 h) : xb_am l D A σ 2 MC MS h0 (fun v h _ _ => ∃ r, v = some (.int r) ∧ Qr r h) (fun _ _ _ _ => False) y_Reader_shapeOf.cls y_Reader_shapeOf.name b_Reader_shapeOf 1 ([] : List ExceptionTableEntry) (some .int) 53 [] [.int y0] h 0 0 := by
  unfold w_Reader_shapeOf_L53 at hw
  intro p e s m args below meth c hC H locs ls k n hE hl hR hS hk hn
  obtain ⟨hx, hb, hown, hlocks, htab, hml, hr, hB, hA, hnm⟩ := id hC
  have hts := hB.1.1.at args
  exact xb_iret 0 0 hx hb hr hlocks (show k + 0 ≤ MC by omega) (show n + 0 ≤ MS by omega) hE hR hS (xb_d D_Reader_shapeOf 28 rfl) hw

set_option maxHeartbeats 4000000 in
set_option maxRecDepth 100000 in
theorem am_Reader_shapeOf_L19 (l : Launch) (hfl : l.flags = pinnedFlags ++ [noTraceFlag]) (D : va_G) (A : Nat → Prop) (σ MC MS : Nat) (h0 : xb_H) (Qr : Int32 → xb_H → Prop) (y0 : Int32) (h : xb_H) (hw : w_Reader_shapeOf_L19 Qr y0 h) : xb_am l D A σ 2 MC MS h0 (fun v h _ _ => ∃ r, v = some (.int r) ∧ Qr r h) (fun _ _ _ _ => False) y_Reader_shapeOf.cls y_Reader_shapeOf.name b_Reader_shapeOf 1 ([] : List ExceptionTableEntry) (some .int) 19 [] [.int y0] h 0 0 := by
  unfold w_Reader_shapeOf_L19 at hw
  intro p e s m args below meth c hC H locs ls k n hE hl hR hS hk hn
  obtain ⟨hx, hb, hown, hlocks, htab, hml, hr, hB, hA, hnm⟩ := id hC
  have hts := hB.1.1.at args
  exact xb_iret 0 0 hx hb hr hlocks (show k + 0 ≤ MC by omega) (show n + 0 ≤ MS by omega) hE hR hS (xb_d D_Reader_shapeOf 9 rfl) hw

set_option maxHeartbeats 4000000 in
set_option maxRecDepth 100000 in
theorem ok_Reader_shapeOf (l : Launch) (hfl : l.flags = pinnedFlags ++ [noTraceFlag]) (D : va_G) (A : Nat → Prop) (σ : Nat) (x0 : Int32) (h : xb_H) (Qr : Int32 → xb_H → Prop) (hw : w_Reader_shapeOf x0 h Qr) : xb_Met l y_Reader_shapeOf [.code y_Reader_shapeOf b_Reader_shapeOf 1 (some .int)] (xb_rm 2 0 0) (xb_Pc D A σ h [.int x0]) (xb_Qc D A h 0 0 (fun v h _ _ => ∃ r, v = some (.int r) ∧ Qr r h) (fun _ _ _ _ => False)) A := by
  refine xb_ofAm (cc := b_Reader_shapeOf) (by decide) (Nat.le_of_ble_eq_true rfl) ?_
  unfold w_Reader_shapeOf at hw
  show xb_am l D A σ 2 0 0 h (fun v h _ _ => ∃ r, v = some (.int r) ∧ Qr r h) (fun _ _ _ _ => False) y_Reader_shapeOf.cls y_Reader_shapeOf.name b_Reader_shapeOf 1 ([] : List ExceptionTableEntry) (some .int) 0 [(0, .int x0)] [] h 0 0
  obtain ⟨MC, hMC⟩ : ∃ x, x = 0 := ⟨_, rfl⟩
  obtain ⟨MS, hMS⟩ : ∃ x, x = 0 := ⟨_, rfl⟩
  rw [show xb_am l D A σ 2 0 0 = xb_am l D A σ 2 MC MS by rw [hMC, hMS]]
  obtain ⟨h0, hh0⟩ : ∃ x, x = h := ⟨_, rfl⟩
  rw [show xb_am l D A σ 2 MC MS h = xb_am l D A σ 2 MC MS h0 by rw [hh0]]
  intro p e s m args below meth c hC H locs ls k n hE hl hR hS hk hn
  obtain ⟨hx, hb, hown, hlocks, htab, hml, hr, hB, hA, hnm⟩ := id hC
  have hts := hB.1.1.at args
  refine lv_iload_n hx hb (xb_d D_Reader_shapeOf 0 rfl) rfl (lv_at hl 0 rfl) ?_
  refine lv_bipush (v := 69) hx hb (xb_d D_Reader_shapeOf 1 rfl) (by decide) ?_
  refine lv_icmp_lt (tgt := 20) hx hb (xb_d D_Reader_shapeOf 2 rfl) rfl (fun hc1 => ?_) (fun hc1 => ?_)
  · have hw := hw.1 hc1
    refine lv_iload_n hx hb (xb_d D_Reader_shapeOf 10 rfl) rfl (lv_at hl 0 rfl) ?_
    refine lv_bipush (v := 65) hx hb (xb_d D_Reader_shapeOf 11 rfl) (by decide) ?_
    refine lv_icmp_lt (tgt := 34) hx hb (xb_d D_Reader_shapeOf 12 rfl) rfl (fun hc2 => ?_) (fun hc2 => ?_)
    · have hw := hw.1 hc2
      refine lv_iload_n hx hb (xb_d D_Reader_shapeOf 19 rfl) rfl (lv_at hl 0 rfl) ?_
      refine lv_bipush (v := 40) hx hb (xb_d D_Reader_shapeOf 20 rfl) (by decide) ?_
      refine lv_icmp_lt (tgt := 54) hx hb (xb_d D_Reader_shapeOf 21 rfl) rfl (fun hc3 => ?_) (fun hc3 => ?_)
      · have hw := hw.1 hc3
        refine lv_iload_n hx hb (xb_d D_Reader_shapeOf 29 rfl) rfl (lv_at hl 0 rfl) ?_
        by_cases hc4 : x0 = 0
        · have hw := hw.1 hc4
          refine xt_numi hc4 ?_
          refine lv_tableIn (off := 161) (tgt := 216) hx hb (xb_d D_Reader_shapeOf 30 rfl) (by decide +kernel) (by decide +kernel) (by decide +kernel) (by decide) ?_
          exact am_Reader_shapeOf_L216 l hfl D A σ MC MS h0 Qr h hw p e s m args below meth c hC H locs ls k n hE (lv_sub hl [] rfl) hR hS (by omega) (by omega)
        have hw := hw.2
        by_cases hc5 : x0 = 1
        · have hw := hw.1 hc5
          refine xt_numi hc5 ?_
          refine lv_tableIn (off := 161) (tgt := 216) hx hb (xb_d D_Reader_shapeOf 30 rfl) (by decide +kernel) (by decide +kernel) (by decide +kernel) (by decide) ?_
          exact am_Reader_shapeOf_L216 l hfl D A σ MC MS h0 Qr h hw p e s m args below meth c hC H locs ls k n hE (lv_sub hl [] rfl) hR hS (by omega) (by omega)
        have hw := hw.2
        by_cases hc6 : x0 = 2
        · have hw := hw.1 hc6
          refine xt_numi hc6 ?_
          refine lv_tableIn (off := 163) (tgt := 218) hx hb (xb_d D_Reader_shapeOf 30 rfl) (by decide +kernel) (by decide +kernel) (by decide +kernel) (by decide) ?_
          exact am_Reader_shapeOf_L218 l hfl D A σ MC MS h0 Qr h hw p e s m args below meth c hC H locs ls k n hE (lv_sub hl [] rfl) hR hS (by omega) (by omega)
        have hw := hw.2
        by_cases hc7 : x0 = 3
        · have hw := hw.1 hc7
          refine xt_numi hc7 ?_
          refine lv_tableIn (off := 163) (tgt := 218) hx hb (xb_d D_Reader_shapeOf 30 rfl) (by decide +kernel) (by decide +kernel) (by decide +kernel) (by decide) ?_
          exact am_Reader_shapeOf_L218 l hfl D A σ MC MS h0 Qr h hw p e s m args below meth c hC H locs ls k n hE (lv_sub hl [] rfl) hR hS (by omega) (by omega)
        have hw := hw.2
        by_cases hc8 : x0 = 4
        · have hw := hw.1 hc8
          refine xt_numi hc8 ?_
          refine lv_tableIn (off := 163) (tgt := 218) hx hb (xb_d D_Reader_shapeOf 30 rfl) (by decide +kernel) (by decide +kernel) (by decide +kernel) (by decide) ?_
          exact am_Reader_shapeOf_L218 l hfl D A σ MC MS h0 Qr h hw p e s m args below meth c hC H locs ls k n hE (lv_sub hl [] rfl) hR hS (by omega) (by omega)
        have hw := hw.2
        by_cases hc9 : x0 = 5
        · have hw := hw.1 hc9
          refine xt_numi hc9 ?_
          refine lv_tableIn (off := 165) (tgt := 220) hx hb (xb_d D_Reader_shapeOf 30 rfl) (by decide +kernel) (by decide +kernel) (by decide +kernel) (by decide) ?_
          refine lv_iconst (v := 2) hx hb (xb_d D_Reader_shapeOf 35 rfl) (by decide) ?_
          exact xb_iret 0 0 hx hb hr hlocks (show k + 0 ≤ MC by omega) (show n + 0 ≤ MS by omega) hE hR hS (xb_d D_Reader_shapeOf 36 rfl) hw
        have hw := hw.2
        by_cases hc10 : x0 = 6
        · have hw := hw.1 hc10
          refine xt_numi hc10 ?_
          refine lv_tableIn (off := 178) (tgt := 233) hx hb (xb_d D_Reader_shapeOf 30 rfl) (by decide +kernel) (by decide +kernel) (by decide +kernel) (by decide) ?_
          exact am_Reader_shapeOf_L233 l hfl D A σ MC MS h0 Qr h hw p e s m args below meth c hC H locs ls k n hE (lv_sub hl [] rfl) hR hS (by omega) (by omega)
        have hw := hw.2
        by_cases hc11 : x0 = 7
        · have hw := hw.1 hc11
          refine xt_numi hc11 ?_
          refine lv_tableIn (off := 178) (tgt := 233) hx hb (xb_d D_Reader_shapeOf 30 rfl) (by decide +kernel) (by decide +kernel) (by decide +kernel) (by decide) ?_
          exact am_Reader_shapeOf_L233 l hfl D A σ MC MS h0 Qr h hw p e s m args below meth c hC H locs ls k n hE (lv_sub hl [] rfl) hR hS (by omega) (by omega)
        have hw := hw.2
        by_cases hc12 : x0 = 8
        · have hw := hw.1 hc12
          refine xt_numi hc12 ?_
          refine lv_tableIn (off := 178) (tgt := 233) hx hb (xb_d D_Reader_shapeOf 30 rfl) (by decide +kernel) (by decide +kernel) (by decide +kernel) (by decide) ?_
          exact am_Reader_shapeOf_L233 l hfl D A σ MC MS h0 Qr h hw p e s m args below meth c hC H locs ls k n hE (lv_sub hl [] rfl) hR hS (by omega) (by omega)
        have hw := hw.2
        by_cases hc13 : x0 = 9
        · have hw := hw.1 hc13
          refine xt_numi hc13 ?_
          refine lv_tableIn (off := 178) (tgt := 233) hx hb (xb_d D_Reader_shapeOf 30 rfl) (by decide +kernel) (by decide +kernel) (by decide +kernel) (by decide) ?_
          exact am_Reader_shapeOf_L233 l hfl D A σ MC MS h0 Qr h hw p e s m args below meth c hC H locs ls k n hE (lv_sub hl [] rfl) hR hS (by omega) (by omega)
        have hw := hw.2
        by_cases hc14 : x0 = 10
        · have hw := hw.1 hc14
          refine xt_numi hc14 ?_
          refine lv_tableIn (off := 178) (tgt := 233) hx hb (xb_d D_Reader_shapeOf 30 rfl) (by decide +kernel) (by decide +kernel) (by decide +kernel) (by decide) ?_
          exact am_Reader_shapeOf_L233 l hfl D A σ MC MS h0 Qr h hw p e s m args below meth c hC H locs ls k n hE (lv_sub hl [] rfl) hR hS (by omega) (by omega)
        have hw := hw.2
        by_cases hc15 : x0 = 11
        · have hw := hw.1 hc15
          refine xt_numi hc15 ?_
          refine lv_tableIn (off := 167) (tgt := 222) hx hb (xb_d D_Reader_shapeOf 30 rfl) (by decide +kernel) (by decide +kernel) (by decide +kernel) (by decide) ?_
          refine lv_iconst (v := 3) hx hb (xb_d D_Reader_shapeOf 37 rfl) (by decide) ?_
          exact xb_iret 0 0 hx hb hr hlocks (show k + 0 ≤ MC by omega) (show n + 0 ≤ MS by omega) hE hR hS (xb_d D_Reader_shapeOf 38 rfl) hw
        have hw := hw.2
        by_cases hc16 : x0 = 12
        · have hw := hw.1 hc16
          refine xt_numi hc16 ?_
          refine lv_tableIn (off := 169) (tgt := 224) hx hb (xb_d D_Reader_shapeOf 30 rfl) (by decide +kernel) (by decide +kernel) (by decide +kernel) (by decide) ?_
          exact am_Reader_shapeOf_L224 l hfl D A σ MC MS h0 Qr h hw p e s m args below meth c hC H locs ls k n hE (lv_sub hl [] rfl) hR hS (by omega) (by omega)
        have hw := hw.2
        by_cases hc17 : x0 = 13
        · have hw := hw.1 hc17
          refine xt_numi hc17 ?_
          refine lv_tableIn (off := 169) (tgt := 224) hx hb (xb_d D_Reader_shapeOf 30 rfl) (by decide +kernel) (by decide +kernel) (by decide +kernel) (by decide) ?_
          exact am_Reader_shapeOf_L224 l hfl D A σ MC MS h0 Qr h hw p e s m args below meth c hC H locs ls k n hE (lv_sub hl [] rfl) hR hS (by omega) (by omega)
        have hw := hw.2
        by_cases hc18 : x0 = 14
        · have hw := hw.1 hc18
          refine xt_numi hc18 ?_
          refine lv_tableIn (off := 173) (tgt := 228) hx hb (xb_d D_Reader_shapeOf 30 rfl) (by decide +kernel) (by decide +kernel) (by decide +kernel) (by decide) ?_
          refine lv_iconst (v := 5) hx hb (xb_d D_Reader_shapeOf 43 rfl) (by decide) ?_
          exact xb_iret 0 0 hx hb hr hlocks (show k + 0 ≤ MC by omega) (show n + 0 ≤ MS by omega) hE hR hS (xb_d D_Reader_shapeOf 44 rfl) hw
        have hw := hw.2
        by_cases hc19 : x0 = 15
        · have hw := hw.1 hc19
          refine xt_numi hc19 ?_
          refine lv_tableIn (off := 161) (tgt := 216) hx hb (xb_d D_Reader_shapeOf 30 rfl) (by decide +kernel) (by decide +kernel) (by decide +kernel) (by decide) ?_
          exact am_Reader_shapeOf_L216 l hfl D A σ MC MS h0 Qr h hw p e s m args below meth c hC H locs ls k n hE (lv_sub hl [] rfl) hR hS (by omega) (by omega)
        have hw := hw.2
        by_cases hc20 : x0 = 16
        · have hw := hw.1 hc20
          refine xt_numi hc20 ?_
          refine lv_tableIn (off := 169) (tgt := 224) hx hb (xb_d D_Reader_shapeOf 30 rfl) (by decide +kernel) (by decide +kernel) (by decide +kernel) (by decide) ?_
          exact am_Reader_shapeOf_L224 l hfl D A σ MC MS h0 Qr h hw p e s m args below meth c hC H locs ls k n hE (lv_sub hl [] rfl) hR hS (by omega) (by omega)
        have hw := hw.2
        by_cases hc21 : x0 = 17
        · have hw := hw.1 hc21
          refine xt_numi hc21 ?_
          refine lv_tableIn (off := 175) (tgt := 230) hx hb (xb_d D_Reader_shapeOf 30 rfl) (by decide +kernel) (by decide +kernel) (by decide +kernel) (by decide) ?_
          refine lv_bipush (v := 6) hx hb (xb_d D_Reader_shapeOf 45 rfl) (by decide) ?_
          exact xb_iret 0 0 hx hb hr hlocks (show k + 0 ≤ MC by omega) (show n + 0 ≤ MS by omega) hE hR hS (xb_d D_Reader_shapeOf 46 rfl) hw
        have hw := hw.2
        by_cases hc22 : x0 = 18
        · have hw := hw.1 hc22
          refine xt_numi hc22 ?_
          refine lv_tableIn (off := 178) (tgt := 233) hx hb (xb_d D_Reader_shapeOf 30 rfl) (by decide +kernel) (by decide +kernel) (by decide +kernel) (by decide) ?_
          exact am_Reader_shapeOf_L233 l hfl D A σ MC MS h0 Qr h hw p e s m args below meth c hC H locs ls k n hE (lv_sub hl [] rfl) hR hS (by omega) (by omega)
        have hw := hw.2
        by_cases hc23 : x0 = 19
        · have hw := hw.1 hc23
          refine xt_numi hc23 ?_
          refine lv_tableIn (off := 178) (tgt := 233) hx hb (xb_d D_Reader_shapeOf 30 rfl) (by decide +kernel) (by decide +kernel) (by decide +kernel) (by decide) ?_
          exact am_Reader_shapeOf_L233 l hfl D A σ MC MS h0 Qr h hw p e s m args below meth c hC H locs ls k n hE (lv_sub hl [] rfl) hR hS (by omega) (by omega)
        have hw := hw.2
        by_cases hc24 : x0 = 20
        · have hw := hw.1 hc24
          refine xt_numi hc24 ?_
          refine lv_tableIn (off := 178) (tgt := 233) hx hb (xb_d D_Reader_shapeOf 30 rfl) (by decide +kernel) (by decide +kernel) (by decide +kernel) (by decide) ?_
          exact am_Reader_shapeOf_L233 l hfl D A σ MC MS h0 Qr h hw p e s m args below meth c hC H locs ls k n hE (lv_sub hl [] rfl) hR hS (by omega) (by omega)
        have hw := hw.2
        by_cases hc25 : x0 = 21
        · have hw := hw.1 hc25
          refine xt_numi hc25 ?_
          refine lv_tableIn (off := 178) (tgt := 233) hx hb (xb_d D_Reader_shapeOf 30 rfl) (by decide +kernel) (by decide +kernel) (by decide +kernel) (by decide) ?_
          exact am_Reader_shapeOf_L233 l hfl D A σ MC MS h0 Qr h hw p e s m args below meth c hC H locs ls k n hE (lv_sub hl [] rfl) hR hS (by omega) (by omega)
        have hw := hw.2
        by_cases hc26 : x0 = 22
        · have hw := hw.1 hc26
          refine xt_numi hc26 ?_
          refine lv_tableIn (off := 178) (tgt := 233) hx hb (xb_d D_Reader_shapeOf 30 rfl) (by decide +kernel) (by decide +kernel) (by decide +kernel) (by decide) ?_
          exact am_Reader_shapeOf_L233 l hfl D A σ MC MS h0 Qr h hw p e s m args below meth c hC H locs ls k n hE (lv_sub hl [] rfl) hR hS (by omega) (by omega)
        have hw := hw.2
        by_cases hc27 : x0 = 23
        · have hw := hw.1 hc27
          refine xt_numi hc27 ?_
          refine lv_tableIn (off := 178) (tgt := 233) hx hb (xb_d D_Reader_shapeOf 30 rfl) (by decide +kernel) (by decide +kernel) (by decide +kernel) (by decide) ?_
          exact am_Reader_shapeOf_L233 l hfl D A σ MC MS h0 Qr h hw p e s m args below meth c hC H locs ls k n hE (lv_sub hl [] rfl) hR hS (by omega) (by omega)
        have hw := hw.2
        by_cases hc28 : x0 = 24
        · have hw := hw.1 hc28
          refine xt_numi hc28 ?_
          refine lv_tableIn (off := 178) (tgt := 233) hx hb (xb_d D_Reader_shapeOf 30 rfl) (by decide +kernel) (by decide +kernel) (by decide +kernel) (by decide) ?_
          exact am_Reader_shapeOf_L233 l hfl D A σ MC MS h0 Qr h hw p e s m args below meth c hC H locs ls k n hE (lv_sub hl [] rfl) hR hS (by omega) (by omega)
        have hw := hw.2
        by_cases hc29 : x0 = 25
        · have hw := hw.1 hc29
          refine xt_numi hc29 ?_
          refine lv_tableIn (off := 178) (tgt := 233) hx hb (xb_d D_Reader_shapeOf 30 rfl) (by decide +kernel) (by decide +kernel) (by decide +kernel) (by decide) ?_
          exact am_Reader_shapeOf_L233 l hfl D A σ MC MS h0 Qr h hw p e s m args below meth c hC H locs ls k n hE (lv_sub hl [] rfl) hR hS (by omega) (by omega)
        have hw := hw.2
        by_cases hc30 : x0 = 26
        · have hw := hw.1 hc30
          refine xt_numi hc30 ?_
          refine lv_tableIn (off := 161) (tgt := 216) hx hb (xb_d D_Reader_shapeOf 30 rfl) (by decide +kernel) (by decide +kernel) (by decide +kernel) (by decide) ?_
          exact am_Reader_shapeOf_L216 l hfl D A σ MC MS h0 Qr h hw p e s m args below meth c hC H locs ls k n hE (lv_sub hl [] rfl) hR hS (by omega) (by omega)
        have hw := hw.2
        by_cases hc31 : x0 = 27
        · have hw := hw.1 hc31
          refine xt_numi hc31 ?_
          refine lv_tableIn (off := 161) (tgt := 216) hx hb (xb_d D_Reader_shapeOf 30 rfl) (by decide +kernel) (by decide +kernel) (by decide +kernel) (by decide) ?_
          exact am_Reader_shapeOf_L216 l hfl D A σ MC MS h0 Qr h hw p e s m args below meth c hC H locs ls k n hE (lv_sub hl [] rfl) hR hS (by omega) (by omega)
        have hw := hw.2
        by_cases hc32 : x0 = 28
        · have hw := hw.1 hc32
          refine xt_numi hc32 ?_
          refine lv_tableIn (off := 178) (tgt := 233) hx hb (xb_d D_Reader_shapeOf 30 rfl) (by decide +kernel) (by decide +kernel) (by decide +kernel) (by decide) ?_
          exact am_Reader_shapeOf_L233 l hfl D A σ MC MS h0 Qr h hw p e s m args below meth c hC H locs ls k n hE (lv_sub hl [] rfl) hR hS (by omega) (by omega)
        have hw := hw.2
        by_cases hc33 : x0 = 29
        · have hw := hw.1 hc33
          refine xt_numi hc33 ?_
          refine lv_tableIn (off := 178) (tgt := 233) hx hb (xb_d D_Reader_shapeOf 30 rfl) (by decide +kernel) (by decide +kernel) (by decide +kernel) (by decide) ?_
          exact am_Reader_shapeOf_L233 l hfl D A σ MC MS h0 Qr h hw p e s m args below meth c hC H locs ls k n hE (lv_sub hl [] rfl) hR hS (by omega) (by omega)
        have hw := hw.2
        by_cases hc34 : x0 = 30
        · have hw := hw.1 hc34
          refine xt_numi hc34 ?_
          refine lv_tableIn (off := 178) (tgt := 233) hx hb (xb_d D_Reader_shapeOf 30 rfl) (by decide +kernel) (by decide +kernel) (by decide +kernel) (by decide) ?_
          exact am_Reader_shapeOf_L233 l hfl D A σ MC MS h0 Qr h hw p e s m args below meth c hC H locs ls k n hE (lv_sub hl [] rfl) hR hS (by omega) (by omega)
        have hw := hw.2
        by_cases hc35 : x0 = 31
        · have hw := hw.1 hc35
          refine xt_numi hc35 ?_
          refine lv_tableIn (off := 178) (tgt := 233) hx hb (xb_d D_Reader_shapeOf 30 rfl) (by decide +kernel) (by decide +kernel) (by decide +kernel) (by decide) ?_
          exact am_Reader_shapeOf_L233 l hfl D A σ MC MS h0 Qr h hw p e s m args below meth c hC H locs ls k n hE (lv_sub hl [] rfl) hR hS (by omega) (by omega)
        have hw := hw.2
        by_cases hc36 : x0 = 32
        · have hw := hw.1 hc36
          refine xt_numi hc36 ?_
          refine lv_tableIn (off := 171) (tgt := 226) hx hb (xb_d D_Reader_shapeOf 30 rfl) (by decide +kernel) (by decide +kernel) (by decide +kernel) (by decide) ?_
          exact am_Reader_shapeOf_L226 l hfl D A σ MC MS h0 Qr h hw p e s m args below meth c hC H locs ls k n hE (lv_sub hl [] rfl) hR hS (by omega) (by omega)
        have hw := hw.2
        by_cases hc37 : x0 = 33
        · have hw := hw.1 hc37
          refine xt_numi hc37 ?_
          refine lv_tableIn (off := 171) (tgt := 226) hx hb (xb_d D_Reader_shapeOf 30 rfl) (by decide +kernel) (by decide +kernel) (by decide +kernel) (by decide) ?_
          exact am_Reader_shapeOf_L226 l hfl D A σ MC MS h0 Qr h hw p e s m args below meth c hC H locs ls k n hE (lv_sub hl [] rfl) hR hS (by omega) (by omega)
        have hw := hw.2
        by_cases hc38 : x0 = 34
        · have hw := hw.1 hc38
          refine xt_numi hc38 ?_
          refine lv_tableIn (off := 171) (tgt := 226) hx hb (xb_d D_Reader_shapeOf 30 rfl) (by decide +kernel) (by decide +kernel) (by decide +kernel) (by decide) ?_
          exact am_Reader_shapeOf_L226 l hfl D A σ MC MS h0 Qr h hw p e s m args below meth c hC H locs ls k n hE (lv_sub hl [] rfl) hR hS (by omega) (by omega)
        have hw := hw.2
        by_cases hc39 : x0 = 35
        · have hw := hw.1 hc39
          refine xt_numi hc39 ?_
          refine lv_tableIn (off := 171) (tgt := 226) hx hb (xb_d D_Reader_shapeOf 30 rfl) (by decide +kernel) (by decide +kernel) (by decide +kernel) (by decide) ?_
          exact am_Reader_shapeOf_L226 l hfl D A σ MC MS h0 Qr h hw p e s m args below meth c hC H locs ls k n hE (lv_sub hl [] rfl) hR hS (by omega) (by omega)
        have hw := hw.2
        by_cases hc40 : x0 = 36
        · have hw := hw.1 hc40
          refine xt_numi hc40 ?_
          refine lv_tableIn (off := 171) (tgt := 226) hx hb (xb_d D_Reader_shapeOf 30 rfl) (by decide +kernel) (by decide +kernel) (by decide +kernel) (by decide) ?_
          exact am_Reader_shapeOf_L226 l hfl D A σ MC MS h0 Qr h hw p e s m args below meth c hC H locs ls k n hE (lv_sub hl [] rfl) hR hS (by omega) (by omega)
        have hw := hw.2
        have hw := hw hc4 hc5 hc6 hc7 hc8 hc9 hc10 hc11 hc12 hc13 hc14 hc15 hc16 hc17 hc18 hc19 hc20 hc21 hc22 hc23 hc24 hc25 hc26 hc27 hc28 hc29 hc30 hc31 hc32 hc33 hc34 hc35 hc36 hc37 hc38 hc39 hc40
        refine lv_tableOut (tgt := 233) hx hb (xb_d D_Reader_shapeOf 30 rfl) (by have a0 := xb_nl (0) 0 (by decide) hc4; have a1 := xb_nl (1) 1 (by decide) hc5; have a2 := xb_nl (2) 2 (by decide) hc6; have a3 := xb_nl (3) 3 (by decide) hc7; have a4 := xb_nl (4) 4 (by decide) hc8; have a5 := xb_nl (5) 5 (by decide) hc9; have a6 := xb_nl (6) 6 (by decide) hc10; have a7 := xb_nl (7) 7 (by decide) hc11; have a8 := xb_nl (8) 8 (by decide) hc12; have a9 := xb_nl (9) 9 (by decide) hc13; have a10 := xb_nl (10) 10 (by decide) hc14; have a11 := xb_nl (11) 11 (by decide) hc15; have a12 := xb_nl (12) 12 (by decide) hc16; have a13 := xb_nl (13) 13 (by decide) hc17; have a14 := xb_nl (14) 14 (by decide) hc18; have a15 := xb_nl (15) 15 (by decide) hc19; have a16 := xb_nl (16) 16 (by decide) hc20; have a17 := xb_nl (17) 17 (by decide) hc21; have a18 := xb_nl (18) 18 (by decide) hc22; have a19 := xb_nl (19) 19 (by decide) hc23; have a20 := xb_nl (20) 20 (by decide) hc24; have a21 := xb_nl (21) 21 (by decide) hc25; have a22 := xb_nl (22) 22 (by decide) hc26; have a23 := xb_nl (23) 23 (by decide) hc27; have a24 := xb_nl (24) 24 (by decide) hc28; have a25 := xb_nl (25) 25 (by decide) hc29; have a26 := xb_nl (26) 26 (by decide) hc30; have a27 := xb_nl (27) 27 (by decide) hc31; have a28 := xb_nl (28) 28 (by decide) hc32; have a29 := xb_nl (29) 29 (by decide) hc33; have a30 := xb_nl (30) 30 (by decide) hc34; have a31 := xb_nl (31) 31 (by decide) hc35; have a32 := xb_nl (32) 32 (by decide) hc36; have a33 := xb_nl (33) 33 (by decide) hc37; have a34 := xb_nl (34) 34 (by decide) hc38; have a35 := xb_nl (35) 35 (by decide) hc39; have a36 := xb_nl (36) 36 (by decide) hc40; omega) (by decide) ?_
        exact am_Reader_shapeOf_L233 l hfl D A σ MC MS h0 Qr h hw p e s m args below meth c hC H locs ls k n hE (lv_sub hl [] rfl) hR hS (by omega) (by omega)
      · have hw := hw.2 hc3
        refine lv_iload_n hx hb (xb_d D_Reader_shapeOf 22 rfl) rfl (lv_at hl 0 rfl) ?_
        refine lv_bipush (v := 63) hx hb (xb_d D_Reader_shapeOf 23 rfl) (by decide) ?_
        refine lv_icmp_lt (tgt := 51) hx hb (xb_d D_Reader_shapeOf 24 rfl) rfl (fun hc41 => ?_) (fun hc41 => ?_)
        · have hw := hw.1 hc41
          refine lv_bipush (v := 7) hx hb (xb_d D_Reader_shapeOf 27 rfl) (by decide) ?_
          exact am_Reader_shapeOf_L53 l hfl D A σ MC MS h0 Qr 7 h hw p e s m args below meth c hC H locs ls k n hE (lv_sub hl [] rfl) hR hS (by omega) (by omega)
        · have hw := hw.2 hc41
          refine lv_bipush (v := 8) hx hb (xb_d D_Reader_shapeOf 25 rfl) (by decide) ?_
          refine lv_goto (tgt := 53) hx hb (xb_d D_Reader_shapeOf 26 rfl) rfl ?_
          exact am_Reader_shapeOf_L53 l hfl D A σ MC MS h0 Qr 8 h hw p e s m args below meth c hC H locs ls k n hE (lv_sub hl [] rfl) hR hS (by omega) (by omega)
    · have hw := hw.2 hc2
      refine lv_bipush (v := 9) hx hb (xb_d D_Reader_shapeOf 13 rfl) (by decide) ?_
      refine lv_iload_n hx hb (xb_d D_Reader_shapeOf 14 rfl) rfl (lv_at hl 0 rfl) ?_
      refine lv_bipush (v := 65) hx hb (xb_d D_Reader_shapeOf 15 rfl) (by decide) ?_
      refine lv_isub hx hb (xb_d D_Reader_shapeOf 16 rfl) ?_
      refine lv_iadd hx hb (xb_d D_Reader_shapeOf 17 rfl) ?_
      exact xb_iret 0 0 hx hb hr hlocks (show k + 0 ≤ MC by omega) (show n + 0 ≤ MS by omega) hE hR hS (xb_d D_Reader_shapeOf 18 rfl) hw
  · have hw := hw.2 hc1
    refine lv_iload_n hx hb (xb_d D_Reader_shapeOf 3 rfl) rfl (lv_at hl 0 rfl) ?_
    refine lv_sipush (v := 191) hx hb (xb_d D_Reader_shapeOf 4 rfl) (by decide) ?_
    refine lv_icmp_gt (tgt := 17) hx hb (xb_d D_Reader_shapeOf 5 rfl) rfl (fun hc42 => ?_) (fun hc42 => ?_)
    · have hw := hw.1 hc42
      refine lv_bipush (v := 13) hx hb (xb_d D_Reader_shapeOf 8 rfl) (by decide) ?_
      exact am_Reader_shapeOf_L19 l hfl D A σ MC MS h0 Qr 13 h hw p e s m args below meth c hC H locs ls k n hE (lv_sub hl [] rfl) hR hS (by omega) (by omega)
    · have hw := hw.2 hc42
      refine lv_iconst (v := 0) hx hb (xb_d D_Reader_shapeOf 6 rfl) (by decide) ?_
      refine lv_goto (tgt := 19) hx hb (xb_d D_Reader_shapeOf 7 rfl) rfl ?_
      exact am_Reader_shapeOf_L19 l hfl D A σ MC MS h0 Qr 0 h hw p e s m args below meth c hC H locs ls k n hE (lv_sub hl [] rfl) hR hS (by omega) (by omega)

theorem m_eafba9d9 : (.methodLink "StackHost$Row" 1 objectInit : Cond) ∈ xt_tbl := xt_in (xt_t1 (List.mem_of_getElem? (i := 143) (by decide +kernel))) (by decide +kernel)
theorem m_d0ffeaec : (.fieldLink "StackHost$Row" 7 "StackHost$Row" "columns" "I" : Cond) ∈ xt_tbl := xt_in (xt_t1 (List.mem_of_getElem? (i := 155) (by decide +kernel))) (by decide +kernel)
theorem m_f2af499d : (.arrayClass .long : Cond) ∈ xt_tbl := xt_in (xt_t1 (List.mem_of_getElem? (i := 163) (by decide +kernel))) (by decide +kernel)
theorem m_8e18d96c : (.fieldLink "StackHost$Row" 13 "StackHost$Row" "items" "[J" : Cond) ∈ xt_tbl := xt_in (xt_t1 (List.mem_of_getElem? (i := 144) (by decide +kernel))) (by decide +kernel)
set_option maxRecDepth 100000 in
def T_Row_init : List (Nat × Instr × Nat) := [(0, .aload_n 0, 1), (1, .invokespecial 1, 3), (4, .aload_n 0, 1), (5, .iload_n 1, 1), (6, .putfield 7, 3), (9, .aload_n 0, 1), (10, .iconst 4, 1), (11, .newarray .long, 2), (13, .putfield 13, 3), (16, .return_, 1)]
theorem D_Row_init : ∀ q ∈ T_Row_init, decode b_Row_init q.1 = .ok (q.2.1, q.2.2) := by decide +kernel

set_option maxHeartbeats 4000000 in
set_option maxRecDepth 100000 in
theorem ok_Row_init (l : Launch) (hfl : l.flags = pinnedFlags ++ [noTraceFlag]) (D : va_G) (A : Nat → Prop) (σ : Nat) (x0 : Nat) (x1 : Int32) (h : xb_H) (bc : Nat) (bs : Nat) (Qr : xb_H → Nat → Nat → Prop) (hw : w_Row_init x0 x1 h bc bs Qr) : xb_Met l y_Row_init [.code y_Row_init b_Row_init 2 none] (xb_rm 2 bc bs) (xb_Pc D A σ h [.ref x0, .int x1]) (xb_Qc D A h bc bs (fun v h bc bs => v = none ∧ Qr h bc bs) (fun _ _ _ _ => False)) A := by
  refine xb_ofAm (cc := b_Row_init) (by decide) (Nat.le_of_ble_eq_true rfl) ?_
  unfold w_Row_init at hw
  show xb_am l D A σ 2 bc bs h (fun v h bc bs => v = none ∧ Qr h bc bs) (fun _ _ _ _ => False) y_Row_init.cls y_Row_init.name b_Row_init 2 ([] : List ExceptionTableEntry) none 0 [(0, .ref x0), (1, .int x1)] [] h bc bs
  obtain ⟨MC, hMC⟩ : ∃ x, x = bc := ⟨_, rfl⟩
  obtain ⟨MS, hMS⟩ : ∃ x, x = bs := ⟨_, rfl⟩
  rw [show xb_am l D A σ 2 bc bs = xb_am l D A σ 2 MC MS by rw [hMC, hMS]]
  obtain ⟨h0, hh0⟩ : ∃ x, x = h := ⟨_, rfl⟩
  rw [show xb_am l D A σ 2 MC MS h = xb_am l D A σ 2 MC MS h0 by rw [hh0]]
  intro p e s m args below meth c hC H locs ls k n hE hl hR hS hk hn
  obtain ⟨hx, hb, hown, hlocks, htab, hml, hr, hB, hA, hnm⟩ := id hC
  have hts := hB.1.1.at args
  refine lv_aload_n hx hb (xb_d D_Row_init 0 rfl) rfl (lv_at hl 0 rfl) ?_
  refine W.objInit hx hb hown (hts _ m_eafba9d9) (hts _ m_fba9d542) (hts _ m_9febdb7e) rfl (hml.trans hl.1.symm).symm rfl (xb_d D_Row_init 1 rfl) (by show 1 ≤ 8 + _; omega) (Nat.le_trans (Nat.le_of_ble_eq_true rfl : _ ≤ 40) (by show 40 ≤ 120 + _; omega)) ?_
  refine W.eq (g2 := F0 m 4 ls []) rfl ?_
  refine lv_aload_n hx hb (xb_d D_Row_init 2 rfl) rfl (lv_at hl 0 rfl) ?_
  refine lv_iload_n hx hb (xb_d D_Row_init 3 rfl) rfl (lv_at hl 1 rfl) ?_
  obtain ⟨hk1, hw⟩ := hw
  refine xb_putIF (C := R_Row) (T := F_Row) (N := 3) (ty := .int) (x := x1) hx hb 1 2 hts fin_Row t_Row t_Row_ok n_Row hown hR hS hk1 (by decide) rfl (by decide) rfl (hts _ m_d0ffeaec) (fun _ h9 => h9) rfl hnm rfl (by decide +kernel) rfl rfl (xb_d D_Row_init 4 rfl) (fun H locs hR hS => ?_)
  obtain ⟨h2, eh2⟩ : ∃ x : xb_H, x = xb_I h x0 2 x1 := ⟨_, rfl⟩
  rw [← eh2] at hR
  have hw := hw h2 eh2
  have hE : xb_ext h0 h2 := by rw [eh2]; exact hE
  refine lv_aload_n hx hb (xb_d D_Row_init 5 rfl) rfl (lv_at hl 0 rfl) ?_
  refine lv_iconst (v := 4) hx hb (xb_d D_Row_init 6 rfl) (by decide) ?_
  obtain ⟨hcq3, hsq3, hw⟩ := hw
  have enq3 : (4 : Int32).toNatClampNeg = 4 := by decide
  refine xb_newa_l hx hb (hts _ m_f2af499d) hR hS hA (by decide) (by decide +kernel) (show k + 1 ≤ MC by omega) (show n + _ ≤ MS by rw [enq3]; omega) (xb_d D_Row_init 7 rfl) (fun q3 H hqq3 hR hS => ?_)
  rw [enq3] at hR ⊢
  have hw := hw q3 hqq3
  obtain ⟨h4, eh4⟩ : ∃ x : xb_H, x = xb_new h2 q3 103 4 := ⟨_, rfl⟩
  rw [← eh4] at hR
  have hw := hw h4 eh4
  have hE : xb_ext h0 h4 := by rw [eh4]; exact hE.new _ _ hqq3
  have hk5 : xb_k h4 q3 = 103 := by rw [eh4]; exact xb_new_k _ _ _ _
  have hk1 : xb_k h2 x0 = 2 := by rw [eh2]; exact hk1
  have hk1 : xb_k h4 x0 = 2 := by rw [eh4]; exact xb_nk hqq3 hk1
  refine xb_putP (C := R_Row) (T := F_Row) (N := 3) (ty := .array .long) (x := (some q3)) hx hb 1 0 hts fin_Row t_Row t_Row_ok n_Row hown hR hS hk1 (by decide) rfl (by decide) rfl (hts _ m_8e18d96c) (fun _ h9 => h9) rfl (by decide +kernel) (xb_pnA _ _).1 (xb_pnA _ _).2 (xb_d D_Row_init 8 rfl) (fun H locs hR hS => ?_)
  obtain ⟨h6, eh6⟩ : ∃ x : xb_H, x = xb_P h4 x0 0 (some q3) := ⟨_, rfl⟩
  rw [← eh6] at hR
  have hw := hw h6 eh6
  have hE : xb_ext h0 h6 := by rw [eh6]; exact hE
  exact xb_vret (bc - 1) (bs - 4) hx hb hr hlocks (show (k + 1) + (bc - 1) ≤ MC by omega) (show (n + 4) + (bs - 4) ≤ MS by omega) hE hR hS (xb_d D_Row_init 9 rfl) hw

set_option maxRecDepth 100000 in
def T_Row_at : List (Nat × Instr × Nat) := [(0, .aload_n 0, 1), (1, .getfield 13, 3), (4, .iload_n 1, 1), (5, .aload_n 0, 1), (6, .getfield 7, 3), (9, .imul, 1), (10, .iload_n 2, 1), (11, .iadd, 1), (12, .laload, 1), (13, .l2i, 1), (14, .ireturn, 1)]
theorem D_Row_at : ∀ q ∈ T_Row_at, decode b_Row_at q.1 = .ok (q.2.1, q.2.2) := by decide +kernel

set_option maxHeartbeats 4000000 in
set_option maxRecDepth 100000 in
theorem ok_Row_at (l : Launch) (hfl : l.flags = pinnedFlags ++ [noTraceFlag]) (D : va_G) (A : Nat → Prop) (σ : Nat) (x0 : Nat) (x1 : Int32) (x2 : Int32) (h : xb_H) (Qr : Int32 → xb_H → Prop) (hw : w_Row_at x0 x1 x2 h Qr) : xb_Met l y_Row_at [.code y_Row_at b_Row_at 3 (some .int)] (xb_rm 2 0 0) (xb_Pc D A σ h [.ref x0, .int x1, .int x2]) (xb_Qc D A h 0 0 (fun v h _ _ => ∃ r, v = some (.int r) ∧ Qr r h) (fun _ _ _ _ => False)) A := by
  refine xb_ofAm (cc := b_Row_at) (by decide) (Nat.le_of_ble_eq_true rfl) ?_
  unfold w_Row_at at hw
  show xb_am l D A σ 2 0 0 h (fun v h _ _ => ∃ r, v = some (.int r) ∧ Qr r h) (fun _ _ _ _ => False) y_Row_at.cls y_Row_at.name b_Row_at 3 ([] : List ExceptionTableEntry) (some .int) 0 [(0, .ref x0), (1, .int x1), (2, .int x2)] [] h 0 0
  obtain ⟨MC, hMC⟩ : ∃ x, x = 0 := ⟨_, rfl⟩
  obtain ⟨MS, hMS⟩ : ∃ x, x = 0 := ⟨_, rfl⟩
  rw [show xb_am l D A σ 2 0 0 = xb_am l D A σ 2 MC MS by rw [hMC, hMS]]
  obtain ⟨h0, hh0⟩ : ∃ x, x = h := ⟨_, rfl⟩
  rw [show xb_am l D A σ 2 MC MS h = xb_am l D A σ 2 MC MS h0 by rw [hh0]]
  intro p e s m args below meth c hC H locs ls k n hE hl hR hS hk hn
  obtain ⟨hx, hb, hown, hlocks, htab, hml, hr, hB, hA, hnm⟩ := id hC
  have hts := hB.1.1.at args
  refine lv_aload_n hx hb (xb_d D_Row_at 0 rfl) rfl (lv_at hl 0 rfl) ?_
  obtain ⟨hk1, hw⟩ := hw
  refine xb_getP (C := R_Row) (T := F_Row) (N := 3) hx hb 1 0 hts fin_Row hown hR hk1 (by decide) rfl (by decide) rfl (hts _ m_8e18d96c) (fun _ h9 => h9) (xb_d D_Row_at 1 rfl) ?_
  obtain ⟨b2, eb2, hw⟩ := hw
  refine xb_some eb2 ?_
  refine lv_iload_n hx hb (xb_d D_Row_at 2 rfl) rfl (lv_at hl 1 rfl) ?_
  refine lv_aload_n hx hb (xb_d D_Row_at 3 rfl) rfl (lv_at hl 0 rfl) ?_
  refine xb_getI (C := R_Row) (T := F_Row) (N := 3) hx hb 1 2 hts fin_Row hown hR hk1 (by decide) rfl (by decide) rfl (hts _ m_d0ffeaec) (fun _ h9 => h9) (xb_d D_Row_at 4 rfl) ?_
  refine lv_imul hx hb (xb_d D_Row_at 5 rfl) ?_
  refine lv_iload_n hx hb (xb_d D_Row_at 6 rfl) rfl (lv_at hl 2 rfl) ?_
  refine lv_iadd hx hb (xb_d D_Row_at 7 rfl) ?_
  obtain ⟨hk4, hw⟩ := hw
  obtain ⟨hi3, hw⟩ := hw
  refine xb_lald hx hb hR hk4 hi3 (xb_d D_Row_at 8 rfl) ?_
  refine lv_l2i hx hb (xb_d D_Row_at 9 rfl) rfl ?_
  exact xb_iret 0 0 hx hb hr hlocks (show k + 0 ≤ MC by omega) (show n + 0 ≤ MS by omega) hE hR hS (xb_d D_Row_at 10 rfl) hw

theorem m_2c4f5cfd : (.fieldLink "StackHost$Row" 29 "StackHost$Row" "size" "I" : Cond) ∈ xt_tbl := xt_in (xt_t1 (List.mem_of_getElem? (i := 151) (by decide +kernel))) (by decide +kernel)
set_option maxRecDepth 100000 in
def T_Row_lines : List (Nat × Instr × Nat) := [(0, .aload_n 0, 1), (1, .getfield 29, 3), (4, .aload_n 0, 1), (5, .getfield 7, 3), (8, .idiv, 1), (9, .ireturn, 1)]
theorem D_Row_lines : ∀ q ∈ T_Row_lines, decode b_Row_lines q.1 = .ok (q.2.1, q.2.2) := by decide +kernel

set_option maxHeartbeats 4000000 in
set_option maxRecDepth 100000 in
theorem ok_Row_lines (l : Launch) (hfl : l.flags = pinnedFlags ++ [noTraceFlag]) (D : va_G) (A : Nat → Prop) (σ : Nat) (x0 : Nat) (h : xb_H) (Qr : Int32 → xb_H → Prop) (hw : w_Row_lines x0 h Qr) : xb_Met l y_Row_lines [.code y_Row_lines b_Row_lines 1 (some .int)] (xb_rm 2 0 0) (xb_Pc D A σ h [.ref x0]) (xb_Qc D A h 0 0 (fun v h _ _ => ∃ r, v = some (.int r) ∧ Qr r h) (fun _ _ _ _ => False)) A := by
  refine xb_ofAm (cc := b_Row_lines) (by decide) (Nat.le_of_ble_eq_true rfl) ?_
  unfold w_Row_lines at hw
  show xb_am l D A σ 2 0 0 h (fun v h _ _ => ∃ r, v = some (.int r) ∧ Qr r h) (fun _ _ _ _ => False) y_Row_lines.cls y_Row_lines.name b_Row_lines 1 ([] : List ExceptionTableEntry) (some .int) 0 [(0, .ref x0)] [] h 0 0
  obtain ⟨MC, hMC⟩ : ∃ x, x = 0 := ⟨_, rfl⟩
  obtain ⟨MS, hMS⟩ : ∃ x, x = 0 := ⟨_, rfl⟩
  rw [show xb_am l D A σ 2 0 0 = xb_am l D A σ 2 MC MS by rw [hMC, hMS]]
  obtain ⟨h0, hh0⟩ : ∃ x, x = h := ⟨_, rfl⟩
  rw [show xb_am l D A σ 2 MC MS h = xb_am l D A σ 2 MC MS h0 by rw [hh0]]
  intro p e s m args below meth c hC H locs ls k n hE hl hR hS hk hn
  obtain ⟨hx, hb, hown, hlocks, htab, hml, hr, hB, hA, hnm⟩ := id hC
  have hts := hB.1.1.at args
  refine lv_aload_n hx hb (xb_d D_Row_lines 0 rfl) rfl (lv_at hl 0 rfl) ?_
  obtain ⟨hk1, hw⟩ := hw
  refine xb_getI (C := R_Row) (T := F_Row) (N := 3) hx hb 1 1 hts fin_Row hown hR hk1 (by decide) rfl (by decide) rfl (hts _ m_2c4f5cfd) (fun _ h9 => h9) (xb_d D_Row_lines 1 rfl) ?_
  refine lv_aload_n hx hb (xb_d D_Row_lines 2 rfl) rfl (lv_at hl 0 rfl) ?_
  refine xb_getI (C := R_Row) (T := F_Row) (N := 3) hx hb 1 2 hts fin_Row hown hR hk1 (by decide) rfl (by decide) rfl (hts _ m_d0ffeaec) (fun _ h9 => h9) (xb_d D_Row_lines 3 rfl) ?_
  obtain ⟨hz2, hw⟩ := hw
  refine lv_idiv hx hb (xb_d D_Row_lines 4 rfl) hz2 ?_
  exact xb_iret 0 0 hx hb hr hlocks (show k + 0 ≤ MC by omega) (show n + 0 ≤ MS by omega) hE hR hS (xb_d D_Row_lines 5 rfl) hw

set_option maxRecDepth 100000 in
def T_Row_longAt : List (Nat × Instr × Nat) := [(0, .aload_n 0, 1), (1, .getfield 13, 3), (4, .iload_n 1, 1), (5, .aload_n 0, 1), (6, .getfield 7, 3), (9, .imul, 1), (10, .iload_n 2, 1), (11, .iadd, 1), (12, .laload, 1), (13, .lreturn, 1)]
theorem D_Row_longAt : ∀ q ∈ T_Row_longAt, decode b_Row_longAt q.1 = .ok (q.2.1, q.2.2) := by decide +kernel

set_option maxHeartbeats 4000000 in
set_option maxRecDepth 100000 in
theorem ok_Row_longAt (l : Launch) (hfl : l.flags = pinnedFlags ++ [noTraceFlag]) (D : va_G) (A : Nat → Prop) (σ : Nat) (x0 : Nat) (x1 : Int32) (x2 : Int32) (h : xb_H) (Qr : Int64 → xb_H → Prop) (hw : w_Row_longAt x0 x1 x2 h Qr) : xb_Met l y_Row_longAt [.code y_Row_longAt b_Row_longAt 3 (some .long)] (xb_rm 2 0 0) (xb_Pc D A σ h [.ref x0, .int x1, .int x2]) (xb_Qc D A h 0 0 (fun v h _ _ => ∃ r, v = some (.long r) ∧ Qr r h) (fun _ _ _ _ => False)) A := by
  refine xb_ofAm (cc := b_Row_longAt) (by decide) (Nat.le_of_ble_eq_true rfl) ?_
  unfold w_Row_longAt at hw
  show xb_am l D A σ 2 0 0 h (fun v h _ _ => ∃ r, v = some (.long r) ∧ Qr r h) (fun _ _ _ _ => False) y_Row_longAt.cls y_Row_longAt.name b_Row_longAt 3 ([] : List ExceptionTableEntry) (some .long) 0 [(0, .ref x0), (1, .int x1), (2, .int x2)] [] h 0 0
  obtain ⟨MC, hMC⟩ : ∃ x, x = 0 := ⟨_, rfl⟩
  obtain ⟨MS, hMS⟩ : ∃ x, x = 0 := ⟨_, rfl⟩
  rw [show xb_am l D A σ 2 0 0 = xb_am l D A σ 2 MC MS by rw [hMC, hMS]]
  obtain ⟨h0, hh0⟩ : ∃ x, x = h := ⟨_, rfl⟩
  rw [show xb_am l D A σ 2 MC MS h = xb_am l D A σ 2 MC MS h0 by rw [hh0]]
  intro p e s m args below meth c hC H locs ls k n hE hl hR hS hk hn
  obtain ⟨hx, hb, hown, hlocks, htab, hml, hr, hB, hA, hnm⟩ := id hC
  have hts := hB.1.1.at args
  refine lv_aload_n hx hb (xb_d D_Row_longAt 0 rfl) rfl (lv_at hl 0 rfl) ?_
  obtain ⟨hk1, hw⟩ := hw
  refine xb_getP (C := R_Row) (T := F_Row) (N := 3) hx hb 1 0 hts fin_Row hown hR hk1 (by decide) rfl (by decide) rfl (hts _ m_8e18d96c) (fun _ h9 => h9) (xb_d D_Row_longAt 1 rfl) ?_
  obtain ⟨b2, eb2, hw⟩ := hw
  refine xb_some eb2 ?_
  refine lv_iload_n hx hb (xb_d D_Row_longAt 2 rfl) rfl (lv_at hl 1 rfl) ?_
  refine lv_aload_n hx hb (xb_d D_Row_longAt 3 rfl) rfl (lv_at hl 0 rfl) ?_
  refine xb_getI (C := R_Row) (T := F_Row) (N := 3) hx hb 1 2 hts fin_Row hown hR hk1 (by decide) rfl (by decide) rfl (hts _ m_d0ffeaec) (fun _ h9 => h9) (xb_d D_Row_longAt 4 rfl) ?_
  refine lv_imul hx hb (xb_d D_Row_longAt 5 rfl) ?_
  refine lv_iload_n hx hb (xb_d D_Row_longAt 6 rfl) rfl (lv_at hl 2 rfl) ?_
  refine lv_iadd hx hb (xb_d D_Row_longAt 7 rfl) ?_
  obtain ⟨hk4, hw⟩ := hw
  obtain ⟨hi3, hw⟩ := hw
  refine xb_lald hx hb hR hk4 hi3 (xb_d D_Row_longAt 8 rfl) ?_
  exact xb_lret 0 0 hx hb hr hlocks (show k + 0 ≤ MC by omega) (show n + 0 ≤ MS by omega) hE hR hS (xb_d D_Row_longAt 9 rfl) hw

set_option maxRecDepth 100000 in
def T_Row_setAt : List (Nat × Instr × Nat) := [(0, .aload_n 0, 1), (1, .getfield 13, 3), (4, .iload_n 1, 1), (5, .aload_n 0, 1), (6, .getfield 7, 3), (9, .imul, 1), (10, .iload_n 2, 1), (11, .iadd, 1), (12, .lload_n 3, 1), (13, .lastore, 1), (14, .return_, 1)]
theorem D_Row_setAt : ∀ q ∈ T_Row_setAt, decode b_Row_setAt q.1 = .ok (q.2.1, q.2.2) := by decide +kernel

set_option maxHeartbeats 4000000 in
set_option maxRecDepth 100000 in
theorem ok_Row_setAt (l : Launch) (hfl : l.flags = pinnedFlags ++ [noTraceFlag]) (D : va_G) (A : Nat → Prop) (σ : Nat) (x0 : Nat) (x1 : Int32) (x2 : Int32) (x3 : Int64) (h : xb_H) (Qr : xb_H → Prop) (hw : w_Row_setAt x0 x1 x2 x3 h Qr) : xb_Met l y_Row_setAt [.code y_Row_setAt b_Row_setAt 5 none] (xb_rm 2 0 0) (xb_Pc D A σ h [.ref x0, .int x1, .int x2, .long x3]) (xb_Qc D A h 0 0 (fun v h _ _ => v = none ∧ Qr h) (fun _ _ _ _ => False)) A := by
  refine xb_ofAm (cc := b_Row_setAt) (by decide) (Nat.le_of_ble_eq_true rfl) ?_
  unfold w_Row_setAt at hw
  show xb_am l D A σ 2 0 0 h (fun v h _ _ => v = none ∧ Qr h) (fun _ _ _ _ => False) y_Row_setAt.cls y_Row_setAt.name b_Row_setAt 5 ([] : List ExceptionTableEntry) none 0 [(0, .ref x0), (1, .int x1), (2, .int x2), (3, .long x3)] [] h 0 0
  obtain ⟨MC, hMC⟩ : ∃ x, x = 0 := ⟨_, rfl⟩
  obtain ⟨MS, hMS⟩ : ∃ x, x = 0 := ⟨_, rfl⟩
  rw [show xb_am l D A σ 2 0 0 = xb_am l D A σ 2 MC MS by rw [hMC, hMS]]
  obtain ⟨h0, hh0⟩ : ∃ x, x = h := ⟨_, rfl⟩
  rw [show xb_am l D A σ 2 MC MS h = xb_am l D A σ 2 MC MS h0 by rw [hh0]]
  intro p e s m args below meth c hC H locs ls k n hE hl hR hS hk hn
  obtain ⟨hx, hb, hown, hlocks, htab, hml, hr, hB, hA, hnm⟩ := id hC
  have hts := hB.1.1.at args
  refine lv_aload_n hx hb (xb_d D_Row_setAt 0 rfl) rfl (lv_at hl 0 rfl) ?_
  obtain ⟨hk1, hw⟩ := hw
  refine xb_getP (C := R_Row) (T := F_Row) (N := 3) hx hb 1 0 hts fin_Row hown hR hk1 (by decide) rfl (by decide) rfl (hts _ m_8e18d96c) (fun _ h9 => h9) (xb_d D_Row_setAt 1 rfl) ?_
  obtain ⟨b2, eb2, hw⟩ := hw
  refine xb_some eb2 ?_
  refine lv_iload_n hx hb (xb_d D_Row_setAt 2 rfl) rfl (lv_at hl 1 rfl) ?_
  refine lv_aload_n hx hb (xb_d D_Row_setAt 3 rfl) rfl (lv_at hl 0 rfl) ?_
  refine xb_getI (C := R_Row) (T := F_Row) (N := 3) hx hb 1 2 hts fin_Row hown hR hk1 (by decide) rfl (by decide) rfl (hts _ m_d0ffeaec) (fun _ h9 => h9) (xb_d D_Row_setAt 4 rfl) ?_
  refine lv_imul hx hb (xb_d D_Row_setAt 5 rfl) ?_
  refine lv_iload_n hx hb (xb_d D_Row_setAt 6 rfl) rfl (lv_at hl 2 rfl) ?_
  refine lv_iadd hx hb (xb_d D_Row_setAt 7 rfl) ?_
  refine lv_lload_n hx hb (xb_d D_Row_setAt 8 rfl) rfl (lv_at hl 3 rfl) ?_
  obtain ⟨hk3, hw⟩ := hw
  obtain ⟨hi4, hw⟩ := hw
  refine xb_last hx hb hR hS hk3 hi4 (xb_d D_Row_setAt 9 rfl) (fun H locs hR hS => ?_)
  obtain ⟨h5, eh5⟩ : ∃ x : xb_H, x = xb_L h b2 (Int32.toNatClampNeg ((x1 * (xb_i h x0 2)) + x2)) x3 := ⟨_, rfl⟩
  rw [← eh5] at hR
  have hw := hw h5 eh5
  have hE : xb_ext h0 h5 := by rw [eh5]; exact hE
  exact xb_vret 0 0 hx hb hr hlocks (show k + 0 ≤ MC by omega) (show n + 0 ≤ MS by omega) hE hR hS (xb_d D_Row_setAt 10 rfl) hw

theorem m_d5fe03eb : (.constantLong "StackHost$StackModule" 106 4294967295 : Cond) ∈ xt_tbl := xt_in (xt_t6 (List.mem_of_getElem? (i := 219) (by decide +kernel))) (by decide +kernel)
theorem m_790d7a2e : (.fieldLink "StackHost$StackModule" 68 "StackHost$StackModule" "notes" "[I" : Cond) ∈ xt_tbl := xt_in (xt_t3 (List.mem_of_getElem? (i := 51) (by decide +kernel))) (by decide +kernel)
theorem m_18969b14 : (.fieldLink "StackHost$StackModule" 64 "StackHost$StackModule" "code" "[B" : Cond) ∈ xt_tbl := xt_in (xt_t3 (List.mem_of_getElem? (i := 46) (by decide +kernel))) (by decide +kernel)
set_option maxRecDepth 100000 in
def T_StackModule_constantAt : List (Nat × Instr × Nat) := [(0, .aload_n 0, 1), (1, .getfield 68, 3), (4, .iload_n 1, 1), (5, .iconst 1, 1), (6, .iadd, 1), (7, .iaload, 1), (8, .istore_n 2, 1), (9, .aload_n 0, 1), (10, .getfield 64, 3), (13, .iload_n 1, 1), (14, .baload, 1), (15, .lookupswitch 32 #[(65, 25), (67, 25)], 25), (40, .iload_n 2, 1), (41, .i2l, 1), (42, .ldc2_w 106, 3), (45, .land, 1), (46, .lreturn, 1), (47, .aload_n 0, 1), (48, .getfield 68, 3), (51, .iload_n 1, 1), (52, .iaload, 1), (53, .iload_n 1, 1), (54, .iconst 2, 1), (55, .iadd, 1), (56, .if_icmp .ne 8, 3), (59, .iload_n 2, 1), (60, .i2l, 1), (61, .goto 22, 3), (64, .aload_n 0, 1), (65, .getfield 68, 3), (68, .iload_n 1, 1), (69, .iconst 2, 1), (70, .iadd, 1), (71, .iaload, 1), (72, .i2l, 1), (73, .bipush 32, 2), (75, .lshl, 1), (76, .iload_n 2, 1), (77, .i2l, 1), (78, .ldc2_w 106, 3), (81, .land, 1), (82, .lor, 1), (83, .lreturn, 1)]
theorem D_StackModule_constantAt : ∀ q ∈ T_StackModule_constantAt, decode b_StackModule_constantAt q.1 = .ok (q.2.1, q.2.2) := by decide +kernel

set_option maxHeartbeats 4000000 in
set_option maxRecDepth 100000 in
theorem am_StackModule_constantAt_L83 (l : Launch) (hfl : l.flags = pinnedFlags ++ [noTraceFlag]) (D : va_G) (A : Nat → Prop) (σ MC MS : Nat) (h0 : xb_H) (Qr : Int64 → xb_H → Prop) (y0 : Int64) (h : xb_H) (hw : w_StackModule_constantAt_L83 Qr y0 h) : xb_am l D A σ 2 MC MS h0 (fun v h _ _ => ∃ r, v = some (.long r) ∧ Qr r h) (fun _ _ _ _ => False) y_StackModule_constantAt.cls y_StackModule_constantAt.name b_StackModule_constantAt 3 ([] : List ExceptionTableEntry) (some .long) 83 [] [.long y0] h 0 0 := by
  unfold w_StackModule_constantAt_L83 at hw
  intro p e s m args below meth c hC H locs ls k n hE hl hR hS hk hn
  obtain ⟨hx, hb, hown, hlocks, htab, hml, hr, hB, hA, hnm⟩ := id hC
  have hts := hB.1.1.at args
  exact xb_lret 0 0 hx hb hr hlocks (show k + 0 ≤ MC by omega) (show n + 0 ≤ MS by omega) hE hR hS (xb_d D_StackModule_constantAt 42 rfl) hw

set_option maxHeartbeats 4000000 in
set_option maxRecDepth 100000 in
theorem am_StackModule_constantAt_L40 (l : Launch) (hfl : l.flags = pinnedFlags ++ [noTraceFlag]) (D : va_G) (A : Nat → Prop) (σ MC MS : Nat) (h0 : xb_H) (Qr : Int64 → xb_H → Prop) (x2 : Int32) (h : xb_H) (hw : w_StackModule_constantAt_L40 Qr x2 h) : xb_am l D A σ 2 MC MS h0 (fun v h _ _ => ∃ r, v = some (.long r) ∧ Qr r h) (fun _ _ _ _ => False) y_StackModule_constantAt.cls y_StackModule_constantAt.name b_StackModule_constantAt 3 ([] : List ExceptionTableEntry) (some .long) 40 [(2, .int x2)] [] h 0 0 := by
  unfold w_StackModule_constantAt_L40 at hw
  intro p e s m args below meth c hC H locs ls k n hE hl hR hS hk hn
  obtain ⟨hx, hb, hown, hlocks, htab, hml, hr, hB, hA, hnm⟩ := id hC
  have hts := hB.1.1.at args
  refine lv_iload_n hx hb (xb_d D_StackModule_constantAt 12 rfl) rfl (lv_at hl 0 rfl) ?_
  refine lv_i2l hx hb (xb_d D_StackModule_constantAt 13 rfl) rfl ?_
  refine lv_ldc2 (v := 4294967295) hx hb hown (hts _ m_d5fe03eb) (xb_d D_StackModule_constantAt 14 rfl) ?_
  refine lv_land hx hb (xb_d D_StackModule_constantAt 15 rfl) ?_
  exact xb_lret 0 0 hx hb hr hlocks (show k + 0 ≤ MC by omega) (show n + 0 ≤ MS by omega) hE hR hS (xb_d D_StackModule_constantAt 16 rfl) hw

set_option maxHeartbeats 4000000 in
set_option maxRecDepth 100000 in
theorem ok_StackModule_constantAt (l : Launch) (hfl : l.flags = pinnedFlags ++ [noTraceFlag]) (D : va_G) (A : Nat → Prop) (σ : Nat) (x0 : Nat) (x1 : Int32) (h : xb_H) (Qr : Int64 → xb_H → Prop) (hw : w_StackModule_constantAt x0 x1 h Qr) : xb_Met l y_StackModule_constantAt [.code y_StackModule_constantAt b_StackModule_constantAt 3 (some .long)] (xb_rm 2 0 0) (xb_Pc D A σ h [.ref x0, .int x1]) (xb_Qc D A h 0 0 (fun v h _ _ => ∃ r, v = some (.long r) ∧ Qr r h) (fun _ _ _ _ => False)) A := by
  refine xb_ofAm (cc := b_StackModule_constantAt) (by decide) (Nat.le_of_ble_eq_true rfl) ?_
  unfold w_StackModule_constantAt at hw
  show xb_am l D A σ 2 0 0 h (fun v h _ _ => ∃ r, v = some (.long r) ∧ Qr r h) (fun _ _ _ _ => False) y_StackModule_constantAt.cls y_StackModule_constantAt.name b_StackModule_constantAt 3 ([] : List ExceptionTableEntry) (some .long) 0 [(0, .ref x0), (1, .int x1)] [] h 0 0
  obtain ⟨MC, hMC⟩ : ∃ x, x = 0 := ⟨_, rfl⟩
  obtain ⟨MS, hMS⟩ : ∃ x, x = 0 := ⟨_, rfl⟩
  rw [show xb_am l D A σ 2 0 0 = xb_am l D A σ 2 MC MS by rw [hMC, hMS]]
  obtain ⟨h0, hh0⟩ : ∃ x, x = h := ⟨_, rfl⟩
  rw [show xb_am l D A σ 2 MC MS h = xb_am l D A σ 2 MC MS h0 by rw [hh0]]
  intro p e s m args below meth c hC H locs ls k n hE hl hR hS hk hn
  obtain ⟨hx, hb, hown, hlocks, htab, hml, hr, hB, hA, hnm⟩ := id hC
  have hts := hB.1.1.at args
  refine lv_aload_n hx hb (xb_d D_StackModule_constantAt 0 rfl) rfl (lv_at hl 0 rfl) ?_
  obtain ⟨hk1, hw⟩ := hw
  refine xb_getP (C := R_StackModule) (T := F_StackModule) (N := 19) hx hb 2 1 hts fin_StackModule hown hR hk1 (by decide) rfl (by decide) rfl (hts _ m_790d7a2e) (fun _ h9 => h9) (xb_d D_StackModule_constantAt 1 rfl) ?_
  obtain ⟨b2, eb2, hw⟩ := hw
  refine xb_some eb2 ?_
  refine lv_iload_n hx hb (xb_d D_StackModule_constantAt 2 rfl) rfl (lv_at hl 1 rfl) ?_
  refine lv_iconst (v := 1) hx hb (xb_d D_StackModule_constantAt 3 rfl) (by decide) ?_
  refine lv_iadd hx hb (xb_d D_StackModule_constantAt 4 rfl) ?_
  obtain ⟨hk4, hw⟩ := hw
  obtain ⟨hi3, hw⟩ := hw
  refine xb_iald hx hb hR hk4 hi3 (xb_d D_StackModule_constantAt 5 rfl) ?_
  obtain ⟨v5, ev5⟩ : ∃ x : Int32, x = (xb_i h b2 (Int32.toNatClampNeg (x1 + 1))) := ⟨_, rfl⟩
  have hw := hw v5 ev5
  refine xt_numi (y := v5) ev5.symm ?_
  refine lv_istore_n hx hb (xb_d D_StackModule_constantAt 6 rfl) rfl hl (by decide) rfl (fun ls hl => ?_)
  have hl : lv_has ls 3 [(2, .int v5), (0, .ref x0), (1, .int x1)] := hl
  refine lv_aload_n hx hb (xb_d D_StackModule_constantAt 7 rfl) rfl (lv_at hl 1 rfl) ?_
  refine xb_getP (C := R_StackModule) (T := F_StackModule) (N := 19) hx hb 2 0 hts fin_StackModule hown hR hk1 (by decide) rfl (by decide) rfl (hts _ m_18969b14) (fun _ h9 => h9) (xb_d D_StackModule_constantAt 8 rfl) ?_
  obtain ⟨b6, eb6, hw⟩ := hw
  refine xb_some eb6 ?_
  refine lv_iload_n hx hb (xb_d D_StackModule_constantAt 9 rfl) rfl (lv_at hl 2 rfl) ?_
  obtain ⟨hk8, hw⟩ := hw
  obtain ⟨hi7, hw⟩ := hw
  refine xb_bald hx hb hR hk8 hi7 (xb_d D_StackModule_constantAt 10 rfl) ?_
  by_cases hc9 : (xb_i h b6 (Int32.toNatClampNeg x1)) = 65
  · have hw := hw.1 hc9
    refine xt_numi hc9 ?_
    refine lv_lookup (off := 25) (tgt := 40) hx hb (xb_d D_StackModule_constantAt 11 rfl) (by decide +kernel) (by decide +kernel) (by decide) ?_
    exact am_StackModule_constantAt_L40 l hfl D A σ MC MS h0 Qr v5 h hw p e s m args below meth c hC H locs ls k n hE (lv_sub hl [0] rfl) hR hS (by omega) (by omega)
  have hw := hw.2
  by_cases hc10 : (xb_i h b6 (Int32.toNatClampNeg x1)) = 67
  · have hw := hw.1 hc10
    refine xt_numi hc10 ?_
    refine lv_lookup (off := 25) (tgt := 40) hx hb (xb_d D_StackModule_constantAt 11 rfl) (by decide +kernel) (by decide +kernel) (by decide) ?_
    exact am_StackModule_constantAt_L40 l hfl D A σ MC MS h0 Qr v5 h hw p e s m args below meth c hC H locs ls k n hE (lv_sub hl [0] rfl) hR hS (by omega) (by omega)
  have hw := hw.2
  have hw := hw hc9 hc10
  refine lv_lookup (off := 32) (tgt := 47) hx hb (xb_d D_StackModule_constantAt 11 rfl) (by decide +kernel) (by simp only [List.toList_toArray, Op.lookupswitch.offset_cons, Op.lookupswitch.offset_nil]; rw [if_neg (fun h9 => xb_nl (65) 65 (by decide) hc9 h9.symm), if_neg (fun h9 => xb_nl (67) 67 (by decide) hc10 h9.symm)]) (by decide) ?_
  refine lv_aload_n hx hb (xb_d D_StackModule_constantAt 17 rfl) rfl (lv_at hl 1 rfl) ?_
  refine xb_getP (C := R_StackModule) (T := F_StackModule) (N := 19) hx hb 2 1 hts fin_StackModule hown hR hk1 (by decide) rfl (by decide) rfl (hts _ m_790d7a2e) (fun _ h9 => h9) (xb_d D_StackModule_constantAt 18 rfl) ?_
  obtain ⟨b11, eb11, hw⟩ := hw
  refine xb_some eb11 ?_
  refine lv_iload_n hx hb (xb_d D_StackModule_constantAt 19 rfl) rfl (lv_at hl 2 rfl) ?_
  obtain ⟨hk13, hw⟩ := hw
  obtain ⟨hi12, hw⟩ := hw
  refine xb_iald hx hb hR hk13 hi12 (xb_d D_StackModule_constantAt 20 rfl) ?_
  refine lv_iload_n hx hb (xb_d D_StackModule_constantAt 21 rfl) rfl (lv_at hl 2 rfl) ?_
  refine lv_iconst (v := 2) hx hb (xb_d D_StackModule_constantAt 22 rfl) (by decide) ?_
  refine lv_iadd hx hb (xb_d D_StackModule_constantAt 23 rfl) ?_
  refine lv_icmp_ne (tgt := 64) hx hb (xb_d D_StackModule_constantAt 24 rfl) rfl (fun hc14 => ?_) (fun hc14 => ?_)
  · have hw := hw.1 hc14
    refine lv_aload_n hx hb (xb_d D_StackModule_constantAt 28 rfl) rfl (lv_at hl 1 rfl) ?_
    refine xb_getP (C := R_StackModule) (T := F_StackModule) (N := 19) hx hb 2 1 hts fin_StackModule hown hR hk1 (by decide) rfl (by decide) rfl (hts _ m_790d7a2e) (fun _ h9 => h9) (xb_d D_StackModule_constantAt 29 rfl) ?_
    obtain ⟨b15, eb15, hw⟩ := hw
    refine xb_some eb15 ?_
    refine lv_iload_n hx hb (xb_d D_StackModule_constantAt 30 rfl) rfl (lv_at hl 2 rfl) ?_
    refine lv_iconst (v := 2) hx hb (xb_d D_StackModule_constantAt 31 rfl) (by decide) ?_
    refine lv_iadd hx hb (xb_d D_StackModule_constantAt 32 rfl) ?_
    obtain ⟨hk17, hw⟩ := hw
    obtain ⟨hi16, hw⟩ := hw
    refine xb_iald hx hb hR hk17 hi16 (xb_d D_StackModule_constantAt 33 rfl) ?_
    refine lv_i2l hx hb (xb_d D_StackModule_constantAt 34 rfl) rfl ?_
    refine lv_bipush (v := 32) hx hb (xb_d D_StackModule_constantAt 35 rfl) (by decide) ?_
    refine lv_lshl (v := (xb_lshl (Int32.toInt64 (xb_i h b15 (Int32.toNatClampNeg (x1 + 2)))) 32)) hx hb (xb_d D_StackModule_constantAt 36 rfl) rfl ?_
    refine lv_iload_n hx hb (xb_d D_StackModule_constantAt 37 rfl) rfl (lv_at hl 0 rfl) ?_
    refine lv_i2l hx hb (xb_d D_StackModule_constantAt 38 rfl) rfl ?_
    refine lv_ldc2 (v := 4294967295) hx hb hown (hts _ m_d5fe03eb) (xb_d D_StackModule_constantAt 39 rfl) ?_
    refine lv_land hx hb (xb_d D_StackModule_constantAt 40 rfl) ?_
    refine lv_lor hx hb (xb_d D_StackModule_constantAt 41 rfl) ?_
    exact am_StackModule_constantAt_L83 l hfl D A σ MC MS h0 Qr ((xb_lshl (Int32.toInt64 (xb_i h b15 (Int32.toNatClampNeg (x1 + 2)))) 32) ||| ((Int32.toInt64 v5) &&& 4294967295)) h hw p e s m args below meth c hC H locs ls k n hE (lv_sub hl [] rfl) hR hS (by omega) (by omega)
  · have hw := hw.2 hc14
    refine lv_iload_n hx hb (xb_d D_StackModule_constantAt 25 rfl) rfl (lv_at hl 0 rfl) ?_
    refine lv_i2l hx hb (xb_d D_StackModule_constantAt 26 rfl) rfl ?_
    refine lv_goto (tgt := 83) hx hb (xb_d D_StackModule_constantAt 27 rfl) rfl ?_
    exact am_StackModule_constantAt_L83 l hfl D A σ MC MS h0 Qr (Int32.toInt64 v5) h hw p e s m args below meth c hC H locs ls k n hE (lv_sub hl [] rfl) hR hS (by omega) (by omega)

theorem m_31336272 : (.fieldLink "StackHost$StackModule" 71 "StackHost$StackModule" "faultCode" "I" : Cond) ∈ xt_tbl := xt_in (xt_t3 (List.mem_of_getElem? (i := 124) (by decide +kernel))) (by decide +kernel)
theorem m_5e22c58e : (.fieldLink "StackHost$StackModule" 74 "StackHost$StackModule" "faultPlace" "I" : Cond) ∈ xt_tbl := xt_in (xt_t3 (List.mem_of_getElem? (i := 126) (by decide +kernel))) (by decide +kernel)
set_option maxRecDepth 100000 in
def T_StackModule_fail : List (Nat × Instr × Nat) := [(0, .aload_n 0, 1), (1, .iload_n 1, 1), (2, .putfield 71, 3), (5, .aload_n 0, 1), (6, .iload_n 2, 1), (7, .putfield 74, 3), (10, .new 77, 3), (13, .dup, 1), (14, .ldc 79, 2), (16, .invokespecial 81, 3), (19, .athrow, 1)]
theorem D_StackModule_fail : ∀ q ∈ T_StackModule_fail, decode b_StackModule_fail q.1 = .ok (q.2.1, q.2.2) := by decide +kernel

set_option maxHeartbeats 4000000 in
set_option maxRecDepth 100000 in
theorem ok_StackModule_fail (l : Launch) (hfl : l.flags = pinnedFlags ++ [noTraceFlag]) (D : va_G) (A : Nat → Prop) (σ : Nat) (x0 : Nat) (x1 : Int32) (x2 : Int32) (h : xb_H) (bc : Nat) (bs : Nat) (Qr : xb_H → Nat → Nat → Prop) (Qt : String → xb_H → Nat → Nat → Prop) (hw : w_StackModule_fail x0 x1 x2 h bc bs Qr Qt) : xb_Met l y_StackModule_fail [.code y_StackModule_fail b_StackModule_fail 3 none] (xb_rm 2 bc bs) (xb_Pc D A σ h [.ref x0, .int x1, .int x2]) (xb_Qc D A h bc bs (fun v h bc bs => v = none ∧ Qr h bc bs) Qt) A := by
  refine xb_ofAm (cc := b_StackModule_fail) (by decide) (Nat.le_of_ble_eq_true rfl) ?_
  unfold w_StackModule_fail at hw
  show xb_am l D A σ 2 bc bs h (fun v h bc bs => v = none ∧ Qr h bc bs) Qt y_StackModule_fail.cls y_StackModule_fail.name b_StackModule_fail 3 ([] : List ExceptionTableEntry) none 0 [(0, .ref x0), (1, .int x1), (2, .int x2)] [] h bc bs
  obtain ⟨MC, hMC⟩ : ∃ x, x = bc := ⟨_, rfl⟩
  obtain ⟨MS, hMS⟩ : ∃ x, x = bs := ⟨_, rfl⟩
  rw [show xb_am l D A σ 2 bc bs = xb_am l D A σ 2 MC MS by rw [hMC, hMS]]
  obtain ⟨h0, hh0⟩ : ∃ x, x = h := ⟨_, rfl⟩
  rw [show xb_am l D A σ 2 MC MS h = xb_am l D A σ 2 MC MS h0 by rw [hh0]]
  intro p e s m args below meth c hC H locs ls k n hE hl hR hS hk hn
  obtain ⟨hx, hb, hown, hlocks, htab, hml, hr, hB, hA, hnm⟩ := id hC
  have hts := hB.1.1.at args
  refine lv_aload_n hx hb (xb_d D_StackModule_fail 0 rfl) rfl (lv_at hl 0 rfl) ?_
  refine lv_iload_n hx hb (xb_d D_StackModule_fail 1 rfl) rfl (lv_at hl 1 rfl) ?_
  obtain ⟨hk1, hw⟩ := hw
  refine xb_putI (C := R_StackModule) (T := F_StackModule) (N := 19) (ty := .int) (x := x1) hx hb 2 17 hts fin_StackModule t_StackModule t_StackModule_ok n_StackModule hown hR hS hk1 (by decide) rfl (by decide) rfl (hts _ m_31336272) (fun _ h9 => h9) rfl (by decide +kernel) rfl rfl (xb_d D_StackModule_fail 2 rfl) (fun H locs hR hS => ?_)
  obtain ⟨h2, eh2⟩ : ∃ x : xb_H, x = xb_I h x0 17 x1 := ⟨_, rfl⟩
  rw [← eh2] at hR
  have hw := hw h2 eh2
  have hE : xb_ext h0 h2 := by rw [eh2]; exact hE
  refine lv_aload_n hx hb (xb_d D_StackModule_fail 3 rfl) rfl (lv_at hl 0 rfl) ?_
  refine lv_iload_n hx hb (xb_d D_StackModule_fail 4 rfl) rfl (lv_at hl 2 rfl) ?_
  have hk1 : xb_k h2 x0 = 3 := by rw [eh2]; exact hk1
  refine xb_putI (C := R_StackModule) (T := F_StackModule) (N := 19) (ty := .int) (x := x2) hx hb 2 18 hts fin_StackModule t_StackModule t_StackModule_ok n_StackModule hown hR hS hk1 (by decide) rfl (by decide) rfl (hts _ m_5e22c58e) (fun _ h9 => h9) rfl (by decide +kernel) rfl rfl (xb_d D_StackModule_fail 5 rfl) (fun H locs hR hS => ?_)
  obtain ⟨h3, eh3⟩ : ∃ x : xb_H, x = xb_I h2 x0 18 x2 := ⟨_, rfl⟩
  rw [← eh3] at hR
  have hw := hw h3 eh3
  have hE : xb_ext h0 h3 := by rw [eh3]; exact hE
  obtain ⟨hc9, hs9, hw⟩ := hw
  exact xb_throw (names := ["java/lang/RuntimeException", "java/lang/Exception"]) hx hb (hml.trans hl.1.symm) hlocks hfl hown xsite_d36153 hB hS (show k + bc ≤ MC by omega) (show n + bs ≤ MS by omega) hc9 hs9 (by decide) (Nat.le_of_ble_eq_true rfl) htab (xb_d D_StackModule_fail 6 rfl) (xb_d D_StackModule_fail 7 rfl) xt_l2 (xb_d D_StackModule_fail 8 rfl) (xb_d D_StackModule_fail 9 rfl) (xb_d D_StackModule_fail 10 rfl) hE hR hw

set_option maxRecDepth 100000 in
def T_StackModule_sameBytes : List (Nat × Instr × Nat) := [(0, .iconst 0, 1), (1, .istore 5, 2), (3, .iload 5, 2), (5, .iload 4, 2), (7, .if_icmp .ge 26, 3), (10, .aload_n 0, 1), (11, .iload_n 1, 1), (12, .iload 5, 2), (14, .iadd, 1), (15, .baload, 1), (16, .aload_n 2, 1), (17, .iload_n 3, 1), (18, .iload 5, 2), (20, .iadd, 1), (21, .baload, 1), (22, .if_icmp .eq 5, 3), (25, .iconst 0, 1), (26, .ireturn, 1), (27, .iinc 5 1, 3), (30, .goto (-27), 3), (33, .iconst 1, 1), (34, .ireturn, 1)]
theorem D_StackModule_sameBytes : ∀ q ∈ T_StackModule_sameBytes, decode b_StackModule_sameBytes q.1 = .ok (q.2.1, q.2.2) := by decide +kernel

set_option maxHeartbeats 4000000 in
set_option maxRecDepth 100000 in
theorem am_StackModule_sameBytes_L3 (l : Launch) (hfl : l.flags = pinnedFlags ++ [noTraceFlag]) (D : va_G) (A : Nat → Prop) (σ MC MS : Nat) (h0 : xb_H) (Qr : Int32 → xb_H → Prop) (n9 : Nat) : ∀ (x0 : Nat) (x1 : Int32) (x2 : Nat) (x3 : Int32) (x4 : Int32) (x5 : Int32) (h : xb_H), w_StackModule_sameBytes_L3 Qr n9 x0 x1 x2 x3 x4 x5 h → xb_am l D A σ 2 MC MS h0 (fun v h _ _ => ∃ r, v = some (.int r) ∧ Qr r h) (fun _ _ _ _ => False) y_StackModule_sameBytes.cls y_StackModule_sameBytes.name b_StackModule_sameBytes 6 ([] : List ExceptionTableEntry) (some .boolean) 3 [(0, .ref x0), (1, .int x1), (2, .ref x2), (3, .int x3), (4, .int x4), (5, .int x5)] [] h 0 0 := by
  induction n9 with
  | zero => intro x0 x1 x2 x3 x4 x5 h hw; exact False.elim hw
  | succ n9 ih =>
    intro x0 x1 x2 x3 x4 x5 h hw
    unfold w_StackModule_sameBytes_L3 at hw
    intro p e s m args below meth c hC H locs ls k n hE hl hR hS hk hn
    obtain ⟨hx, hb, hown, hlocks, htab, hml, hr, hB, hA, hnm⟩ := id hC
    have hts := hB.1.1.at args
    refine lv_iload hx hb (xb_d D_StackModule_sameBytes 2 rfl) (lv_at hl 5 rfl) ?_
    refine lv_iload hx hb (xb_d D_StackModule_sameBytes 3 rfl) (lv_at hl 4 rfl) ?_
    refine lv_icmp_ge (tgt := 33) hx hb (xb_d D_StackModule_sameBytes 4 rfl) rfl (fun hc1 => ?_) (fun hc1 => ?_)
    · have hw := hw.1 hc1
      refine lv_iconst (v := 1) hx hb (xb_d D_StackModule_sameBytes 20 rfl) (by decide) ?_
      exact xb_zret 0 0 hx hb hr hlocks (show k + 0 ≤ MC by omega) (show n + 0 ≤ MS by omega) (by decide) hE hR hS (xb_d D_StackModule_sameBytes 21 rfl) hw
    · have hw := hw.2 hc1
      refine lv_aload_n hx hb (xb_d D_StackModule_sameBytes 5 rfl) rfl (lv_at hl 0 rfl) ?_
      refine lv_iload_n hx hb (xb_d D_StackModule_sameBytes 6 rfl) rfl (lv_at hl 1 rfl) ?_
      refine lv_iload hx hb (xb_d D_StackModule_sameBytes 7 rfl) (lv_at hl 5 rfl) ?_
      refine lv_iadd hx hb (xb_d D_StackModule_sameBytes 8 rfl) ?_
      obtain ⟨hk3, hw⟩ := hw
      obtain ⟨hi2, hw⟩ := hw
      refine xb_bald hx hb hR hk3 hi2 (xb_d D_StackModule_sameBytes 9 rfl) ?_
      refine lv_aload_n hx hb (xb_d D_StackModule_sameBytes 10 rfl) rfl (lv_at hl 2 rfl) ?_
      refine lv_iload_n hx hb (xb_d D_StackModule_sameBytes 11 rfl) rfl (lv_at hl 3 rfl) ?_
      refine lv_iload hx hb (xb_d D_StackModule_sameBytes 12 rfl) (lv_at hl 5 rfl) ?_
      refine lv_iadd hx hb (xb_d D_StackModule_sameBytes 13 rfl) ?_
      obtain ⟨hk5, hw⟩ := hw
      obtain ⟨hi4, hw⟩ := hw
      refine xb_bald hx hb hR hk5 hi4 (xb_d D_StackModule_sameBytes 14 rfl) ?_
      refine lv_icmp_eq (tgt := 27) hx hb (xb_d D_StackModule_sameBytes 15 rfl) rfl (fun hc6 => ?_) (fun hc6 => ?_)
      · have hw := hw.1 hc6
        refine lv_iinc (v := (x5 + 1)) (k := 5) hx hb (xb_d D_StackModule_sameBytes 18 rfl) hl rfl (by first | rfl | decide) (by decide) rfl (fun ls hl => ?_)
        have hl : lv_has ls 6 [(5, .int (x5 + 1)), (0, .ref x0), (1, .int x1), (2, .ref x2), (3, .int x3), (4, .int x4)] := hl
        refine lv_goto (tgt := 3) hx hb (xb_d D_StackModule_sameBytes 19 rfl) rfl ?_
        exact ih x0 x1 x2 x3 x4 (x5 + 1) h hw p e s m args below meth c hC H locs ls k n hE (lv_sub hl [1, 2, 3, 4, 5, 0] rfl) hR hS (by omega) (by omega)
      · have hw := hw.2 hc6
        refine lv_iconst (v := 0) hx hb (xb_d D_StackModule_sameBytes 16 rfl) (by decide) ?_
        exact xb_zret 0 0 hx hb hr hlocks (show k + 0 ≤ MC by omega) (show n + 0 ≤ MS by omega) (by decide) hE hR hS (xb_d D_StackModule_sameBytes 17 rfl) hw

set_option maxHeartbeats 4000000 in
set_option maxRecDepth 100000 in
theorem ok_StackModule_sameBytes (l : Launch) (hfl : l.flags = pinnedFlags ++ [noTraceFlag]) (D : va_G) (A : Nat → Prop) (σ : Nat) (x0 : Nat) (x1 : Int32) (x2 : Nat) (x3 : Int32) (x4 : Int32) (h : xb_H) (Qr : Int32 → xb_H → Prop) (hw : w_StackModule_sameBytes x0 x1 x2 x3 x4 h Qr) : xb_Met l y_StackModule_sameBytes [.code y_StackModule_sameBytes b_StackModule_sameBytes 6 (some .boolean)] (xb_rm 2 0 0) (xb_Pc D A σ h [.ref x0, .int x1, .ref x2, .int x3, .int x4]) (xb_Qc D A h 0 0 (fun v h _ _ => ∃ r, v = some (.int r) ∧ Qr r h) (fun _ _ _ _ => False)) A := by
  refine xb_ofAm (cc := b_StackModule_sameBytes) (by decide) (Nat.le_of_ble_eq_true rfl) ?_
  unfold w_StackModule_sameBytes at hw
  show xb_am l D A σ 2 0 0 h (fun v h _ _ => ∃ r, v = some (.int r) ∧ Qr r h) (fun _ _ _ _ => False) y_StackModule_sameBytes.cls y_StackModule_sameBytes.name b_StackModule_sameBytes 6 ([] : List ExceptionTableEntry) (some .boolean) 0 [(0, .ref x0), (1, .int x1), (2, .ref x2), (3, .int x3), (4, .int x4)] [] h 0 0
  obtain ⟨MC, hMC⟩ : ∃ x, x = 0 := ⟨_, rfl⟩
  obtain ⟨MS, hMS⟩ : ∃ x, x = 0 := ⟨_, rfl⟩
  rw [show xb_am l D A σ 2 0 0 = xb_am l D A σ 2 MC MS by rw [hMC, hMS]]
  obtain ⟨h0, hh0⟩ : ∃ x, x = h := ⟨_, rfl⟩
  rw [show xb_am l D A σ 2 MC MS h = xb_am l D A σ 2 MC MS h0 by rw [hh0]]
  intro p e s m args below meth c hC H locs ls k n hE hl hR hS hk hn
  obtain ⟨hx, hb, hown, hlocks, htab, hml, hr, hB, hA, hnm⟩ := id hC
  have hts := hB.1.1.at args
  refine lv_iconst (v := 0) hx hb (xb_d D_StackModule_sameBytes 0 rfl) (by decide) ?_
  refine lv_istore hx hb (xb_d D_StackModule_sameBytes 1 rfl) hl (by decide) rfl (fun ls hl => ?_)
  have hl : lv_has ls 6 [(5, .int 0), (0, .ref x0), (1, .int x1), (2, .ref x2), (3, .int x3), (4, .int x4)] := hl
  obtain ⟨n8, hw⟩ := hw
  exact am_StackModule_sameBytes_L3 l hfl D A σ MC MS h0 Qr n8 x0 x1 x2 x3 x4 0 h hw p e s m args below meth c hC H locs ls k n hE (lv_sub hl [1, 2, 3, 4, 5, 0] rfl) hR hS (by omega) (by omega)

set_option maxHeartbeats 4000000 in
set_option maxRecDepth 100000 in
theorem am_StackModule_sameBytesS_L3 (l : Launch) (hfl : l.flags = pinnedFlags ++ [noTraceFlag]) (D : va_G) (A : Nat → Prop) (σ MC MS : Nat) (h0 : xb_H) (Qr : Int32 → xb_H → Prop) (n9 : Nat) : ∀ (x0 : Nat) (x1 : Int32) (x3 : Int32) (x4 : Int32) (x5 : Int32) (h : xb_H), w_StackModule_sameBytesS_L3 Qr n9 x0 x1 x3 x4 x5 h → xb_am l D A σ 2 MC MS h0 (fun v h _ _ => ∃ r, v = some (.int r) ∧ Qr r h) (fun _ _ _ _ => False) y_StackModule_sameBytes.cls y_StackModule_sameBytes.name b_StackModule_sameBytes 6 ([] : List ExceptionTableEntry) (some .boolean) 3 [(0, .ref x0), (1, .int x1), (2, .ref σ), (3, .int x3), (4, .int x4), (5, .int x5)] [] h 0 0 := by
  induction n9 with
  | zero => intro x0 x1 x3 x4 x5 h hw; exact False.elim hw
  | succ n9 ih =>
    intro x0 x1 x3 x4 x5 h hw
    unfold w_StackModule_sameBytesS_L3 at hw
    intro p e s m args below meth c hC H locs ls k n hE hl hR hS hk hn
    obtain ⟨hx, hb, hown, hlocks, htab, hml, hr, hB, hA, hnm⟩ := id hC
    have hts := hB.1.1.at args
    refine lv_iload hx hb (xb_d D_StackModule_sameBytes 2 rfl) (lv_at hl 5 rfl) ?_
    refine lv_iload hx hb (xb_d D_StackModule_sameBytes 3 rfl) (lv_at hl 4 rfl) ?_
    refine lv_icmp_ge (tgt := 33) hx hb (xb_d D_StackModule_sameBytes 4 rfl) rfl (fun hc1 => ?_) (fun hc1 => ?_)
    · have hw := hw.1 hc1
      refine lv_iconst (v := 1) hx hb (xb_d D_StackModule_sameBytes 20 rfl) (by decide) ?_
      exact xb_zret 0 0 hx hb hr hlocks (show k + 0 ≤ MC by omega) (show n + 0 ≤ MS by omega) (by decide) hE hR hS (xb_d D_StackModule_sameBytes 21 rfl) hw
    · have hw := hw.2 hc1
      refine lv_aload_n hx hb (xb_d D_StackModule_sameBytes 5 rfl) rfl (lv_at hl 0 rfl) ?_
      refine lv_iload_n hx hb (xb_d D_StackModule_sameBytes 6 rfl) rfl (lv_at hl 1 rfl) ?_
      refine lv_iload hx hb (xb_d D_StackModule_sameBytes 7 rfl) (lv_at hl 5 rfl) ?_
      refine lv_iadd hx hb (xb_d D_StackModule_sameBytes 8 rfl) ?_
      obtain ⟨hk3, hw⟩ := hw
      obtain ⟨hi2, hw⟩ := hw
      refine xb_bald hx hb hR hk3 hi2 (xb_d D_StackModule_sameBytes 9 rfl) ?_
      refine lv_aload_n hx hb (xb_d D_StackModule_sameBytes 10 rfl) rfl (lv_at hl 2 rfl) ?_
      refine lv_iload_n hx hb (xb_d D_StackModule_sameBytes 11 rfl) rfl (lv_at hl 3 rfl) ?_
      refine lv_iload hx hb (xb_d D_StackModule_sameBytes 12 rfl) (lv_at hl 5 rfl) ?_
      refine lv_iadd hx hb (xb_d D_StackModule_sameBytes 13 rfl) ?_
      obtain ⟨hi4, hw⟩ := hw
      refine va_tb (v := .int (xb_cHN.getD (Int32.toNatClampNeg (x3 + x5)) 0)) hx hb hB.2.2.2.2.2.2 hS hi4 rfl (xb_d D_StackModule_sameBytes 14 rfl) ?_
      refine lv_icmp_eq (tgt := 27) hx hb (xb_d D_StackModule_sameBytes 15 rfl) rfl (fun hc6 => ?_) (fun hc6 => ?_)
      · have hw := hw.1 hc6
        refine lv_iinc (v := (x5 + 1)) (k := 5) hx hb (xb_d D_StackModule_sameBytes 18 rfl) hl rfl (by first | rfl | decide) (by decide) rfl (fun ls hl => ?_)
        have hl : lv_has ls 6 [(5, .int (x5 + 1)), (0, .ref x0), (1, .int x1), (2, .ref σ), (3, .int x3), (4, .int x4)] := hl
        refine lv_goto (tgt := 3) hx hb (xb_d D_StackModule_sameBytes 19 rfl) rfl ?_
        exact ih x0 x1 x3 x4 (x5 + 1) h hw p e s m args below meth c hC H locs ls k n hE (lv_sub hl [1, 2, 3, 4, 5, 0] rfl) hR hS (by omega) (by omega)
      · have hw := hw.2 hc6
        refine lv_iconst (v := 0) hx hb (xb_d D_StackModule_sameBytes 16 rfl) (by decide) ?_
        exact xb_zret 0 0 hx hb hr hlocks (show k + 0 ≤ MC by omega) (show n + 0 ≤ MS by omega) (by decide) hE hR hS (xb_d D_StackModule_sameBytes 17 rfl) hw

set_option maxHeartbeats 4000000 in
set_option maxRecDepth 100000 in
theorem ok_StackModule_sameBytesS (l : Launch) (hfl : l.flags = pinnedFlags ++ [noTraceFlag]) (D : va_G) (A : Nat → Prop) (σ : Nat) (x0 : Nat) (x1 : Int32) (x3 : Int32) (x4 : Int32) (h : xb_H) (Qr : Int32 → xb_H → Prop) (hw : w_StackModule_sameBytesS x0 x1 x3 x4 h Qr) : xb_Met l y_StackModule_sameBytes [.code y_StackModule_sameBytes b_StackModule_sameBytes 6 (some .boolean)] (xb_rm 2 0 0) (xb_Pc D A σ h [.ref x0, .int x1, .ref σ, .int x3, .int x4]) (xb_Qc D A h 0 0 (fun v h _ _ => ∃ r, v = some (.int r) ∧ Qr r h) (fun _ _ _ _ => False)) A := by
  refine xb_ofAm (cc := b_StackModule_sameBytes) (by decide) (Nat.le_of_ble_eq_true rfl) ?_
  unfold w_StackModule_sameBytesS at hw
  show xb_am l D A σ 2 0 0 h (fun v h _ _ => ∃ r, v = some (.int r) ∧ Qr r h) (fun _ _ _ _ => False) y_StackModule_sameBytes.cls y_StackModule_sameBytes.name b_StackModule_sameBytes 6 ([] : List ExceptionTableEntry) (some .boolean) 0 [(0, .ref x0), (1, .int x1), (2, .ref σ), (3, .int x3), (4, .int x4)] [] h 0 0
  obtain ⟨MC, hMC⟩ : ∃ x, x = 0 := ⟨_, rfl⟩
  obtain ⟨MS, hMS⟩ : ∃ x, x = 0 := ⟨_, rfl⟩
  rw [show xb_am l D A σ 2 0 0 = xb_am l D A σ 2 MC MS by rw [hMC, hMS]]
  obtain ⟨h0, hh0⟩ : ∃ x, x = h := ⟨_, rfl⟩
  rw [show xb_am l D A σ 2 MC MS h = xb_am l D A σ 2 MC MS h0 by rw [hh0]]
  intro p e s m args below meth c hC H locs ls k n hE hl hR hS hk hn
  obtain ⟨hx, hb, hown, hlocks, htab, hml, hr, hB, hA, hnm⟩ := id hC
  have hts := hB.1.1.at args
  refine lv_iconst (v := 0) hx hb (xb_d D_StackModule_sameBytes 0 rfl) (by decide) ?_
  refine lv_istore hx hb (xb_d D_StackModule_sameBytes 1 rfl) hl (by decide) rfl (fun ls hl => ?_)
  have hl : lv_has ls 6 [(5, .int 0), (0, .ref x0), (1, .int x1), (2, .ref σ), (3, .int x3), (4, .int x4)] := hl
  obtain ⟨n8, hw⟩ := hw
  exact am_StackModule_sameBytesS_L3 l hfl D A σ MC MS h0 Qr n8 x0 x1 x3 x4 0 h hw p e s m args below meth c hC H locs ls k n hE (lv_sub hl [1, 2, 3, 4, 5, 0] rfl) hR hS (by omega) (by omega)

theorem m_ea556a01 : (.methodLink "StackHost$Table" 1 objectInit : Cond) ∈ xt_tbl := xt_in (xt_t7 (List.mem_of_getElem? (i := 49) (by decide +kernel))) (by decide +kernel)
theorem m_c1b247e3 : (.fieldLink "StackHost$Table" 7 "StackHost$Table" "from" "I" : Cond) ∈ xt_tbl := xt_in (xt_t7 (List.mem_of_getElem? (i := 50) (by decide +kernel))) (by decide +kernel)
theorem m_73fdd04b : (.fieldLink "StackHost$Table" 13 "StackHost$Table" "size" "I" : Cond) ∈ xt_tbl := xt_in (xt_t7 (List.mem_of_getElem? (i := 54) (by decide +kernel))) (by decide +kernel)
theorem m_c7006301 : (.fieldLink "StackHost$Table" 16 "StackHost$Table" "most" "J" : Cond) ∈ xt_tbl := xt_in (xt_t7 (List.mem_of_getElem? (i := 58) (by decide +kernel))) (by decide +kernel)
set_option maxRecDepth 100000 in
def T_Table_init : List (Nat × Instr × Nat) := [(0, .aload_n 0, 1), (1, .invokespecial 1, 3), (4, .aload_n 0, 1), (5, .iload_n 1, 1), (6, .putfield 7, 3), (9, .aload_n 0, 1), (10, .iload_n 2, 1), (11, .putfield 13, 3), (14, .aload_n 0, 1), (15, .lload_n 3, 1), (16, .putfield 16, 3), (19, .return_, 1)]
theorem D_Table_init : ∀ q ∈ T_Table_init, decode b_Table_init q.1 = .ok (q.2.1, q.2.2) := by decide +kernel

set_option maxHeartbeats 4000000 in
set_option maxRecDepth 100000 in
theorem ok_Table_init (l : Launch) (hfl : l.flags = pinnedFlags ++ [noTraceFlag]) (D : va_G) (A : Nat → Prop) (σ : Nat) (x0 : Nat) (x1 : Int32) (x2 : Int32) (x3 : Int64) (h : xb_H) (Qr : xb_H → Prop) (hw : w_Table_init x0 x1 x2 x3 h Qr) : xb_Met l y_Table_init [.code y_Table_init b_Table_init 5 none] (xb_rm 2 0 0) (xb_Pc D A σ h [.ref x0, .int x1, .int x2, .long x3]) (xb_Qc D A h 0 0 (fun v h _ _ => v = none ∧ Qr h) (fun _ _ _ _ => False)) A := by
  refine xb_ofAm (cc := b_Table_init) (by decide) (Nat.le_of_ble_eq_true rfl) ?_
  unfold w_Table_init at hw
  show xb_am l D A σ 2 0 0 h (fun v h _ _ => v = none ∧ Qr h) (fun _ _ _ _ => False) y_Table_init.cls y_Table_init.name b_Table_init 5 ([] : List ExceptionTableEntry) none 0 [(0, .ref x0), (1, .int x1), (2, .int x2), (3, .long x3)] [] h 0 0
  obtain ⟨MC, hMC⟩ : ∃ x, x = 0 := ⟨_, rfl⟩
  obtain ⟨MS, hMS⟩ : ∃ x, x = 0 := ⟨_, rfl⟩
  rw [show xb_am l D A σ 2 0 0 = xb_am l D A σ 2 MC MS by rw [hMC, hMS]]
  obtain ⟨h0, hh0⟩ : ∃ x, x = h := ⟨_, rfl⟩
  rw [show xb_am l D A σ 2 MC MS h = xb_am l D A σ 2 MC MS h0 by rw [hh0]]
  intro p e s m args below meth c hC H locs ls k n hE hl hR hS hk hn
  obtain ⟨hx, hb, hown, hlocks, htab, hml, hr, hB, hA, hnm⟩ := id hC
  have hts := hB.1.1.at args
  refine lv_aload_n hx hb (xb_d D_Table_init 0 rfl) rfl (lv_at hl 0 rfl) ?_
  refine W.objInit hx hb hown (hts _ m_ea556a01) (hts _ m_fba9d542) (hts _ m_9febdb7e) rfl (hml.trans hl.1.symm).symm rfl (xb_d D_Table_init 1 rfl) (by show 1 ≤ 8 + _; omega) (Nat.le_trans (Nat.le_of_ble_eq_true rfl : _ ≤ 40) (by show 40 ≤ 120 + _; omega)) ?_
  refine W.eq (g2 := F0 m 4 ls []) rfl ?_
  refine lv_aload_n hx hb (xb_d D_Table_init 2 rfl) rfl (lv_at hl 0 rfl) ?_
  refine lv_iload_n hx hb (xb_d D_Table_init 3 rfl) rfl (lv_at hl 1 rfl) ?_
  obtain ⟨hk1, hw⟩ := hw
  refine xb_putIF (C := R_Table) (T := F_Table) (N := 3) (ty := .int) (x := x1) hx hb 11 0 hts fin_Table t_Table t_Table_ok n_Table hown hR hS hk1 (by decide) rfl (by decide) rfl (hts _ m_c1b247e3) (fun _ h9 => h9) rfl hnm rfl (by decide +kernel) rfl rfl (xb_d D_Table_init 4 rfl) (fun H locs hR hS => ?_)
  obtain ⟨h2, eh2⟩ : ∃ x : xb_H, x = xb_I h x0 0 x1 := ⟨_, rfl⟩
  rw [← eh2] at hR
  have hw := hw h2 eh2
  have hE : xb_ext h0 h2 := by rw [eh2]; exact hE
  refine lv_aload_n hx hb (xb_d D_Table_init 5 rfl) rfl (lv_at hl 0 rfl) ?_
  refine lv_iload_n hx hb (xb_d D_Table_init 6 rfl) rfl (lv_at hl 2 rfl) ?_
  have hk1 : xb_k h2 x0 = 12 := by rw [eh2]; exact hk1
  refine xb_putIF (C := R_Table) (T := F_Table) (N := 3) (ty := .int) (x := x2) hx hb 11 1 hts fin_Table t_Table t_Table_ok n_Table hown hR hS hk1 (by decide) rfl (by decide) rfl (hts _ m_73fdd04b) (fun _ h9 => h9) rfl hnm rfl (by decide +kernel) rfl rfl (xb_d D_Table_init 7 rfl) (fun H locs hR hS => ?_)
  obtain ⟨h3, eh3⟩ : ∃ x : xb_H, x = xb_I h2 x0 1 x2 := ⟨_, rfl⟩
  rw [← eh3] at hR
  have hw := hw h3 eh3
  have hE : xb_ext h0 h3 := by rw [eh3]; exact hE
  refine lv_aload_n hx hb (xb_d D_Table_init 8 rfl) rfl (lv_at hl 0 rfl) ?_
  refine lv_lload_n hx hb (xb_d D_Table_init 9 rfl) rfl (lv_at hl 3 rfl) ?_
  have hk1 : xb_k h3 x0 = 12 := by rw [eh3]; exact hk1
  refine xb_putLF (C := R_Table) (T := F_Table) (N := 3) (ty := .long) (x := x3) hx hb 11 2 hts fin_Table t_Table t_Table_ok n_Table hown hR hS hk1 (by decide) rfl (by decide) rfl (hts _ m_c7006301) (fun _ h9 => h9) rfl hnm rfl (by decide +kernel) rfl rfl (xb_d D_Table_init 10 rfl) (fun H locs hR hS => ?_)
  obtain ⟨h4, eh4⟩ : ∃ x : xb_H, x = xb_L h3 x0 2 x3 := ⟨_, rfl⟩
  rw [← eh4] at hR
  have hw := hw h4 eh4
  have hE : xb_ext h0 h4 := by rw [eh4]; exact hE
  exact xb_vret 0 0 hx hb hr hlocks (show k + 0 ≤ MC by omega) (show n + 0 ≤ MS by omega) hE hR hS (xb_d D_Table_init 11 rfl) hw

theorem m_b9681625 : (.constantLong "StackHost$Whole" 17 4294967295 : Cond) ∈ xt_tbl := xt_in (xt_t8 (List.mem_of_getElem? (i := 170) (by decide +kernel))) (by decide +kernel)
set_option maxRecDepth 100000 in
def T_Whole_divideShort : List (Nat × Instr × Nat) := [(0, .iload_n 1, 1), (1, .i2l, 1), (2, .ldc2_w 17, 3), (5, .land, 1), (6, .lstore_n 3, 1), (7, .iload_n 2, 1), (8, .i2l, 1), (9, .ldc2_w 17, 3), (12, .land, 1), (13, .lstore 5, 2), (15, .iload_n 0, 1), (16, .tableswitch 42 3 5 #[28, 32, 38], 28), (44, .iload_n 1, 1), (45, .iload_n 2, 1), (46, .idiv, 1), (47, .ireturn, 1), (48, .lload_n 3, 1), (49, .lload 5, 2), (51, .ldiv, 1), (52, .l2i, 1), (53, .ireturn, 1), (54, .iload_n 1, 1), (55, .iload_n 2, 1), (56, .irem, 1), (57, .ireturn, 1), (58, .lload_n 3, 1), (59, .lload 5, 2), (61, .lrem, 1), (62, .l2i, 1), (63, .ireturn, 1)]
theorem D_Whole_divideShort : ∀ q ∈ T_Whole_divideShort, decode b_Whole_divideShort q.1 = .ok (q.2.1, q.2.2) := by decide +kernel

set_option maxHeartbeats 4000000 in
set_option maxRecDepth 100000 in
theorem ok_Whole_divideShort (l : Launch) (hfl : l.flags = pinnedFlags ++ [noTraceFlag]) (D : va_G) (A : Nat → Prop) (σ : Nat) (x0 : Int32) (x1 : Int32) (x2 : Int32) (h : xb_H) (Qr : Int32 → xb_H → Prop) (hw : w_Whole_divideShort x0 x1 x2 h Qr) : xb_Met l y_Whole_divideShort [.code y_Whole_divideShort b_Whole_divideShort 7 (some .int)] (xb_rm 2 0 0) (xb_Pc D A σ h [.int x0, .int x1, .int x2]) (xb_Qc D A h 0 0 (fun v h _ _ => ∃ r, v = some (.int r) ∧ Qr r h) (fun _ _ _ _ => False)) A := by
  refine xb_ofAm (cc := b_Whole_divideShort) (by decide) (Nat.le_of_ble_eq_true rfl) ?_
  unfold w_Whole_divideShort at hw
  show xb_am l D A σ 2 0 0 h (fun v h _ _ => ∃ r, v = some (.int r) ∧ Qr r h) (fun _ _ _ _ => False) y_Whole_divideShort.cls y_Whole_divideShort.name b_Whole_divideShort 7 ([] : List ExceptionTableEntry) (some .int) 0 [(0, .int x0), (1, .int x1), (2, .int x2)] [] h 0 0
  obtain ⟨MC, hMC⟩ : ∃ x, x = 0 := ⟨_, rfl⟩
  obtain ⟨MS, hMS⟩ : ∃ x, x = 0 := ⟨_, rfl⟩
  rw [show xb_am l D A σ 2 0 0 = xb_am l D A σ 2 MC MS by rw [hMC, hMS]]
  obtain ⟨h0, hh0⟩ : ∃ x, x = h := ⟨_, rfl⟩
  rw [show xb_am l D A σ 2 MC MS h = xb_am l D A σ 2 MC MS h0 by rw [hh0]]
  intro p e s m args below meth c hC H locs ls k n hE hl hR hS hk hn
  obtain ⟨hx, hb, hown, hlocks, htab, hml, hr, hB, hA, hnm⟩ := id hC
  have hts := hB.1.1.at args
  refine lv_iload_n hx hb (xb_d D_Whole_divideShort 0 rfl) rfl (lv_at hl 1 rfl) ?_
  refine lv_i2l hx hb (xb_d D_Whole_divideShort 1 rfl) rfl ?_
  refine lv_ldc2 (v := 4294967295) hx hb hown (hts _ m_b9681625) (xb_d D_Whole_divideShort 2 rfl) ?_
  refine lv_land hx hb (xb_d D_Whole_divideShort 3 rfl) ?_
  obtain ⟨v1, ev1⟩ : ∃ x : Int64, x = ((Int32.toInt64 x1) &&& 4294967295) := ⟨_, rfl⟩
  have hw := hw v1 ev1
  refine xt_numl (y := v1) ev1.symm ?_
  refine lv_lstore_n hx hb (xb_d D_Whole_divideShort 4 rfl) rfl hl (by decide) rfl (fun ls hl => ?_)
  have hl : lv_has ls 7 [(3, .long v1), (0, .int x0), (1, .int x1), (2, .int x2)] := hl
  refine lv_iload_n hx hb (xb_d D_Whole_divideShort 5 rfl) rfl (lv_at hl 3 rfl) ?_
  refine lv_i2l hx hb (xb_d D_Whole_divideShort 6 rfl) rfl ?_
  refine lv_ldc2 (v := 4294967295) hx hb hown (hts _ m_b9681625) (xb_d D_Whole_divideShort 7 rfl) ?_
  refine lv_land hx hb (xb_d D_Whole_divideShort 8 rfl) ?_
  obtain ⟨v2, ev2⟩ : ∃ x : Int64, x = ((Int32.toInt64 x2) &&& 4294967295) := ⟨_, rfl⟩
  have hw := hw v2 ev2
  refine xt_numl (y := v2) ev2.symm ?_
  refine lv_lstore hx hb (xb_d D_Whole_divideShort 9 rfl) hl (by decide) rfl (fun ls hl => ?_)
  have hl : lv_has ls 7 [(5, .long v2), (3, .long v1), (0, .int x0), (1, .int x1), (2, .int x2)] := hl
  refine lv_iload_n hx hb (xb_d D_Whole_divideShort 10 rfl) rfl (lv_at hl 2 rfl) ?_
  by_cases hc3 : x0 = 3
  · have hw := hw.1 hc3
    refine xt_numi hc3 ?_
    refine lv_tableIn (off := 28) (tgt := 44) hx hb (xb_d D_Whole_divideShort 11 rfl) (by decide +kernel) (by decide +kernel) (by decide +kernel) (by decide) ?_
    refine lv_iload_n hx hb (xb_d D_Whole_divideShort 12 rfl) rfl (lv_at hl 3 rfl) ?_
    refine lv_iload_n hx hb (xb_d D_Whole_divideShort 13 rfl) rfl (lv_at hl 4 rfl) ?_
    obtain ⟨hz4, hw⟩ := hw
    refine lv_idiv hx hb (xb_d D_Whole_divideShort 14 rfl) hz4 ?_
    exact xb_iret 0 0 hx hb hr hlocks (show k + 0 ≤ MC by omega) (show n + 0 ≤ MS by omega) hE hR hS (xb_d D_Whole_divideShort 15 rfl) hw
  have hw := hw.2
  by_cases hc5 : x0 = 4
  · have hw := hw.1 hc5
    refine xt_numi hc5 ?_
    refine lv_tableIn (off := 32) (tgt := 48) hx hb (xb_d D_Whole_divideShort 11 rfl) (by decide +kernel) (by decide +kernel) (by decide +kernel) (by decide) ?_
    refine lv_lload_n hx hb (xb_d D_Whole_divideShort 16 rfl) rfl (lv_at hl 1 rfl) ?_
    refine lv_lload hx hb (xb_d D_Whole_divideShort 17 rfl) (lv_at hl 0 rfl) ?_
    obtain ⟨hz6, hw⟩ := hw
    refine lv_ldiv hx hb (xb_d D_Whole_divideShort 18 rfl) hz6 ?_
    refine lv_l2i hx hb (xb_d D_Whole_divideShort 19 rfl) rfl ?_
    exact xb_iret 0 0 hx hb hr hlocks (show k + 0 ≤ MC by omega) (show n + 0 ≤ MS by omega) hE hR hS (xb_d D_Whole_divideShort 20 rfl) hw
  have hw := hw.2
  by_cases hc7 : x0 = 5
  · have hw := hw.1 hc7
    refine xt_numi hc7 ?_
    refine lv_tableIn (off := 38) (tgt := 54) hx hb (xb_d D_Whole_divideShort 11 rfl) (by decide +kernel) (by decide +kernel) (by decide +kernel) (by decide) ?_
    refine lv_iload_n hx hb (xb_d D_Whole_divideShort 21 rfl) rfl (lv_at hl 3 rfl) ?_
    refine lv_iload_n hx hb (xb_d D_Whole_divideShort 22 rfl) rfl (lv_at hl 4 rfl) ?_
    obtain ⟨hz8, hw⟩ := hw
    refine lv_irem hx hb (xb_d D_Whole_divideShort 23 rfl) hz8 ?_
    exact xb_iret 0 0 hx hb hr hlocks (show k + 0 ≤ MC by omega) (show n + 0 ≤ MS by omega) hE hR hS (xb_d D_Whole_divideShort 24 rfl) hw
  have hw := hw.2
  have hw := hw hc3 hc5 hc7
  refine lv_tableOut (tgt := 58) hx hb (xb_d D_Whole_divideShort 11 rfl) (by have a0 := xb_nl (3) 3 (by decide) hc3; have a1 := xb_nl (4) 4 (by decide) hc5; have a2 := xb_nl (5) 5 (by decide) hc7; omega) (by decide) ?_
  refine lv_lload_n hx hb (xb_d D_Whole_divideShort 25 rfl) rfl (lv_at hl 1 rfl) ?_
  refine lv_lload hx hb (xb_d D_Whole_divideShort 26 rfl) (lv_at hl 0 rfl) ?_
  obtain ⟨hz9, hw⟩ := hw
  refine lv_lrem hx hb (xb_d D_Whole_divideShort 27 rfl) hz9 ?_
  refine lv_l2i hx hb (xb_d D_Whole_divideShort 28 rfl) rfl ?_
  exact xb_iret 0 0 hx hb hr hlocks (show k + 0 ≤ MC by omega) (show n + 0 ≤ MS by omega) hE hR hS (xb_d D_Whole_divideShort 29 rfl) hw

theorem m_9b75983f : (.constantLong "StackHost$Whole" 15 (-9223372036854775808) : Cond) ∈ xt_tbl := xt_in (xt_t8 (List.mem_of_getElem? (i := 158) (by decide +kernel))) (by decide +kernel)
set_option maxRecDepth 100000 in
def T_Whole_isBelow : List (Nat × Instr × Nat) := [(0, .lload_n 0, 1), (1, .ldc2_w 15, 3), (4, .lxor, 1), (5, .lload_n 2, 1), (6, .ldc2_w 15, 3), (9, .lxor, 1), (10, .lcmp, 1), (11, .ifCond .ge 7, 3), (14, .iconst 1, 1), (15, .goto 4, 3), (18, .iconst 0, 1), (19, .ireturn, 1)]
theorem D_Whole_isBelow : ∀ q ∈ T_Whole_isBelow, decode b_Whole_isBelow q.1 = .ok (q.2.1, q.2.2) := by decide +kernel

set_option maxHeartbeats 4000000 in
set_option maxRecDepth 100000 in
theorem am_Whole_isBelow_L19 (l : Launch) (hfl : l.flags = pinnedFlags ++ [noTraceFlag]) (D : va_G) (A : Nat → Prop) (σ MC MS : Nat) (h0 : xb_H) (Qr : Int32 → xb_H → Prop) (y0 : Int32) (h : xb_H) (hw : w_Whole_isBelow_L19 Qr y0 h) : xb_am l D A σ 2 MC MS h0 (fun v h _ _ => ∃ r, v = some (.int r) ∧ Qr r h) (fun _ _ _ _ => False) y_Whole_isBelow.cls y_Whole_isBelow.name b_Whole_isBelow 4 ([] : List ExceptionTableEntry) (some .boolean) 19 [] [.int y0] h 0 0 := by
  unfold w_Whole_isBelow_L19 at hw
  intro p e s m args below meth c hC H locs ls k n hE hl hR hS hk hn
  obtain ⟨hx, hb, hown, hlocks, htab, hml, hr, hB, hA, hnm⟩ := id hC
  have hts := hB.1.1.at args
  exact xb_zret 0 0 hx hb hr hlocks (show k + 0 ≤ MC by omega) (show n + 0 ≤ MS by omega) hw.1 hE hR hS (xb_d D_Whole_isBelow 11 rfl) hw.2

set_option maxHeartbeats 4000000 in
set_option maxRecDepth 100000 in
theorem ok_Whole_isBelow (l : Launch) (hfl : l.flags = pinnedFlags ++ [noTraceFlag]) (D : va_G) (A : Nat → Prop) (σ : Nat) (x0 : Int64) (x2 : Int64) (h : xb_H) (Qr : Int32 → xb_H → Prop) (hw : w_Whole_isBelow x0 x2 h Qr) : xb_Met l y_Whole_isBelow [.code y_Whole_isBelow b_Whole_isBelow 4 (some .boolean)] (xb_rm 2 0 0) (xb_Pc D A σ h [.long x0, .long x2]) (xb_Qc D A h 0 0 (fun v h _ _ => ∃ r, v = some (.int r) ∧ Qr r h) (fun _ _ _ _ => False)) A := by
  refine xb_ofAm (cc := b_Whole_isBelow) (by decide) (Nat.le_of_ble_eq_true rfl) ?_
  unfold w_Whole_isBelow at hw
  show xb_am l D A σ 2 0 0 h (fun v h _ _ => ∃ r, v = some (.int r) ∧ Qr r h) (fun _ _ _ _ => False) y_Whole_isBelow.cls y_Whole_isBelow.name b_Whole_isBelow 4 ([] : List ExceptionTableEntry) (some .boolean) 0 [(0, .long x0), (2, .long x2)] [] h 0 0
  obtain ⟨MC, hMC⟩ : ∃ x, x = 0 := ⟨_, rfl⟩
  obtain ⟨MS, hMS⟩ : ∃ x, x = 0 := ⟨_, rfl⟩
  rw [show xb_am l D A σ 2 0 0 = xb_am l D A σ 2 MC MS by rw [hMC, hMS]]
  obtain ⟨h0, hh0⟩ : ∃ x, x = h := ⟨_, rfl⟩
  rw [show xb_am l D A σ 2 MC MS h = xb_am l D A σ 2 MC MS h0 by rw [hh0]]
  intro p e s m args below meth c hC H locs ls k n hE hl hR hS hk hn
  obtain ⟨hx, hb, hown, hlocks, htab, hml, hr, hB, hA, hnm⟩ := id hC
  have hts := hB.1.1.at args
  refine lv_lload_n hx hb (xb_d D_Whole_isBelow 0 rfl) rfl (lv_at hl 0 rfl) ?_
  refine lv_ldc2 (v := (-9223372036854775808)) hx hb hown (hts _ m_9b75983f) (xb_d D_Whole_isBelow 1 rfl) ?_
  refine lv_lxor hx hb (xb_d D_Whole_isBelow 2 rfl) ?_
  refine lv_lload_n hx hb (xb_d D_Whole_isBelow 3 rfl) rfl (lv_at hl 1 rfl) ?_
  refine lv_ldc2 (v := (-9223372036854775808)) hx hb hown (hts _ m_9b75983f) (xb_d D_Whole_isBelow 4 rfl) ?_
  refine lv_lxor hx hb (xb_d D_Whole_isBelow 5 rfl) ?_
  refine xb_lc_ge (tgt := 18) hx hb (xb_d D_Whole_isBelow 6 rfl) (xb_d D_Whole_isBelow 7 rfl) rfl (fun hc1 => ?_) (fun hc1 => ?_)
  · have hw := hw.1 hc1
    refine lv_iconst (v := 0) hx hb (xb_d D_Whole_isBelow 10 rfl) (by decide) ?_
    exact am_Whole_isBelow_L19 l hfl D A σ MC MS h0 Qr 0 h hw p e s m args below meth c hC H locs ls k n hE (lv_sub hl [] rfl) hR hS (by omega) (by omega)
  · have hw := hw.2 hc1
    refine lv_iconst (v := 1) hx hb (xb_d D_Whole_isBelow 8 rfl) (by decide) ?_
    refine lv_goto (tgt := 19) hx hb (xb_d D_Whole_isBelow 9 rfl) rfl ?_
    exact am_Whole_isBelow_L19 l hfl D A σ MC MS h0 Qr 1 h hw p e s m args below meth c hC H locs ls k n hE (lv_sub hl [] rfl) hR hS (by omega) (by omega)

set_option maxRecDepth 100000 in
def T_Whole_quotient : List (Nat × Instr × Nat) := [(0, .lload_n 2, 1), (1, .lconst 0, 1), (2, .lcmp, 1), (3, .ifCond .gt 21, 3), (6, .lload_n 0, 1), (7, .lconst 0, 1), (8, .lcmp, 1), (9, .ifCond .ge 13, 3), (12, .lload_n 0, 1), (13, .lload_n 2, 1), (14, .lcmp, 1), (15, .ifCond .lt 7, 3), (18, .lconst 1, 1), (19, .goto 4, 3), (22, .lconst 0, 1), (23, .lreturn, 1), (24, .lload_n 0, 1), (25, .lconst 0, 1), (26, .lcmp, 1), (27, .ifCond .lt 7, 3), (30, .lload_n 0, 1), (31, .lload_n 2, 1), (32, .ldiv, 1), (33, .lreturn, 1), (34, .lload_n 0, 1), (35, .iconst 1, 1), (36, .lushr, 1), (37, .lload_n 2, 1), (38, .ldiv, 1), (39, .iconst 1, 1), (40, .lshl, 1), (41, .lstore 4, 2), (43, .lload_n 0, 1), (44, .lload 4, 2), (46, .lload_n 2, 1), (47, .lmul, 1), (48, .lsub, 1), (49, .lstore 6, 2), (51, .lload 6, 2), (53, .lconst 0, 1), (54, .lcmp, 1), (55, .ifCond .lt 10, 3), (58, .lload 6, 2), (60, .lload_n 2, 1), (61, .lcmp, 1), (62, .ifCond .lt 10, 3), (65, .lload 4, 2), (67, .lconst 1, 1), (68, .ladd, 1), (69, .goto 5, 3), (72, .lload 4, 2), (74, .lreturn, 1)]
theorem D_Whole_quotient : ∀ q ∈ T_Whole_quotient, decode b_Whole_quotient q.1 = .ok (q.2.1, q.2.2) := by decide +kernel

set_option maxHeartbeats 4000000 in
set_option maxRecDepth 100000 in
theorem am_Whole_quotient_L74 (l : Launch) (hfl : l.flags = pinnedFlags ++ [noTraceFlag]) (D : va_G) (A : Nat → Prop) (σ MC MS : Nat) (h0 : xb_H) (Qr : Int64 → xb_H → Prop) (y0 : Int64) (h : xb_H) (hw : w_Whole_quotient_L74 Qr y0 h) : xb_am l D A σ 2 MC MS h0 (fun v h _ _ => ∃ r, v = some (.long r) ∧ Qr r h) (fun _ _ _ _ => False) y_Whole_quotient.cls y_Whole_quotient.name b_Whole_quotient 8 ([] : List ExceptionTableEntry) (some .long) 74 [] [.long y0] h 0 0 := by
  unfold w_Whole_quotient_L74 at hw
  intro p e s m args below meth c hC H locs ls k n hE hl hR hS hk hn
  obtain ⟨hx, hb, hown, hlocks, htab, hml, hr, hB, hA, hnm⟩ := id hC
  have hts := hB.1.1.at args
  exact xb_lret 0 0 hx hb hr hlocks (show k + 0 ≤ MC by omega) (show n + 0 ≤ MS by omega) hE hR hS (xb_d D_Whole_quotient 51 rfl) hw

set_option maxHeartbeats 4000000 in
set_option maxRecDepth 100000 in
theorem am_Whole_quotient_L65 (l : Launch) (hfl : l.flags = pinnedFlags ++ [noTraceFlag]) (D : va_G) (A : Nat → Prop) (σ MC MS : Nat) (h0 : xb_H) (Qr : Int64 → xb_H → Prop) (x4 : Int64) (h : xb_H) (hw : w_Whole_quotient_L65 Qr x4 h) : xb_am l D A σ 2 MC MS h0 (fun v h _ _ => ∃ r, v = some (.long r) ∧ Qr r h) (fun _ _ _ _ => False) y_Whole_quotient.cls y_Whole_quotient.name b_Whole_quotient 8 ([] : List ExceptionTableEntry) (some .long) 65 [(4, .long x4)] [] h 0 0 := by
  unfold w_Whole_quotient_L65 at hw
  intro p e s m args below meth c hC H locs ls k n hE hl hR hS hk hn
  obtain ⟨hx, hb, hown, hlocks, htab, hml, hr, hB, hA, hnm⟩ := id hC
  have hts := hB.1.1.at args
  refine lv_lload hx hb (xb_d D_Whole_quotient 46 rfl) (lv_at hl 0 rfl) ?_
  refine lv_lconst (v := 1) hx hb (xb_d D_Whole_quotient 47 rfl) (by decide) ?_
  refine lv_ladd hx hb (xb_d D_Whole_quotient 48 rfl) ?_
  refine lv_goto (tgt := 74) hx hb (xb_d D_Whole_quotient 49 rfl) rfl ?_
  exact am_Whole_quotient_L74 l hfl D A σ MC MS h0 Qr (x4 + 1) h hw p e s m args below meth c hC H locs ls k n hE (lv_sub hl [] rfl) hR hS (by omega) (by omega)

set_option maxHeartbeats 4000000 in
set_option maxRecDepth 100000 in
theorem am_Whole_quotient_L23 (l : Launch) (hfl : l.flags = pinnedFlags ++ [noTraceFlag]) (D : va_G) (A : Nat → Prop) (σ MC MS : Nat) (h0 : xb_H) (Qr : Int64 → xb_H → Prop) (y0 : Int64) (h : xb_H) (hw : w_Whole_quotient_L23 Qr y0 h) : xb_am l D A σ 2 MC MS h0 (fun v h _ _ => ∃ r, v = some (.long r) ∧ Qr r h) (fun _ _ _ _ => False) y_Whole_quotient.cls y_Whole_quotient.name b_Whole_quotient 8 ([] : List ExceptionTableEntry) (some .long) 23 [] [.long y0] h 0 0 := by
  unfold w_Whole_quotient_L23 at hw
  intro p e s m args below meth c hC H locs ls k n hE hl hR hS hk hn
  obtain ⟨hx, hb, hown, hlocks, htab, hml, hr, hB, hA, hnm⟩ := id hC
  have hts := hB.1.1.at args
  exact xb_lret 0 0 hx hb hr hlocks (show k + 0 ≤ MC by omega) (show n + 0 ≤ MS by omega) hE hR hS (xb_d D_Whole_quotient 15 rfl) hw

set_option maxHeartbeats 4000000 in
set_option maxRecDepth 100000 in
theorem am_Whole_quotient_L22 (l : Launch) (hfl : l.flags = pinnedFlags ++ [noTraceFlag]) (D : va_G) (A : Nat → Prop) (σ MC MS : Nat) (h0 : xb_H) (Qr : Int64 → xb_H → Prop) (h : xb_H) (hw : w_Whole_quotient_L22 Qr h) : xb_am l D A σ 2 MC MS h0 (fun v h _ _ => ∃ r, v = some (.long r) ∧ Qr r h) (fun _ _ _ _ => False) y_Whole_quotient.cls y_Whole_quotient.name b_Whole_quotient 8 ([] : List ExceptionTableEntry) (some .long) 22 [] [] h 0 0 := by
  unfold w_Whole_quotient_L22 at hw
  intro p e s m args below meth c hC H locs ls k n hE hl hR hS hk hn
  obtain ⟨hx, hb, hown, hlocks, htab, hml, hr, hB, hA, hnm⟩ := id hC
  have hts := hB.1.1.at args
  refine lv_lconst (v := 0) hx hb (xb_d D_Whole_quotient 14 rfl) (by decide) ?_
  exact am_Whole_quotient_L23 l hfl D A σ MC MS h0 Qr 0 h hw p e s m args below meth c hC H locs ls k n hE (lv_sub hl [] rfl) hR hS (by omega) (by omega)

set_option maxHeartbeats 4000000 in
set_option maxRecDepth 100000 in
theorem ok_Whole_quotient (l : Launch) (hfl : l.flags = pinnedFlags ++ [noTraceFlag]) (D : va_G) (A : Nat → Prop) (σ : Nat) (x0 : Int64) (x2 : Int64) (h : xb_H) (Qr : Int64 → xb_H → Prop) (hw : w_Whole_quotient x0 x2 h Qr) : xb_Met l y_Whole_quotient [.code y_Whole_quotient b_Whole_quotient 8 (some .long)] (xb_rm 2 0 0) (xb_Pc D A σ h [.long x0, .long x2]) (xb_Qc D A h 0 0 (fun v h _ _ => ∃ r, v = some (.long r) ∧ Qr r h) (fun _ _ _ _ => False)) A := by
  refine xb_ofAm (cc := b_Whole_quotient) (by decide) (Nat.le_of_ble_eq_true rfl) ?_
  unfold w_Whole_quotient at hw
  show xb_am l D A σ 2 0 0 h (fun v h _ _ => ∃ r, v = some (.long r) ∧ Qr r h) (fun _ _ _ _ => False) y_Whole_quotient.cls y_Whole_quotient.name b_Whole_quotient 8 ([] : List ExceptionTableEntry) (some .long) 0 [(0, .long x0), (2, .long x2)] [] h 0 0
  obtain ⟨MC, hMC⟩ : ∃ x, x = 0 := ⟨_, rfl⟩
  obtain ⟨MS, hMS⟩ : ∃ x, x = 0 := ⟨_, rfl⟩
  rw [show xb_am l D A σ 2 0 0 = xb_am l D A σ 2 MC MS by rw [hMC, hMS]]
  obtain ⟨h0, hh0⟩ : ∃ x, x = h := ⟨_, rfl⟩
  rw [show xb_am l D A σ 2 MC MS h = xb_am l D A σ 2 MC MS h0 by rw [hh0]]
  intro p e s m args below meth c hC H locs ls k n hE hl hR hS hk hn
  obtain ⟨hx, hb, hown, hlocks, htab, hml, hr, hB, hA, hnm⟩ := id hC
  have hts := hB.1.1.at args
  refine lv_lload_n hx hb (xb_d D_Whole_quotient 0 rfl) rfl (lv_at hl 1 rfl) ?_
  refine lv_lconst (v := 0) hx hb (xb_d D_Whole_quotient 1 rfl) (by decide) ?_
  refine xb_lc_gt (tgt := 24) hx hb (xb_d D_Whole_quotient 2 rfl) (xb_d D_Whole_quotient 3 rfl) rfl (fun hc1 => ?_) (fun hc1 => ?_)
  · have hw := hw.1 hc1
    refine lv_lload_n hx hb (xb_d D_Whole_quotient 16 rfl) rfl (lv_at hl 0 rfl) ?_
    refine lv_lconst (v := 0) hx hb (xb_d D_Whole_quotient 17 rfl) (by decide) ?_
    refine xb_lc_lt (tgt := 34) hx hb (xb_d D_Whole_quotient 18 rfl) (xb_d D_Whole_quotient 19 rfl) rfl (fun hc2 => ?_) (fun hc2 => ?_)
    · have hw := hw.1 hc2
      refine lv_lload_n hx hb (xb_d D_Whole_quotient 24 rfl) rfl (lv_at hl 0 rfl) ?_
      refine lv_iconst (v := 1) hx hb (xb_d D_Whole_quotient 25 rfl) (by decide) ?_
      refine lv_lushr (v := (xb_lushr x0 1)) hx hb (xb_d D_Whole_quotient 26 rfl) rfl ?_
      refine lv_lload_n hx hb (xb_d D_Whole_quotient 27 rfl) rfl (lv_at hl 1 rfl) ?_
      obtain ⟨hz3, hw⟩ := hw
      refine lv_ldiv hx hb (xb_d D_Whole_quotient 28 rfl) hz3 ?_
      refine lv_iconst (v := 1) hx hb (xb_d D_Whole_quotient 29 rfl) (by decide) ?_
      refine lv_lshl (v := (xb_lshl ((xb_lushr x0 1) / x2) 1)) hx hb (xb_d D_Whole_quotient 30 rfl) rfl ?_
      obtain ⟨v4, ev4⟩ : ∃ x : Int64, x = (xb_lshl ((xb_lushr x0 1) / x2) 1) := ⟨_, rfl⟩
      have hw := hw v4 ev4
      refine xt_numl (y := v4) ev4.symm ?_
      refine lv_lstore hx hb (xb_d D_Whole_quotient 31 rfl) hl (by decide) rfl (fun ls hl => ?_)
      have hl : lv_has ls 8 [(4, .long v4), (0, .long x0), (2, .long x2)] := hl
      refine lv_lload_n hx hb (xb_d D_Whole_quotient 32 rfl) rfl (lv_at hl 1 rfl) ?_
      refine lv_lload hx hb (xb_d D_Whole_quotient 33 rfl) (lv_at hl 0 rfl) ?_
      refine lv_lload_n hx hb (xb_d D_Whole_quotient 34 rfl) rfl (lv_at hl 2 rfl) ?_
      refine lv_lmul hx hb (xb_d D_Whole_quotient 35 rfl) ?_
      refine lv_lsub hx hb (xb_d D_Whole_quotient 36 rfl) ?_
      obtain ⟨v5, ev5⟩ : ∃ x : Int64, x = (x0 - (v4 * x2)) := ⟨_, rfl⟩
      have hw := hw v5 ev5
      refine xt_numl (y := v5) ev5.symm ?_
      refine lv_lstore hx hb (xb_d D_Whole_quotient 37 rfl) hl (by decide) rfl (fun ls hl => ?_)
      have hl : lv_has ls 8 [(6, .long v5), (4, .long v4), (0, .long x0), (2, .long x2)] := hl
      refine lv_lload hx hb (xb_d D_Whole_quotient 38 rfl) (lv_at hl 0 rfl) ?_
      refine lv_lconst (v := 0) hx hb (xb_d D_Whole_quotient 39 rfl) (by decide) ?_
      refine xb_lc_lt (tgt := 65) hx hb (xb_d D_Whole_quotient 40 rfl) (xb_d D_Whole_quotient 41 rfl) rfl (fun hc6 => ?_) (fun hc6 => ?_)
      · have hw := hw.1 hc6
        exact am_Whole_quotient_L65 l hfl D A σ MC MS h0 Qr v4 h hw p e s m args below meth c hC H locs ls k n hE (lv_sub hl [1] rfl) hR hS (by omega) (by omega)
      · have hw := hw.2 hc6
        refine lv_lload hx hb (xb_d D_Whole_quotient 42 rfl) (lv_at hl 0 rfl) ?_
        refine lv_lload_n hx hb (xb_d D_Whole_quotient 43 rfl) rfl (lv_at hl 3 rfl) ?_
        refine xb_lc_lt (tgt := 72) hx hb (xb_d D_Whole_quotient 44 rfl) (xb_d D_Whole_quotient 45 rfl) rfl (fun hc7 => ?_) (fun hc7 => ?_)
        · have hw := hw.1 hc7
          refine lv_lload hx hb (xb_d D_Whole_quotient 50 rfl) (lv_at hl 1 rfl) ?_
          exact am_Whole_quotient_L74 l hfl D A σ MC MS h0 Qr v4 h hw p e s m args below meth c hC H locs ls k n hE (lv_sub hl [] rfl) hR hS (by omega) (by omega)
        · have hw := hw.2 hc7
          exact am_Whole_quotient_L65 l hfl D A σ MC MS h0 Qr v4 h hw p e s m args below meth c hC H locs ls k n hE (lv_sub hl [1] rfl) hR hS (by omega) (by omega)
    · have hw := hw.2 hc2
      refine lv_lload_n hx hb (xb_d D_Whole_quotient 20 rfl) rfl (lv_at hl 0 rfl) ?_
      refine lv_lload_n hx hb (xb_d D_Whole_quotient 21 rfl) rfl (lv_at hl 1 rfl) ?_
      obtain ⟨hz8, hw⟩ := hw
      refine lv_ldiv hx hb (xb_d D_Whole_quotient 22 rfl) hz8 ?_
      exact xb_lret 0 0 hx hb hr hlocks (show k + 0 ≤ MC by omega) (show n + 0 ≤ MS by omega) hE hR hS (xb_d D_Whole_quotient 23 rfl) hw
  · have hw := hw.2 hc1
    refine lv_lload_n hx hb (xb_d D_Whole_quotient 4 rfl) rfl (lv_at hl 0 rfl) ?_
    refine lv_lconst (v := 0) hx hb (xb_d D_Whole_quotient 5 rfl) (by decide) ?_
    refine xb_lc_ge (tgt := 22) hx hb (xb_d D_Whole_quotient 6 rfl) (xb_d D_Whole_quotient 7 rfl) rfl (fun hc9 => ?_) (fun hc9 => ?_)
    · have hw := hw.1 hc9
      exact am_Whole_quotient_L22 l hfl D A σ MC MS h0 Qr h hw p e s m args below meth c hC H locs ls k n hE (lv_sub hl [] rfl) hR hS (by omega) (by omega)
    · have hw := hw.2 hc9
      refine lv_lload_n hx hb (xb_d D_Whole_quotient 8 rfl) rfl (lv_at hl 0 rfl) ?_
      refine lv_lload_n hx hb (xb_d D_Whole_quotient 9 rfl) rfl (lv_at hl 1 rfl) ?_
      refine xb_lc_lt (tgt := 22) hx hb (xb_d D_Whole_quotient 10 rfl) (xb_d D_Whole_quotient 11 rfl) rfl (fun hc10 => ?_) (fun hc10 => ?_)
      · have hw := hw.1 hc10
        exact am_Whole_quotient_L22 l hfl D A σ MC MS h0 Qr h hw p e s m args below meth c hC H locs ls k n hE (lv_sub hl [] rfl) hR hS (by omega) (by omega)
      · have hw := hw.2 hc10
        refine lv_lconst (v := 1) hx hb (xb_d D_Whole_quotient 12 rfl) (by decide) ?_
        refine lv_goto (tgt := 23) hx hb (xb_d D_Whole_quotient 13 rfl) rfl ?_
        exact am_Whole_quotient_L23 l hfl D A σ MC MS h0 Qr 1 h hw p e s m args below meth c hC H locs ls k n hE (lv_sub hl [] rfl) hR hS (by omega) (by omega)

set_option maxRecDepth 100000 in
def T_Whole_trapOf : List (Nat × Instr × Nat) := [(0, .iload_n 0, 1), (1, .iconst 3, 1), (2, .if_icmp .lt 15, 3), (5, .iload_n 0, 1), (6, .bipush 6, 2), (8, .if_icmp .gt 9, 3), (11, .iload_n 1, 1), (12, .ifCond .eq 5, 3), (15, .iconst 3, 1), (16, .ireturn, 1), (17, .iload_n 0, 1), (18, .iconst 3, 1), (19, .if_icmp .ne 11, 3), (22, .iload_n 2, 1), (23, .ifCond .eq 7, 3), (26, .iconst 4, 1), (27, .goto 4, 3), (30, .iconst 0, 1), (31, .ireturn, 1)]
theorem D_Whole_trapOf : ∀ q ∈ T_Whole_trapOf, decode b_Whole_trapOf q.1 = .ok (q.2.1, q.2.2) := by decide +kernel

set_option maxHeartbeats 4000000 in
set_option maxRecDepth 100000 in
theorem am_Whole_trapOf_L31 (l : Launch) (hfl : l.flags = pinnedFlags ++ [noTraceFlag]) (D : va_G) (A : Nat → Prop) (σ MC MS : Nat) (h0 : xb_H) (Qr : Int32 → xb_H → Prop) (y0 : Int32) (h : xb_H) (hw : w_Whole_trapOf_L31 Qr y0 h) : xb_am l D A σ 2 MC MS h0 (fun v h _ _ => ∃ r, v = some (.int r) ∧ Qr r h) (fun _ _ _ _ => False) y_Whole_trapOf.cls y_Whole_trapOf.name b_Whole_trapOf 3 ([] : List ExceptionTableEntry) (some .int) 31 [] [.int y0] h 0 0 := by
  unfold w_Whole_trapOf_L31 at hw
  intro p e s m args below meth c hC H locs ls k n hE hl hR hS hk hn
  obtain ⟨hx, hb, hown, hlocks, htab, hml, hr, hB, hA, hnm⟩ := id hC
  have hts := hB.1.1.at args
  exact xb_iret 0 0 hx hb hr hlocks (show k + 0 ≤ MC by omega) (show n + 0 ≤ MS by omega) hE hR hS (xb_d D_Whole_trapOf 18 rfl) hw

set_option maxHeartbeats 4000000 in
set_option maxRecDepth 100000 in
theorem am_Whole_trapOf_L30 (l : Launch) (hfl : l.flags = pinnedFlags ++ [noTraceFlag]) (D : va_G) (A : Nat → Prop) (σ MC MS : Nat) (h0 : xb_H) (Qr : Int32 → xb_H → Prop) (h : xb_H) (hw : w_Whole_trapOf_L30 Qr h) : xb_am l D A σ 2 MC MS h0 (fun v h _ _ => ∃ r, v = some (.int r) ∧ Qr r h) (fun _ _ _ _ => False) y_Whole_trapOf.cls y_Whole_trapOf.name b_Whole_trapOf 3 ([] : List ExceptionTableEntry) (some .int) 30 [] [] h 0 0 := by
  unfold w_Whole_trapOf_L30 at hw
  intro p e s m args below meth c hC H locs ls k n hE hl hR hS hk hn
  obtain ⟨hx, hb, hown, hlocks, htab, hml, hr, hB, hA, hnm⟩ := id hC
  have hts := hB.1.1.at args
  refine lv_iconst (v := 0) hx hb (xb_d D_Whole_trapOf 17 rfl) (by decide) ?_
  exact am_Whole_trapOf_L31 l hfl D A σ MC MS h0 Qr 0 h hw p e s m args below meth c hC H locs ls k n hE (lv_sub hl [] rfl) hR hS (by omega) (by omega)

set_option maxHeartbeats 4000000 in
set_option maxRecDepth 100000 in
theorem am_Whole_trapOf_L17 (l : Launch) (hfl : l.flags = pinnedFlags ++ [noTraceFlag]) (D : va_G) (A : Nat → Prop) (σ MC MS : Nat) (h0 : xb_H) (Qr : Int32 → xb_H → Prop) (x0 : Int32) (x2 : Int32) (h : xb_H) (hw : w_Whole_trapOf_L17 Qr x0 x2 h) : xb_am l D A σ 2 MC MS h0 (fun v h _ _ => ∃ r, v = some (.int r) ∧ Qr r h) (fun _ _ _ _ => False) y_Whole_trapOf.cls y_Whole_trapOf.name b_Whole_trapOf 3 ([] : List ExceptionTableEntry) (some .int) 17 [(0, .int x0), (2, .int x2)] [] h 0 0 := by
  unfold w_Whole_trapOf_L17 at hw
  intro p e s m args below meth c hC H locs ls k n hE hl hR hS hk hn
  obtain ⟨hx, hb, hown, hlocks, htab, hml, hr, hB, hA, hnm⟩ := id hC
  have hts := hB.1.1.at args
  refine lv_iload_n hx hb (xb_d D_Whole_trapOf 10 rfl) rfl (lv_at hl 0 rfl) ?_
  refine lv_iconst (v := 3) hx hb (xb_d D_Whole_trapOf 11 rfl) (by decide) ?_
  refine lv_icmp_ne (tgt := 30) hx hb (xb_d D_Whole_trapOf 12 rfl) rfl (fun hc1 => ?_) (fun hc1 => ?_)
  · have hw := hw.1 hc1
    exact am_Whole_trapOf_L30 l hfl D A σ MC MS h0 Qr h hw p e s m args below meth c hC H locs ls k n hE (lv_sub hl [] rfl) hR hS (by omega) (by omega)
  · have hw := hw.2 hc1
    refine lv_iload_n hx hb (xb_d D_Whole_trapOf 13 rfl) rfl (lv_at hl 1 rfl) ?_
    refine lv_if_eq (tgt := 30) hx hb (xb_d D_Whole_trapOf 14 rfl) rfl (fun hc2 => ?_) (fun hc2 => ?_)
    · have hw := hw.1 hc2
      exact am_Whole_trapOf_L30 l hfl D A σ MC MS h0 Qr h hw p e s m args below meth c hC H locs ls k n hE (lv_sub hl [] rfl) hR hS (by omega) (by omega)
    · have hw := hw.2 hc2
      refine lv_iconst (v := 4) hx hb (xb_d D_Whole_trapOf 15 rfl) (by decide) ?_
      refine lv_goto (tgt := 31) hx hb (xb_d D_Whole_trapOf 16 rfl) rfl ?_
      exact am_Whole_trapOf_L31 l hfl D A σ MC MS h0 Qr 4 h hw p e s m args below meth c hC H locs ls k n hE (lv_sub hl [] rfl) hR hS (by omega) (by omega)

set_option maxHeartbeats 4000000 in
set_option maxRecDepth 100000 in
theorem ok_Whole_trapOf (l : Launch) (hfl : l.flags = pinnedFlags ++ [noTraceFlag]) (D : va_G) (A : Nat → Prop) (σ : Nat) (x0 : Int32) (x1 : Int32) (x2 : Int32) (h : xb_H) (Qr : Int32 → xb_H → Prop) (hw : w_Whole_trapOf x0 x1 x2 h Qr) : xb_Met l y_Whole_trapOf [.code y_Whole_trapOf b_Whole_trapOf 3 (some .int)] (xb_rm 2 0 0) (xb_Pc D A σ h [.int x0, .int x1, .int x2]) (xb_Qc D A h 0 0 (fun v h _ _ => ∃ r, v = some (.int r) ∧ Qr r h) (fun _ _ _ _ => False)) A := by
  refine xb_ofAm (cc := b_Whole_trapOf) (by decide) (Nat.le_of_ble_eq_true rfl) ?_
  unfold w_Whole_trapOf at hw
  show xb_am l D A σ 2 0 0 h (fun v h _ _ => ∃ r, v = some (.int r) ∧ Qr r h) (fun _ _ _ _ => False) y_Whole_trapOf.cls y_Whole_trapOf.name b_Whole_trapOf 3 ([] : List ExceptionTableEntry) (some .int) 0 [(0, .int x0), (1, .int x1), (2, .int x2)] [] h 0 0
  obtain ⟨MC, hMC⟩ : ∃ x, x = 0 := ⟨_, rfl⟩
  obtain ⟨MS, hMS⟩ : ∃ x, x = 0 := ⟨_, rfl⟩
  rw [show xb_am l D A σ 2 0 0 = xb_am l D A σ 2 MC MS by rw [hMC, hMS]]
  obtain ⟨h0, hh0⟩ : ∃ x, x = h := ⟨_, rfl⟩
  rw [show xb_am l D A σ 2 MC MS h = xb_am l D A σ 2 MC MS h0 by rw [hh0]]
  intro p e s m args below meth c hC H locs ls k n hE hl hR hS hk hn
  obtain ⟨hx, hb, hown, hlocks, htab, hml, hr, hB, hA, hnm⟩ := id hC
  have hts := hB.1.1.at args
  refine lv_iload_n hx hb (xb_d D_Whole_trapOf 0 rfl) rfl (lv_at hl 0 rfl) ?_
  refine lv_iconst (v := 3) hx hb (xb_d D_Whole_trapOf 1 rfl) (by decide) ?_
  refine lv_icmp_lt (tgt := 17) hx hb (xb_d D_Whole_trapOf 2 rfl) rfl (fun hc1 => ?_) (fun hc1 => ?_)
  · have hw := hw.1 hc1
    exact am_Whole_trapOf_L17 l hfl D A σ MC MS h0 Qr x0 x2 h hw p e s m args below meth c hC H locs ls k n hE (lv_sub hl [0, 2] rfl) hR hS (by omega) (by omega)
  · have hw := hw.2 hc1
    refine lv_iload_n hx hb (xb_d D_Whole_trapOf 3 rfl) rfl (lv_at hl 0 rfl) ?_
    refine lv_bipush (v := 6) hx hb (xb_d D_Whole_trapOf 4 rfl) (by decide) ?_
    refine lv_icmp_gt (tgt := 17) hx hb (xb_d D_Whole_trapOf 5 rfl) rfl (fun hc2 => ?_) (fun hc2 => ?_)
    · have hw := hw.1 hc2
      exact am_Whole_trapOf_L17 l hfl D A σ MC MS h0 Qr x0 x2 h hw p e s m args below meth c hC H locs ls k n hE (lv_sub hl [0, 2] rfl) hR hS (by omega) (by omega)
    · have hw := hw.2 hc2
      refine lv_iload_n hx hb (xb_d D_Whole_trapOf 6 rfl) rfl (lv_at hl 1 rfl) ?_
      refine lv_if_eq (tgt := 17) hx hb (xb_d D_Whole_trapOf 7 rfl) rfl (fun hc3 => ?_) (fun hc3 => ?_)
      · have hw := hw.1 hc3
        exact am_Whole_trapOf_L17 l hfl D A σ MC MS h0 Qr x0 x2 h hw p e s m args below meth c hC H locs ls k n hE (lv_sub hl [0, 2] rfl) hR hS (by omega) (by omega)
      · have hw := hw.2 hc3
        refine lv_iconst (v := 3) hx hb (xb_d D_Whole_trapOf 8 rfl) (by decide) ?_
        exact xb_iret 0 0 hx hb hr hlocks (show k + 0 ≤ MC by omega) (show n + 0 ≤ MS by omega) hE hR hS (xb_d D_Whole_trapOf 9 rfl) hw

set_option maxRecDepth 100000 in
def T_Whole_zerosAbove : List (Nat × Instr × Nat) := [(0, .lload_n 0, 1), (1, .lstore_n 2, 1), (2, .iconst 0, 1), (3, .istore 4, 2), (5, .bipush 32, 2), (7, .istore 5, 2), (9, .iload 5, 2), (11, .ifCond .le 36, 3), (14, .lload_n 2, 1), (15, .bipush 64, 2), (17, .iload 5, 2), (19, .isub, 1), (20, .lushr, 1), (21, .lconst 0, 1), (22, .lcmp, 1), (23, .ifCond .ne 15, 3), (26, .lload_n 2, 1), (27, .iload 5, 2), (29, .lshl, 1), (30, .lstore_n 2, 1), (31, .iload 4, 2), (33, .iload 5, 2), (35, .iadd, 1), (36, .istore 4, 2), (38, .iload 5, 2), (40, .iconst 1, 1), (41, .ishr, 1), (42, .istore 5, 2), (44, .goto (-35), 3), (47, .lload_n 0, 1), (48, .lconst 0, 1), (49, .lcmp, 1), (50, .ifCond .ne 8, 3), (53, .bipush 64, 2), (55, .goto 5, 3), (58, .iload 4, 2), (60, .ireturn, 1)]
theorem D_Whole_zerosAbove : ∀ q ∈ T_Whole_zerosAbove, decode b_Whole_zerosAbove q.1 = .ok (q.2.1, q.2.2) := by decide +kernel

set_option maxHeartbeats 4000000 in
set_option maxRecDepth 100000 in
theorem am_Whole_zerosAbove_L60 (l : Launch) (hfl : l.flags = pinnedFlags ++ [noTraceFlag]) (D : va_G) (A : Nat → Prop) (σ MC MS : Nat) (h0 : xb_H) (Qr : Int32 → xb_H → Prop) (y0 : Int32) (h : xb_H) (hw : w_Whole_zerosAbove_L60 Qr y0 h) : xb_am l D A σ 2 MC MS h0 (fun v h _ _ => ∃ r, v = some (.int r) ∧ Qr r h) (fun _ _ _ _ => False) y_Whole_zerosAbove.cls y_Whole_zerosAbove.name b_Whole_zerosAbove 6 ([] : List ExceptionTableEntry) (some .int) 60 [] [.int y0] h 0 0 := by
  unfold w_Whole_zerosAbove_L60 at hw
  intro p e s m args below meth c hC H locs ls k n hE hl hR hS hk hn
  obtain ⟨hx, hb, hown, hlocks, htab, hml, hr, hB, hA, hnm⟩ := id hC
  have hts := hB.1.1.at args
  exact xb_iret 0 0 hx hb hr hlocks (show k + 0 ≤ MC by omega) (show n + 0 ≤ MS by omega) hE hR hS (xb_d D_Whole_zerosAbove 36 rfl) hw

set_option maxHeartbeats 4000000 in
set_option maxRecDepth 100000 in
theorem am_Whole_zerosAbove_L38 (l : Launch) (hfl : l.flags = pinnedFlags ++ [noTraceFlag]) (D : va_G) (A : Nat → Prop) (σ MC MS : Nat) (h0 : xb_H) (Qr : Int32 → xb_H → Prop) (K9 : Int64 → Int64 → Int32 → Int32 → xb_H → Prop) (hK9 : ∀ (x0 : Int64) (x2 : Int64) (x4 : Int32) (x5 : Int32) (h : xb_H), K9 x0 x2 x4 x5 h → xb_am l D A σ 2 MC MS h0 (fun v h _ _ => ∃ r, v = some (.int r) ∧ Qr r h) (fun _ _ _ _ => False) y_Whole_zerosAbove.cls y_Whole_zerosAbove.name b_Whole_zerosAbove 6 ([] : List ExceptionTableEntry) (some .int) 9 [(0, .long x0), (2, .long x2), (4, .int x4), (5, .int x5)] [] h 0 0) (x0 : Int64) (x2 : Int64) (x4 : Int32) (x5 : Int32) (h : xb_H) (hw : w_Whole_zerosAbove_L38 K9 Qr x0 x2 x4 x5 h) : xb_am l D A σ 2 MC MS h0 (fun v h _ _ => ∃ r, v = some (.int r) ∧ Qr r h) (fun _ _ _ _ => False) y_Whole_zerosAbove.cls y_Whole_zerosAbove.name b_Whole_zerosAbove 6 ([] : List ExceptionTableEntry) (some .int) 38 [(0, .long x0), (2, .long x2), (4, .int x4), (5, .int x5)] [] h 0 0 := by
  unfold w_Whole_zerosAbove_L38 at hw
  intro p e s m args below meth c hC H locs ls k n hE hl hR hS hk hn
  obtain ⟨hx, hb, hown, hlocks, htab, hml, hr, hB, hA, hnm⟩ := id hC
  have hts := hB.1.1.at args
  refine lv_iload hx hb (xb_d D_Whole_zerosAbove 24 rfl) (lv_at hl 3 rfl) ?_
  refine lv_iconst (v := 1) hx hb (xb_d D_Whole_zerosAbove 25 rfl) (by decide) ?_
  refine lv_ishr hx hb (xb_d D_Whole_zerosAbove 26 rfl) ?_
  obtain ⟨v1, ev1⟩ : ∃ x : Int32, x = (x5 >>> (1 &&& 31)) := ⟨_, rfl⟩
  have hw := hw v1 ev1
  refine xt_numi (y := v1) ev1.symm ?_
  refine lv_istore hx hb (xb_d D_Whole_zerosAbove 27 rfl) hl (by decide) rfl (fun ls hl => ?_)
  have hl : lv_has ls 6 [(5, .int v1), (0, .long x0), (2, .long x2), (4, .int x4)] := hl
  refine lv_goto (tgt := 9) hx hb (xb_d D_Whole_zerosAbove 28 rfl) rfl ?_
  exact hK9 x0 x2 x4 v1 h hw p e s m args below meth c hC H locs ls k n hE (lv_sub hl [1, 2, 3, 0] rfl) hR hS (by omega) (by omega)

set_option maxHeartbeats 4000000 in
set_option maxRecDepth 100000 in
theorem am_Whole_zerosAbove_L9 (l : Launch) (hfl : l.flags = pinnedFlags ++ [noTraceFlag]) (D : va_G) (A : Nat → Prop) (σ MC MS : Nat) (h0 : xb_H) (Qr : Int32 → xb_H → Prop) (n9 : Nat) : ∀ (x0 : Int64) (x2 : Int64) (x4 : Int32) (x5 : Int32) (h : xb_H), w_Whole_zerosAbove_L9 Qr n9 x0 x2 x4 x5 h → xb_am l D A σ 2 MC MS h0 (fun v h _ _ => ∃ r, v = some (.int r) ∧ Qr r h) (fun _ _ _ _ => False) y_Whole_zerosAbove.cls y_Whole_zerosAbove.name b_Whole_zerosAbove 6 ([] : List ExceptionTableEntry) (some .int) 9 [(0, .long x0), (2, .long x2), (4, .int x4), (5, .int x5)] [] h 0 0 := by
  induction n9 with
  | zero => intro x0 x2 x4 x5 h hw; exact False.elim hw
  | succ n9 ih =>
    intro x0 x2 x4 x5 h hw
    unfold w_Whole_zerosAbove_L9 at hw
    intro p e s m args below meth c hC H locs ls k n hE hl hR hS hk hn
    obtain ⟨hx, hb, hown, hlocks, htab, hml, hr, hB, hA, hnm⟩ := id hC
    have hts := hB.1.1.at args
    refine lv_iload hx hb (xb_d D_Whole_zerosAbove 6 rfl) (lv_at hl 3 rfl) ?_
    refine lv_if_le (tgt := 47) hx hb (xb_d D_Whole_zerosAbove 7 rfl) rfl (fun hc1 => ?_) (fun hc1 => ?_)
    · have hw := hw.1 hc1
      refine lv_lload_n hx hb (xb_d D_Whole_zerosAbove 29 rfl) rfl (lv_at hl 0 rfl) ?_
      refine lv_lconst (v := 0) hx hb (xb_d D_Whole_zerosAbove 30 rfl) (by decide) ?_
      refine xb_lc_ne (tgt := 58) hx hb (xb_d D_Whole_zerosAbove 31 rfl) (xb_d D_Whole_zerosAbove 32 rfl) rfl (fun hc2 => ?_) (fun hc2 => ?_)
      · have hw := hw.1 hc2
        refine lv_iload hx hb (xb_d D_Whole_zerosAbove 35 rfl) (lv_at hl 2 rfl) ?_
        exact am_Whole_zerosAbove_L60 l hfl D A σ MC MS h0 Qr x4 h hw p e s m args below meth c hC H locs ls k n hE (lv_sub hl [] rfl) hR hS (by omega) (by omega)
      · have hw := hw.2 hc2
        refine lv_bipush (v := 64) hx hb (xb_d D_Whole_zerosAbove 33 rfl) (by decide) ?_
        refine lv_goto (tgt := 60) hx hb (xb_d D_Whole_zerosAbove 34 rfl) rfl ?_
        exact am_Whole_zerosAbove_L60 l hfl D A σ MC MS h0 Qr 64 h hw p e s m args below meth c hC H locs ls k n hE (lv_sub hl [] rfl) hR hS (by omega) (by omega)
    · have hw := hw.2 hc1
      refine lv_lload_n hx hb (xb_d D_Whole_zerosAbove 8 rfl) rfl (lv_at hl 1 rfl) ?_
      refine lv_bipush (v := 64) hx hb (xb_d D_Whole_zerosAbove 9 rfl) (by decide) ?_
      refine lv_iload hx hb (xb_d D_Whole_zerosAbove 10 rfl) (lv_at hl 3 rfl) ?_
      refine lv_isub hx hb (xb_d D_Whole_zerosAbove 11 rfl) ?_
      refine lv_lushr (v := (xb_lushr x2 (64 - x5))) hx hb (xb_d D_Whole_zerosAbove 12 rfl) rfl ?_
      refine lv_lconst (v := 0) hx hb (xb_d D_Whole_zerosAbove 13 rfl) (by decide) ?_
      refine xb_lc_ne (tgt := 38) hx hb (xb_d D_Whole_zerosAbove 14 rfl) (xb_d D_Whole_zerosAbove 15 rfl) rfl (fun hc3 => ?_) (fun hc3 => ?_)
      · have hw := hw.1 hc3
        exact am_Whole_zerosAbove_L38 l hfl D A σ MC MS h0 Qr (w_Whole_zerosAbove_L9 Qr n9) ih x0 x2 x4 x5 h hw p e s m args below meth c hC H locs ls k n hE (lv_sub hl [0, 1, 2, 3] rfl) hR hS (by omega) (by omega)
      · have hw := hw.2 hc3
        refine lv_lload_n hx hb (xb_d D_Whole_zerosAbove 16 rfl) rfl (lv_at hl 1 rfl) ?_
        refine lv_iload hx hb (xb_d D_Whole_zerosAbove 17 rfl) (lv_at hl 3 rfl) ?_
        refine lv_lshl (v := (xb_lshl x2 x5)) hx hb (xb_d D_Whole_zerosAbove 18 rfl) rfl ?_
        obtain ⟨v4, ev4⟩ : ∃ x : Int64, x = (xb_lshl x2 x5) := ⟨_, rfl⟩
        have hw := hw v4 ev4
        refine xt_numl (y := v4) ev4.symm ?_
        refine lv_lstore_n hx hb (xb_d D_Whole_zerosAbove 19 rfl) rfl hl (by decide) rfl (fun ls hl => ?_)
        have hl : lv_has ls 6 [(2, .long v4), (0, .long x0), (4, .int x4), (5, .int x5)] := hl
        refine lv_iload hx hb (xb_d D_Whole_zerosAbove 20 rfl) (lv_at hl 2 rfl) ?_
        refine lv_iload hx hb (xb_d D_Whole_zerosAbove 21 rfl) (lv_at hl 3 rfl) ?_
        refine lv_iadd hx hb (xb_d D_Whole_zerosAbove 22 rfl) ?_
        obtain ⟨v5, ev5⟩ : ∃ x : Int32, x = (x4 + x5) := ⟨_, rfl⟩
        have hw := hw v5 ev5
        refine xt_numi (y := v5) ev5.symm ?_
        refine lv_istore hx hb (xb_d D_Whole_zerosAbove 23 rfl) hl (by decide) rfl (fun ls hl => ?_)
        have hl : lv_has ls 6 [(4, .int v5), (2, .long v4), (0, .long x0), (5, .int x5)] := hl
        exact am_Whole_zerosAbove_L38 l hfl D A σ MC MS h0 Qr (w_Whole_zerosAbove_L9 Qr n9) ih x0 v4 v5 x5 h hw p e s m args below meth c hC H locs ls k n hE (lv_sub hl [2, 1, 0, 3] rfl) hR hS (by omega) (by omega)

set_option maxHeartbeats 4000000 in
set_option maxRecDepth 100000 in
theorem ok_Whole_zerosAbove (l : Launch) (hfl : l.flags = pinnedFlags ++ [noTraceFlag]) (D : va_G) (A : Nat → Prop) (σ : Nat) (x0 : Int64) (h : xb_H) (Qr : Int32 → xb_H → Prop) (hw : w_Whole_zerosAbove x0 h Qr) : xb_Met l y_Whole_zerosAbove [.code y_Whole_zerosAbove b_Whole_zerosAbove 6 (some .int)] (xb_rm 2 0 0) (xb_Pc D A σ h [.long x0]) (xb_Qc D A h 0 0 (fun v h _ _ => ∃ r, v = some (.int r) ∧ Qr r h) (fun _ _ _ _ => False)) A := by
  refine xb_ofAm (cc := b_Whole_zerosAbove) (by decide) (Nat.le_of_ble_eq_true rfl) ?_
  unfold w_Whole_zerosAbove at hw
  show xb_am l D A σ 2 0 0 h (fun v h _ _ => ∃ r, v = some (.int r) ∧ Qr r h) (fun _ _ _ _ => False) y_Whole_zerosAbove.cls y_Whole_zerosAbove.name b_Whole_zerosAbove 6 ([] : List ExceptionTableEntry) (some .int) 0 [(0, .long x0)] [] h 0 0
  obtain ⟨MC, hMC⟩ : ∃ x, x = 0 := ⟨_, rfl⟩
  obtain ⟨MS, hMS⟩ : ∃ x, x = 0 := ⟨_, rfl⟩
  rw [show xb_am l D A σ 2 0 0 = xb_am l D A σ 2 MC MS by rw [hMC, hMS]]
  obtain ⟨h0, hh0⟩ : ∃ x, x = h := ⟨_, rfl⟩
  rw [show xb_am l D A σ 2 MC MS h = xb_am l D A σ 2 MC MS h0 by rw [hh0]]
  intro p e s m args below meth c hC H locs ls k n hE hl hR hS hk hn
  obtain ⟨hx, hb, hown, hlocks, htab, hml, hr, hB, hA, hnm⟩ := id hC
  have hts := hB.1.1.at args
  refine lv_lload_n hx hb (xb_d D_Whole_zerosAbove 0 rfl) rfl (lv_at hl 0 rfl) ?_
  refine lv_lstore_n hx hb (xb_d D_Whole_zerosAbove 1 rfl) rfl hl (by decide) rfl (fun ls hl => ?_)
  have hl : lv_has ls 6 [(2, .long x0), (0, .long x0)] := hl
  refine lv_iconst (v := 0) hx hb (xb_d D_Whole_zerosAbove 2 rfl) (by decide) ?_
  refine lv_istore hx hb (xb_d D_Whole_zerosAbove 3 rfl) hl (by decide) rfl (fun ls hl => ?_)
  have hl : lv_has ls 6 [(4, .int 0), (2, .long x0), (0, .long x0)] := hl
  refine lv_bipush (v := 32) hx hb (xb_d D_Whole_zerosAbove 4 rfl) (by decide) ?_
  refine lv_istore hx hb (xb_d D_Whole_zerosAbove 5 rfl) hl (by decide) rfl (fun ls hl => ?_)
  have hl : lv_has ls 6 [(5, .int 32), (4, .int 0), (2, .long x0), (0, .long x0)] := hl
  obtain ⟨n8, hw⟩ := hw
  exact am_Whole_zerosAbove_L9 l hfl D A σ MC MS h0 Qr n8 x0 x0 0 32 h hw p e s m args below meth c hC H locs ls k n hE (lv_sub hl [3, 2, 1, 0] rfl) hR hS (by omega) (by omega)

theorem m_d8451b78 : (.fieldLink "StackHost$World" 85 "StackHost$World" "faultCode" "I" : Cond) ∈ xt_tbl := xt_in (xt_t1 (List.mem_of_getElem? (i := 182) (by decide +kernel))) (by decide +kernel)
theorem m_06a49ece : (.fieldLink "StackHost$World" 88 "StackHost$World" "faultPlace" "I" : Cond) ∈ xt_tbl := xt_in (xt_t1 (List.mem_of_getElem? (i := 184) (by decide +kernel))) (by decide +kernel)
set_option maxRecDepth 100000 in
def T_World_refuse : List (Nat × Instr × Nat) := [(0, .aload_n 0, 1), (1, .iload_n 1, 1), (2, .putfield 85, 3), (5, .aload_n 0, 1), (6, .iload_n 2, 1), (7, .putfield 88, 3), (10, .iconst (-1), 1), (11, .ireturn, 1)]
theorem D_World_refuse : ∀ q ∈ T_World_refuse, decode b_World_refuse q.1 = .ok (q.2.1, q.2.2) := by decide +kernel

set_option maxHeartbeats 4000000 in
set_option maxRecDepth 100000 in
theorem ok_World_refuse (l : Launch) (hfl : l.flags = pinnedFlags ++ [noTraceFlag]) (D : va_G) (A : Nat → Prop) (σ : Nat) (x0 : Nat) (x1 : Int32) (x2 : Int32) (h : xb_H) (Qr : Int32 → xb_H → Prop) (hw : w_World_refuse x0 x1 x2 h Qr) : xb_Met l y_World_refuse [.code y_World_refuse b_World_refuse 3 (some .int)] (xb_rm 2 0 0) (xb_Pc D A σ h [.ref x0, .int x1, .int x2]) (xb_Qc D A h 0 0 (fun v h _ _ => ∃ r, v = some (.int r) ∧ Qr r h) (fun _ _ _ _ => False)) A := by
  refine xb_ofAm (cc := b_World_refuse) (by decide) (Nat.le_of_ble_eq_true rfl) ?_
  unfold w_World_refuse at hw
  show xb_am l D A σ 2 0 0 h (fun v h _ _ => ∃ r, v = some (.int r) ∧ Qr r h) (fun _ _ _ _ => False) y_World_refuse.cls y_World_refuse.name b_World_refuse 3 ([] : List ExceptionTableEntry) (some .int) 0 [(0, .ref x0), (1, .int x1), (2, .int x2)] [] h 0 0
  obtain ⟨MC, hMC⟩ : ∃ x, x = 0 := ⟨_, rfl⟩
  obtain ⟨MS, hMS⟩ : ∃ x, x = 0 := ⟨_, rfl⟩
  rw [show xb_am l D A σ 2 0 0 = xb_am l D A σ 2 MC MS by rw [hMC, hMS]]
  obtain ⟨h0, hh0⟩ : ∃ x, x = h := ⟨_, rfl⟩
  rw [show xb_am l D A σ 2 MC MS h = xb_am l D A σ 2 MC MS h0 by rw [hh0]]
  intro p e s m args below meth c hC H locs ls k n hE hl hR hS hk hn
  obtain ⟨hx, hb, hown, hlocks, htab, hml, hr, hB, hA, hnm⟩ := id hC
  have hts := hB.1.1.at args
  refine lv_aload_n hx hb (xb_d D_World_refuse 0 rfl) rfl (lv_at hl 0 rfl) ?_
  refine lv_iload_n hx hb (xb_d D_World_refuse 1 rfl) rfl (lv_at hl 1 rfl) ?_
  obtain ⟨hk1, hw⟩ := hw
  refine xb_putI (C := R_World) (T := F_World) (N := 16) (ty := .int) (x := x1) hx hb 6 7 hts fin_World t_World t_World_ok n_World hown hR hS hk1 (by decide) rfl (by decide) rfl (hts _ m_d8451b78) (fun _ h9 => h9) rfl (by decide +kernel) rfl rfl (xb_d D_World_refuse 2 rfl) (fun H locs hR hS => ?_)
  obtain ⟨h2, eh2⟩ : ∃ x : xb_H, x = xb_I h x0 7 x1 := ⟨_, rfl⟩
  rw [← eh2] at hR
  have hw := hw h2 eh2
  have hE : xb_ext h0 h2 := by rw [eh2]; exact hE
  refine lv_aload_n hx hb (xb_d D_World_refuse 3 rfl) rfl (lv_at hl 0 rfl) ?_
  refine lv_iload_n hx hb (xb_d D_World_refuse 4 rfl) rfl (lv_at hl 2 rfl) ?_
  have hk1 : xb_k h2 x0 = 7 := by rw [eh2]; exact hk1
  refine xb_putI (C := R_World) (T := F_World) (N := 16) (ty := .int) (x := x2) hx hb 6 8 hts fin_World t_World t_World_ok n_World hown hR hS hk1 (by decide) rfl (by decide) rfl (hts _ m_06a49ece) (fun _ h9 => h9) rfl (by decide +kernel) rfl rfl (xb_d D_World_refuse 5 rfl) (fun H locs hR hS => ?_)
  obtain ⟨h3, eh3⟩ : ∃ x : xb_H, x = xb_I h2 x0 8 x2 := ⟨_, rfl⟩
  rw [← eh3] at hR
  have hw := hw h3 eh3
  have hE : xb_ext h0 h3 := by rw [eh3]; exact hE
  refine lv_iconst (v := (-1)) hx hb (xb_d D_World_refuse 6 rfl) (by decide) ?_
  exact xb_iret 0 0 hx hb hr hlocks (show k + 0 ≤ MC by omega) (show n + 0 ≤ MS by omega) hE hR hS (xb_d D_World_refuse 7 rfl) hw

theorem m_fb5d2326 : (.fieldLink "StackHost$World" 32 "StackHost$World" "words" "LStackHost$Row;" : Cond) ∈ xt_tbl := xt_in (xt_t1 (List.mem_of_getElem? (i := 178) (by decide +kernel))) (by decide +kernel)
theorem m_98336b3d : (.fieldLink "StackHost$World" 91 "StackHost$Row" "size" "I" : Cond) ∈ xt_tbl := xt_in (xt_t1 (List.mem_of_getElem? (i := 153) (by decide +kernel))) (by decide +kernel)
set_option maxRecDepth 100000 in
def T_World_usedPages : List (Nat × Instr × Nat) := [(0, .aload_n 0, 1), (1, .getfield 32, 3), (4, .getfield 91, 3), (7, .sipush 8192, 3), (10, .idiv, 1), (11, .ireturn, 1)]
theorem D_World_usedPages : ∀ q ∈ T_World_usedPages, decode b_World_usedPages q.1 = .ok (q.2.1, q.2.2) := by decide +kernel

set_option maxHeartbeats 4000000 in
set_option maxRecDepth 100000 in
theorem ok_World_usedPages (l : Launch) (hfl : l.flags = pinnedFlags ++ [noTraceFlag]) (D : va_G) (A : Nat → Prop) (σ : Nat) (x0 : Nat) (h : xb_H) (Qr : Int32 → xb_H → Prop) (hw : w_World_usedPages x0 h Qr) : xb_Met l y_World_usedPages [.code y_World_usedPages b_World_usedPages 1 (some .int)] (xb_rm 2 0 0) (xb_Pc D A σ h [.ref x0]) (xb_Qc D A h 0 0 (fun v h _ _ => ∃ r, v = some (.int r) ∧ Qr r h) (fun _ _ _ _ => False)) A := by
  refine xb_ofAm (cc := b_World_usedPages) (by decide) (Nat.le_of_ble_eq_true rfl) ?_
  unfold w_World_usedPages at hw
  show xb_am l D A σ 2 0 0 h (fun v h _ _ => ∃ r, v = some (.int r) ∧ Qr r h) (fun _ _ _ _ => False) y_World_usedPages.cls y_World_usedPages.name b_World_usedPages 1 ([] : List ExceptionTableEntry) (some .int) 0 [(0, .ref x0)] [] h 0 0
  obtain ⟨MC, hMC⟩ : ∃ x, x = 0 := ⟨_, rfl⟩
  obtain ⟨MS, hMS⟩ : ∃ x, x = 0 := ⟨_, rfl⟩
  rw [show xb_am l D A σ 2 0 0 = xb_am l D A σ 2 MC MS by rw [hMC, hMS]]
  obtain ⟨h0, hh0⟩ : ∃ x, x = h := ⟨_, rfl⟩
  rw [show xb_am l D A σ 2 MC MS h = xb_am l D A σ 2 MC MS h0 by rw [hh0]]
  intro p e s m args below meth c hC H locs ls k n hE hl hR hS hk hn
  obtain ⟨hx, hb, hown, hlocks, htab, hml, hr, hB, hA, hnm⟩ := id hC
  have hts := hB.1.1.at args
  refine lv_aload_n hx hb (xb_d D_World_usedPages 0 rfl) rfl (lv_at hl 0 rfl) ?_
  obtain ⟨hk1, hw⟩ := hw
  refine xb_getP (C := R_World) (T := F_World) (N := 16) hx hb 6 5 hts fin_World hown hR hk1 (by decide) rfl (by decide) rfl (hts _ m_fb5d2326) (fun _ h9 => h9) (xb_d D_World_usedPages 1 rfl) ?_
  obtain ⟨b2, eb2, hw⟩ := hw
  refine xb_some eb2 ?_
  obtain ⟨hk3, hw⟩ := hw
  refine xb_getI (C := R_Row) (T := F_Row) (N := 3) hx hb 1 1 hts fin_Row hown hR hk3 (by decide) rfl (by decide) rfl (hts _ m_98336b3d) (fun _ h9 => h9) (xb_d D_World_usedPages 2 rfl) ?_
  refine lv_sipush (v := 8192) hx hb (xb_d D_World_usedPages 3 rfl) (by decide) ?_
  refine lv_idiv hx hb (xb_d D_World_usedPages 4 rfl) (by decide) ?_
  exact xb_iret 0 0 hx hb hr hlocks (show k + 0 ≤ MC by omega) (show n + 0 ≤ MS by omega) hE hR hS (xb_d D_World_usedPages 5 rfl) hw

set_option maxRecDepth 100000 in
def T_M_accessBytes : List (Nat × Instr × Nat) := [(0, .iload_n 0, 1), (1, .tableswitch 114 40 62 #[110, 107, 110, 107, 114, 114, 112, 112, 114, 114, 112, 112, 110, 110, 110, 107, 110, 107, 114, 112, 114, 112, 110], 107), (108, .bipush 8, 2), (110, .ireturn, 1), (111, .iconst 4, 1), (112, .ireturn, 1), (113, .iconst 2, 1), (114, .ireturn, 1), (115, .iconst 1, 1), (116, .ireturn, 1)]
theorem D_M_accessBytes : ∀ q ∈ T_M_accessBytes, decode b_M_accessBytes q.1 = .ok (q.2.1, q.2.2) := by decide +kernel

set_option maxHeartbeats 4000000 in
set_option maxRecDepth 100000 in
theorem am_M_accessBytes_L115 (l : Launch) (hfl : l.flags = pinnedFlags ++ [noTraceFlag]) (D : va_G) (A : Nat → Prop) (σ MC MS : Nat) (h0 : xb_H) (Qr : Int32 → xb_H → Prop) (h : xb_H) (hw : w_M_accessBytes_L115 Qr h) : xb_am l D A σ 2 MC MS h0 (fun v h _ _ => ∃ r, v = some (.int r) ∧ Qr r h) (fun _ _ _ _ => False) y_M_accessBytes.cls y_M_accessBytes.name b_M_accessBytes 1 ([] : List ExceptionTableEntry) (some .int) 115 [] [] h 0 0 := by
  unfold w_M_accessBytes_L115 at hw
  intro p e s m args below meth c hC H locs ls k n hE hl hR hS hk hn
  obtain ⟨hx, hb, hown, hlocks, htab, hml, hr, hB, hA, hnm⟩ := id hC
  have hts := hB.1.1.at args
  refine lv_iconst (v := 1) hx hb (xb_d D_M_accessBytes 8 rfl) (by decide) ?_
  exact xb_iret 0 0 hx hb hr hlocks (show k + 0 ≤ MC by omega) (show n + 0 ≤ MS by omega) hE hR hS (xb_d D_M_accessBytes 9 rfl) hw

set_option maxHeartbeats 4000000 in
set_option maxRecDepth 100000 in
theorem am_M_accessBytes_L113 (l : Launch) (hfl : l.flags = pinnedFlags ++ [noTraceFlag]) (D : va_G) (A : Nat → Prop) (σ MC MS : Nat) (h0 : xb_H) (Qr : Int32 → xb_H → Prop) (h : xb_H) (hw : w_M_accessBytes_L113 Qr h) : xb_am l D A σ 2 MC MS h0 (fun v h _ _ => ∃ r, v = some (.int r) ∧ Qr r h) (fun _ _ _ _ => False) y_M_accessBytes.cls y_M_accessBytes.name b_M_accessBytes 1 ([] : List ExceptionTableEntry) (some .int) 113 [] [] h 0 0 := by
  unfold w_M_accessBytes_L113 at hw
  intro p e s m args below meth c hC H locs ls k n hE hl hR hS hk hn
  obtain ⟨hx, hb, hown, hlocks, htab, hml, hr, hB, hA, hnm⟩ := id hC
  have hts := hB.1.1.at args
  refine lv_iconst (v := 2) hx hb (xb_d D_M_accessBytes 6 rfl) (by decide) ?_
  exact xb_iret 0 0 hx hb hr hlocks (show k + 0 ≤ MC by omega) (show n + 0 ≤ MS by omega) hE hR hS (xb_d D_M_accessBytes 7 rfl) hw

set_option maxHeartbeats 4000000 in
set_option maxRecDepth 100000 in
theorem am_M_accessBytes_L111 (l : Launch) (hfl : l.flags = pinnedFlags ++ [noTraceFlag]) (D : va_G) (A : Nat → Prop) (σ MC MS : Nat) (h0 : xb_H) (Qr : Int32 → xb_H → Prop) (h : xb_H) (hw : w_M_accessBytes_L111 Qr h) : xb_am l D A σ 2 MC MS h0 (fun v h _ _ => ∃ r, v = some (.int r) ∧ Qr r h) (fun _ _ _ _ => False) y_M_accessBytes.cls y_M_accessBytes.name b_M_accessBytes 1 ([] : List ExceptionTableEntry) (some .int) 111 [] [] h 0 0 := by
  unfold w_M_accessBytes_L111 at hw
  intro p e s m args below meth c hC H locs ls k n hE hl hR hS hk hn
  obtain ⟨hx, hb, hown, hlocks, htab, hml, hr, hB, hA, hnm⟩ := id hC
  have hts := hB.1.1.at args
  refine lv_iconst (v := 4) hx hb (xb_d D_M_accessBytes 4 rfl) (by decide) ?_
  exact xb_iret 0 0 hx hb hr hlocks (show k + 0 ≤ MC by omega) (show n + 0 ≤ MS by omega) hE hR hS (xb_d D_M_accessBytes 5 rfl) hw

set_option maxHeartbeats 4000000 in
set_option maxRecDepth 100000 in
theorem am_M_accessBytes_L108 (l : Launch) (hfl : l.flags = pinnedFlags ++ [noTraceFlag]) (D : va_G) (A : Nat → Prop) (σ MC MS : Nat) (h0 : xb_H) (Qr : Int32 → xb_H → Prop) (h : xb_H) (hw : w_M_accessBytes_L108 Qr h) : xb_am l D A σ 2 MC MS h0 (fun v h _ _ => ∃ r, v = some (.int r) ∧ Qr r h) (fun _ _ _ _ => False) y_M_accessBytes.cls y_M_accessBytes.name b_M_accessBytes 1 ([] : List ExceptionTableEntry) (some .int) 108 [] [] h 0 0 := by
  unfold w_M_accessBytes_L108 at hw
  intro p e s m args below meth c hC H locs ls k n hE hl hR hS hk hn
  obtain ⟨hx, hb, hown, hlocks, htab, hml, hr, hB, hA, hnm⟩ := id hC
  have hts := hB.1.1.at args
  refine lv_bipush (v := 8) hx hb (xb_d D_M_accessBytes 2 rfl) (by decide) ?_
  exact xb_iret 0 0 hx hb hr hlocks (show k + 0 ≤ MC by omega) (show n + 0 ≤ MS by omega) hE hR hS (xb_d D_M_accessBytes 3 rfl) hw

set_option maxHeartbeats 4000000 in
set_option maxRecDepth 100000 in
theorem ok_M_accessBytes (l : Launch) (hfl : l.flags = pinnedFlags ++ [noTraceFlag]) (D : va_G) (A : Nat → Prop) (σ : Nat) (x0 : Int32) (h : xb_H) (Qr : Int32 → xb_H → Prop) (hw : w_M_accessBytes x0 h Qr) : xb_Met l y_M_accessBytes [.code y_M_accessBytes b_M_accessBytes 1 (some .int)] (xb_rm 2 0 0) (xb_Pc D A σ h [.int x0]) (xb_Qc D A h 0 0 (fun v h _ _ => ∃ r, v = some (.int r) ∧ Qr r h) (fun _ _ _ _ => False)) A := by
  refine xb_ofAm (cc := b_M_accessBytes) (by decide) (Nat.le_of_ble_eq_true rfl) ?_
  unfold w_M_accessBytes at hw
  show xb_am l D A σ 2 0 0 h (fun v h _ _ => ∃ r, v = some (.int r) ∧ Qr r h) (fun _ _ _ _ => False) y_M_accessBytes.cls y_M_accessBytes.name b_M_accessBytes 1 ([] : List ExceptionTableEntry) (some .int) 0 [(0, .int x0)] [] h 0 0
  obtain ⟨MC, hMC⟩ : ∃ x, x = 0 := ⟨_, rfl⟩
  obtain ⟨MS, hMS⟩ : ∃ x, x = 0 := ⟨_, rfl⟩
  rw [show xb_am l D A σ 2 0 0 = xb_am l D A σ 2 MC MS by rw [hMC, hMS]]
  obtain ⟨h0, hh0⟩ : ∃ x, x = h := ⟨_, rfl⟩
  rw [show xb_am l D A σ 2 MC MS h = xb_am l D A σ 2 MC MS h0 by rw [hh0]]
  intro p e s m args below meth c hC H locs ls k n hE hl hR hS hk hn
  obtain ⟨hx, hb, hown, hlocks, htab, hml, hr, hB, hA, hnm⟩ := id hC
  have hts := hB.1.1.at args
  refine lv_iload_n hx hb (xb_d D_M_accessBytes 0 rfl) rfl (lv_at hl 0 rfl) ?_
  by_cases hc1 : x0 = 40
  · have hw := hw.1 hc1
    refine xt_numi hc1 ?_
    refine lv_tableIn (off := 110) (tgt := 111) hx hb (xb_d D_M_accessBytes 1 rfl) (by decide +kernel) (by decide +kernel) (by decide +kernel) (by decide) ?_
    exact am_M_accessBytes_L111 l hfl D A σ MC MS h0 Qr h hw p e s m args below meth c hC H locs ls k n hE (lv_sub hl [] rfl) hR hS (by omega) (by omega)
  have hw := hw.2
  by_cases hc2 : x0 = 41
  · have hw := hw.1 hc2
    refine xt_numi hc2 ?_
    refine lv_tableIn (off := 107) (tgt := 108) hx hb (xb_d D_M_accessBytes 1 rfl) (by decide +kernel) (by decide +kernel) (by decide +kernel) (by decide) ?_
    exact am_M_accessBytes_L108 l hfl D A σ MC MS h0 Qr h hw p e s m args below meth c hC H locs ls k n hE (lv_sub hl [] rfl) hR hS (by omega) (by omega)
  have hw := hw.2
  by_cases hc3 : x0 = 42
  · have hw := hw.1 hc3
    refine xt_numi hc3 ?_
    refine lv_tableIn (off := 110) (tgt := 111) hx hb (xb_d D_M_accessBytes 1 rfl) (by decide +kernel) (by decide +kernel) (by decide +kernel) (by decide) ?_
    exact am_M_accessBytes_L111 l hfl D A σ MC MS h0 Qr h hw p e s m args below meth c hC H locs ls k n hE (lv_sub hl [] rfl) hR hS (by omega) (by omega)
  have hw := hw.2
  by_cases hc4 : x0 = 43
  · have hw := hw.1 hc4
    refine xt_numi hc4 ?_
    refine lv_tableIn (off := 107) (tgt := 108) hx hb (xb_d D_M_accessBytes 1 rfl) (by decide +kernel) (by decide +kernel) (by decide +kernel) (by decide) ?_
    exact am_M_accessBytes_L108 l hfl D A σ MC MS h0 Qr h hw p e s m args below meth c hC H locs ls k n hE (lv_sub hl [] rfl) hR hS (by omega) (by omega)
  have hw := hw.2
  by_cases hc5 : x0 = 44
  · have hw := hw.1 hc5
    refine xt_numi hc5 ?_
    refine lv_tableIn (off := 114) (tgt := 115) hx hb (xb_d D_M_accessBytes 1 rfl) (by decide +kernel) (by decide +kernel) (by decide +kernel) (by decide) ?_
    exact am_M_accessBytes_L115 l hfl D A σ MC MS h0 Qr h hw p e s m args below meth c hC H locs ls k n hE (lv_sub hl [] rfl) hR hS (by omega) (by omega)
  have hw := hw.2
  by_cases hc6 : x0 = 45
  · have hw := hw.1 hc6
    refine xt_numi hc6 ?_
    refine lv_tableIn (off := 114) (tgt := 115) hx hb (xb_d D_M_accessBytes 1 rfl) (by decide +kernel) (by decide +kernel) (by decide +kernel) (by decide) ?_
    exact am_M_accessBytes_L115 l hfl D A σ MC MS h0 Qr h hw p e s m args below meth c hC H locs ls k n hE (lv_sub hl [] rfl) hR hS (by omega) (by omega)
  have hw := hw.2
  by_cases hc7 : x0 = 46
  · have hw := hw.1 hc7
    refine xt_numi hc7 ?_
    refine lv_tableIn (off := 112) (tgt := 113) hx hb (xb_d D_M_accessBytes 1 rfl) (by decide +kernel) (by decide +kernel) (by decide +kernel) (by decide) ?_
    exact am_M_accessBytes_L113 l hfl D A σ MC MS h0 Qr h hw p e s m args below meth c hC H locs ls k n hE (lv_sub hl [] rfl) hR hS (by omega) (by omega)
  have hw := hw.2
  by_cases hc8 : x0 = 47
  · have hw := hw.1 hc8
    refine xt_numi hc8 ?_
    refine lv_tableIn (off := 112) (tgt := 113) hx hb (xb_d D_M_accessBytes 1 rfl) (by decide +kernel) (by decide +kernel) (by decide +kernel) (by decide) ?_
    exact am_M_accessBytes_L113 l hfl D A σ MC MS h0 Qr h hw p e s m args below meth c hC H locs ls k n hE (lv_sub hl [] rfl) hR hS (by omega) (by omega)
  have hw := hw.2
  by_cases hc9 : x0 = 48
  · have hw := hw.1 hc9
    refine xt_numi hc9 ?_
    refine lv_tableIn (off := 114) (tgt := 115) hx hb (xb_d D_M_accessBytes 1 rfl) (by decide +kernel) (by decide +kernel) (by decide +kernel) (by decide) ?_
    exact am_M_accessBytes_L115 l hfl D A σ MC MS h0 Qr h hw p e s m args below meth c hC H locs ls k n hE (lv_sub hl [] rfl) hR hS (by omega) (by omega)
  have hw := hw.2
  by_cases hc10 : x0 = 49
  · have hw := hw.1 hc10
    refine xt_numi hc10 ?_
    refine lv_tableIn (off := 114) (tgt := 115) hx hb (xb_d D_M_accessBytes 1 rfl) (by decide +kernel) (by decide +kernel) (by decide +kernel) (by decide) ?_
    exact am_M_accessBytes_L115 l hfl D A σ MC MS h0 Qr h hw p e s m args below meth c hC H locs ls k n hE (lv_sub hl [] rfl) hR hS (by omega) (by omega)
  have hw := hw.2
  by_cases hc11 : x0 = 50
  · have hw := hw.1 hc11
    refine xt_numi hc11 ?_
    refine lv_tableIn (off := 112) (tgt := 113) hx hb (xb_d D_M_accessBytes 1 rfl) (by decide +kernel) (by decide +kernel) (by decide +kernel) (by decide) ?_
    exact am_M_accessBytes_L113 l hfl D A σ MC MS h0 Qr h hw p e s m args below meth c hC H locs ls k n hE (lv_sub hl [] rfl) hR hS (by omega) (by omega)
  have hw := hw.2
  by_cases hc12 : x0 = 51
  · have hw := hw.1 hc12
    refine xt_numi hc12 ?_
    refine lv_tableIn (off := 112) (tgt := 113) hx hb (xb_d D_M_accessBytes 1 rfl) (by decide +kernel) (by decide +kernel) (by decide +kernel) (by decide) ?_
    exact am_M_accessBytes_L113 l hfl D A σ MC MS h0 Qr h hw p e s m args below meth c hC H locs ls k n hE (lv_sub hl [] rfl) hR hS (by omega) (by omega)
  have hw := hw.2
  by_cases hc13 : x0 = 52
  · have hw := hw.1 hc13
    refine xt_numi hc13 ?_
    refine lv_tableIn (off := 110) (tgt := 111) hx hb (xb_d D_M_accessBytes 1 rfl) (by decide +kernel) (by decide +kernel) (by decide +kernel) (by decide) ?_
    exact am_M_accessBytes_L111 l hfl D A σ MC MS h0 Qr h hw p e s m args below meth c hC H locs ls k n hE (lv_sub hl [] rfl) hR hS (by omega) (by omega)
  have hw := hw.2
  by_cases hc14 : x0 = 53
  · have hw := hw.1 hc14
    refine xt_numi hc14 ?_
    refine lv_tableIn (off := 110) (tgt := 111) hx hb (xb_d D_M_accessBytes 1 rfl) (by decide +kernel) (by decide +kernel) (by decide +kernel) (by decide) ?_
    exact am_M_accessBytes_L111 l hfl D A σ MC MS h0 Qr h hw p e s m args below meth c hC H locs ls k n hE (lv_sub hl [] rfl) hR hS (by omega) (by omega)
  have hw := hw.2
  by_cases hc15 : x0 = 54
  · have hw := hw.1 hc15
    refine xt_numi hc15 ?_
    refine lv_tableIn (off := 110) (tgt := 111) hx hb (xb_d D_M_accessBytes 1 rfl) (by decide +kernel) (by decide +kernel) (by decide +kernel) (by decide) ?_
    exact am_M_accessBytes_L111 l hfl D A σ MC MS h0 Qr h hw p e s m args below meth c hC H locs ls k n hE (lv_sub hl [] rfl) hR hS (by omega) (by omega)
  have hw := hw.2
  by_cases hc16 : x0 = 55
  · have hw := hw.1 hc16
    refine xt_numi hc16 ?_
    refine lv_tableIn (off := 107) (tgt := 108) hx hb (xb_d D_M_accessBytes 1 rfl) (by decide +kernel) (by decide +kernel) (by decide +kernel) (by decide) ?_
    exact am_M_accessBytes_L108 l hfl D A σ MC MS h0 Qr h hw p e s m args below meth c hC H locs ls k n hE (lv_sub hl [] rfl) hR hS (by omega) (by omega)
  have hw := hw.2
  by_cases hc17 : x0 = 56
  · have hw := hw.1 hc17
    refine xt_numi hc17 ?_
    refine lv_tableIn (off := 110) (tgt := 111) hx hb (xb_d D_M_accessBytes 1 rfl) (by decide +kernel) (by decide +kernel) (by decide +kernel) (by decide) ?_
    exact am_M_accessBytes_L111 l hfl D A σ MC MS h0 Qr h hw p e s m args below meth c hC H locs ls k n hE (lv_sub hl [] rfl) hR hS (by omega) (by omega)
  have hw := hw.2
  by_cases hc18 : x0 = 57
  · have hw := hw.1 hc18
    refine xt_numi hc18 ?_
    refine lv_tableIn (off := 107) (tgt := 108) hx hb (xb_d D_M_accessBytes 1 rfl) (by decide +kernel) (by decide +kernel) (by decide +kernel) (by decide) ?_
    exact am_M_accessBytes_L108 l hfl D A σ MC MS h0 Qr h hw p e s m args below meth c hC H locs ls k n hE (lv_sub hl [] rfl) hR hS (by omega) (by omega)
  have hw := hw.2
  by_cases hc19 : x0 = 58
  · have hw := hw.1 hc19
    refine xt_numi hc19 ?_
    refine lv_tableIn (off := 114) (tgt := 115) hx hb (xb_d D_M_accessBytes 1 rfl) (by decide +kernel) (by decide +kernel) (by decide +kernel) (by decide) ?_
    exact am_M_accessBytes_L115 l hfl D A σ MC MS h0 Qr h hw p e s m args below meth c hC H locs ls k n hE (lv_sub hl [] rfl) hR hS (by omega) (by omega)
  have hw := hw.2
  by_cases hc20 : x0 = 59
  · have hw := hw.1 hc20
    refine xt_numi hc20 ?_
    refine lv_tableIn (off := 112) (tgt := 113) hx hb (xb_d D_M_accessBytes 1 rfl) (by decide +kernel) (by decide +kernel) (by decide +kernel) (by decide) ?_
    exact am_M_accessBytes_L113 l hfl D A σ MC MS h0 Qr h hw p e s m args below meth c hC H locs ls k n hE (lv_sub hl [] rfl) hR hS (by omega) (by omega)
  have hw := hw.2
  by_cases hc21 : x0 = 60
  · have hw := hw.1 hc21
    refine xt_numi hc21 ?_
    refine lv_tableIn (off := 114) (tgt := 115) hx hb (xb_d D_M_accessBytes 1 rfl) (by decide +kernel) (by decide +kernel) (by decide +kernel) (by decide) ?_
    exact am_M_accessBytes_L115 l hfl D A σ MC MS h0 Qr h hw p e s m args below meth c hC H locs ls k n hE (lv_sub hl [] rfl) hR hS (by omega) (by omega)
  have hw := hw.2
  by_cases hc22 : x0 = 61
  · have hw := hw.1 hc22
    refine xt_numi hc22 ?_
    refine lv_tableIn (off := 112) (tgt := 113) hx hb (xb_d D_M_accessBytes 1 rfl) (by decide +kernel) (by decide +kernel) (by decide +kernel) (by decide) ?_
    exact am_M_accessBytes_L113 l hfl D A σ MC MS h0 Qr h hw p e s m args below meth c hC H locs ls k n hE (lv_sub hl [] rfl) hR hS (by omega) (by omega)
  have hw := hw.2
  by_cases hc23 : x0 = 62
  · have hw := hw.1 hc23
    refine xt_numi hc23 ?_
    refine lv_tableIn (off := 110) (tgt := 111) hx hb (xb_d D_M_accessBytes 1 rfl) (by decide +kernel) (by decide +kernel) (by decide +kernel) (by decide) ?_
    exact am_M_accessBytes_L111 l hfl D A σ MC MS h0 Qr h hw p e s m args below meth c hC H locs ls k n hE (lv_sub hl [] rfl) hR hS (by omega) (by omega)
  have hw := hw.2
  have hw := hw hc1 hc2 hc3 hc4 hc5 hc6 hc7 hc8 hc9 hc10 hc11 hc12 hc13 hc14 hc15 hc16 hc17 hc18 hc19 hc20 hc21 hc22 hc23
  refine lv_tableOut (tgt := 115) hx hb (xb_d D_M_accessBytes 1 rfl) (by have a0 := xb_nl (40) 40 (by decide) hc1; have a1 := xb_nl (41) 41 (by decide) hc2; have a2 := xb_nl (42) 42 (by decide) hc3; have a3 := xb_nl (43) 43 (by decide) hc4; have a4 := xb_nl (44) 44 (by decide) hc5; have a5 := xb_nl (45) 45 (by decide) hc6; have a6 := xb_nl (46) 46 (by decide) hc7; have a7 := xb_nl (47) 47 (by decide) hc8; have a8 := xb_nl (48) 48 (by decide) hc9; have a9 := xb_nl (49) 49 (by decide) hc10; have a10 := xb_nl (50) 50 (by decide) hc11; have a11 := xb_nl (51) 51 (by decide) hc12; have a12 := xb_nl (52) 52 (by decide) hc13; have a13 := xb_nl (53) 53 (by decide) hc14; have a14 := xb_nl (54) 54 (by decide) hc15; have a15 := xb_nl (55) 55 (by decide) hc16; have a16 := xb_nl (56) 56 (by decide) hc17; have a17 := xb_nl (57) 57 (by decide) hc18; have a18 := xb_nl (58) 58 (by decide) hc19; have a19 := xb_nl (59) 59 (by decide) hc20; have a20 := xb_nl (60) 60 (by decide) hc21; have a21 := xb_nl (61) 61 (by decide) hc22; have a22 := xb_nl (62) 62 (by decide) hc23; omega) (by decide) ?_
  exact am_M_accessBytes_L115 l hfl D A σ MC MS h0 Qr h hw p e s m args below meth c hC H locs ls k n hE (lv_sub hl [] rfl) hR hS (by omega) (by omega)

set_option maxRecDepth 100000 in
def T_M_accessType : List (Nat × Instr × Nat) := [(0, .iload_n 0, 1), (1, .bipush 40, 2), (3, .if_icmp .eq 33, 3), (6, .iload_n 0, 1), (7, .bipush 44, 2), (9, .if_icmp .lt 9, 3), (12, .iload_n 0, 1), (13, .bipush 47, 2), (15, .if_icmp .le 21, 3), (18, .iload_n 0, 1), (19, .bipush 54, 2), (21, .if_icmp .eq 15, 3), (24, .iload_n 0, 1), (25, .bipush 58, 2), (27, .if_icmp .eq 9, 3), (30, .iload_n 0, 1), (31, .bipush 59, 2), (33, .if_icmp .ne 8, 3), (36, .bipush 127, 2), (38, .goto 39, 3), (41, .iload_n 0, 1), (42, .bipush 42, 2), (44, .if_icmp .eq 9, 3), (47, .iload_n 0, 1), (48, .bipush 56, 2), (50, .if_icmp .ne 8, 3), (53, .bipush 125, 2), (55, .goto 22, 3), (58, .iload_n 0, 1), (59, .bipush 43, 2), (61, .if_icmp .eq 9, 3), (64, .iload_n 0, 1), (65, .bipush 57, 2), (67, .if_icmp .ne 8, 3), (70, .bipush 124, 2), (72, .goto 5, 3), (75, .bipush 126, 2), (77, .ireturn, 1)]
theorem D_M_accessType : ∀ q ∈ T_M_accessType, decode b_M_accessType q.1 = .ok (q.2.1, q.2.2) := by decide +kernel

set_option maxHeartbeats 4000000 in
set_option maxRecDepth 100000 in
theorem am_M_accessType_L77 (l : Launch) (hfl : l.flags = pinnedFlags ++ [noTraceFlag]) (D : va_G) (A : Nat → Prop) (σ MC MS : Nat) (h0 : xb_H) (Qr : Int32 → xb_H → Prop) (y0 : Int32) (h : xb_H) (hw : w_M_accessType_L77 Qr y0 h) : xb_am l D A σ 2 MC MS h0 (fun v h _ _ => ∃ r, v = some (.int r) ∧ Qr r h) (fun _ _ _ _ => False) y_M_accessType.cls y_M_accessType.name b_M_accessType 1 ([] : List ExceptionTableEntry) (some .int) 77 [] [.int y0] h 0 0 := by
  unfold w_M_accessType_L77 at hw
  intro p e s m args below meth c hC H locs ls k n hE hl hR hS hk hn
  obtain ⟨hx, hb, hown, hlocks, htab, hml, hr, hB, hA, hnm⟩ := id hC
  have hts := hB.1.1.at args
  exact xb_iret 0 0 hx hb hr hlocks (show k + 0 ≤ MC by omega) (show n + 0 ≤ MS by omega) hE hR hS (xb_d D_M_accessType 37 rfl) hw

set_option maxHeartbeats 4000000 in
set_option maxRecDepth 100000 in
theorem am_M_accessType_L70 (l : Launch) (hfl : l.flags = pinnedFlags ++ [noTraceFlag]) (D : va_G) (A : Nat → Prop) (σ MC MS : Nat) (h0 : xb_H) (Qr : Int32 → xb_H → Prop) (h : xb_H) (hw : w_M_accessType_L70 Qr h) : xb_am l D A σ 2 MC MS h0 (fun v h _ _ => ∃ r, v = some (.int r) ∧ Qr r h) (fun _ _ _ _ => False) y_M_accessType.cls y_M_accessType.name b_M_accessType 1 ([] : List ExceptionTableEntry) (some .int) 70 [] [] h 0 0 := by
  unfold w_M_accessType_L70 at hw
  intro p e s m args below meth c hC H locs ls k n hE hl hR hS hk hn
  obtain ⟨hx, hb, hown, hlocks, htab, hml, hr, hB, hA, hnm⟩ := id hC
  have hts := hB.1.1.at args
  refine lv_bipush (v := 124) hx hb (xb_d D_M_accessType 34 rfl) (by decide) ?_
  refine lv_goto (tgt := 77) hx hb (xb_d D_M_accessType 35 rfl) rfl ?_
  exact am_M_accessType_L77 l hfl D A σ MC MS h0 Qr 124 h hw p e s m args below meth c hC H locs ls k n hE (lv_sub hl [] rfl) hR hS (by omega) (by omega)

set_option maxHeartbeats 4000000 in
set_option maxRecDepth 100000 in
theorem am_M_accessType_L53 (l : Launch) (hfl : l.flags = pinnedFlags ++ [noTraceFlag]) (D : va_G) (A : Nat → Prop) (σ MC MS : Nat) (h0 : xb_H) (Qr : Int32 → xb_H → Prop) (h : xb_H) (hw : w_M_accessType_L53 Qr h) : xb_am l D A σ 2 MC MS h0 (fun v h _ _ => ∃ r, v = some (.int r) ∧ Qr r h) (fun _ _ _ _ => False) y_M_accessType.cls y_M_accessType.name b_M_accessType 1 ([] : List ExceptionTableEntry) (some .int) 53 [] [] h 0 0 := by
  unfold w_M_accessType_L53 at hw
  intro p e s m args below meth c hC H locs ls k n hE hl hR hS hk hn
  obtain ⟨hx, hb, hown, hlocks, htab, hml, hr, hB, hA, hnm⟩ := id hC
  have hts := hB.1.1.at args
  refine lv_bipush (v := 125) hx hb (xb_d D_M_accessType 26 rfl) (by decide) ?_
  refine lv_goto (tgt := 77) hx hb (xb_d D_M_accessType 27 rfl) rfl ?_
  exact am_M_accessType_L77 l hfl D A σ MC MS h0 Qr 125 h hw p e s m args below meth c hC H locs ls k n hE (lv_sub hl [] rfl) hR hS (by omega) (by omega)

set_option maxHeartbeats 4000000 in
set_option maxRecDepth 100000 in
theorem am_M_accessType_L36 (l : Launch) (hfl : l.flags = pinnedFlags ++ [noTraceFlag]) (D : va_G) (A : Nat → Prop) (σ MC MS : Nat) (h0 : xb_H) (Qr : Int32 → xb_H → Prop) (h : xb_H) (hw : w_M_accessType_L36 Qr h) : xb_am l D A σ 2 MC MS h0 (fun v h _ _ => ∃ r, v = some (.int r) ∧ Qr r h) (fun _ _ _ _ => False) y_M_accessType.cls y_M_accessType.name b_M_accessType 1 ([] : List ExceptionTableEntry) (some .int) 36 [] [] h 0 0 := by
  unfold w_M_accessType_L36 at hw
  intro p e s m args below meth c hC H locs ls k n hE hl hR hS hk hn
  obtain ⟨hx, hb, hown, hlocks, htab, hml, hr, hB, hA, hnm⟩ := id hC
  have hts := hB.1.1.at args
  refine lv_bipush (v := 127) hx hb (xb_d D_M_accessType 18 rfl) (by decide) ?_
  refine lv_goto (tgt := 77) hx hb (xb_d D_M_accessType 19 rfl) rfl ?_
  exact am_M_accessType_L77 l hfl D A σ MC MS h0 Qr 127 h hw p e s m args below meth c hC H locs ls k n hE (lv_sub hl [] rfl) hR hS (by omega) (by omega)

set_option maxHeartbeats 4000000 in
set_option maxRecDepth 100000 in
theorem am_M_accessType_L18 (l : Launch) (hfl : l.flags = pinnedFlags ++ [noTraceFlag]) (D : va_G) (A : Nat → Prop) (σ MC MS : Nat) (h0 : xb_H) (Qr : Int32 → xb_H → Prop) (x0 : Int32) (h : xb_H) (hw : w_M_accessType_L18 Qr x0 h) : xb_am l D A σ 2 MC MS h0 (fun v h _ _ => ∃ r, v = some (.int r) ∧ Qr r h) (fun _ _ _ _ => False) y_M_accessType.cls y_M_accessType.name b_M_accessType 1 ([] : List ExceptionTableEntry) (some .int) 18 [(0, .int x0)] [] h 0 0 := by
  unfold w_M_accessType_L18 at hw
  intro p e s m args below meth c hC H locs ls k n hE hl hR hS hk hn
  obtain ⟨hx, hb, hown, hlocks, htab, hml, hr, hB, hA, hnm⟩ := id hC
  have hts := hB.1.1.at args
  refine lv_iload_n hx hb (xb_d D_M_accessType 9 rfl) rfl (lv_at hl 0 rfl) ?_
  refine lv_bipush (v := 54) hx hb (xb_d D_M_accessType 10 rfl) (by decide) ?_
  refine lv_icmp_eq (tgt := 36) hx hb (xb_d D_M_accessType 11 rfl) rfl (fun hc1 => ?_) (fun hc1 => ?_)
  · have hw := hw.1 hc1
    exact am_M_accessType_L36 l hfl D A σ MC MS h0 Qr h hw p e s m args below meth c hC H locs ls k n hE (lv_sub hl [] rfl) hR hS (by omega) (by omega)
  · have hw := hw.2 hc1
    refine lv_iload_n hx hb (xb_d D_M_accessType 12 rfl) rfl (lv_at hl 0 rfl) ?_
    refine lv_bipush (v := 58) hx hb (xb_d D_M_accessType 13 rfl) (by decide) ?_
    refine lv_icmp_eq (tgt := 36) hx hb (xb_d D_M_accessType 14 rfl) rfl (fun hc2 => ?_) (fun hc2 => ?_)
    · have hw := hw.1 hc2
      exact am_M_accessType_L36 l hfl D A σ MC MS h0 Qr h hw p e s m args below meth c hC H locs ls k n hE (lv_sub hl [] rfl) hR hS (by omega) (by omega)
    · have hw := hw.2 hc2
      refine lv_iload_n hx hb (xb_d D_M_accessType 15 rfl) rfl (lv_at hl 0 rfl) ?_
      refine lv_bipush (v := 59) hx hb (xb_d D_M_accessType 16 rfl) (by decide) ?_
      refine lv_icmp_ne (tgt := 41) hx hb (xb_d D_M_accessType 17 rfl) rfl (fun hc3 => ?_) (fun hc3 => ?_)
      · have hw := hw.1 hc3
        refine lv_iload_n hx hb (xb_d D_M_accessType 20 rfl) rfl (lv_at hl 0 rfl) ?_
        refine lv_bipush (v := 42) hx hb (xb_d D_M_accessType 21 rfl) (by decide) ?_
        refine lv_icmp_eq (tgt := 53) hx hb (xb_d D_M_accessType 22 rfl) rfl (fun hc4 => ?_) (fun hc4 => ?_)
        · have hw := hw.1 hc4
          exact am_M_accessType_L53 l hfl D A σ MC MS h0 Qr h hw p e s m args below meth c hC H locs ls k n hE (lv_sub hl [] rfl) hR hS (by omega) (by omega)
        · have hw := hw.2 hc4
          refine lv_iload_n hx hb (xb_d D_M_accessType 23 rfl) rfl (lv_at hl 0 rfl) ?_
          refine lv_bipush (v := 56) hx hb (xb_d D_M_accessType 24 rfl) (by decide) ?_
          refine lv_icmp_ne (tgt := 58) hx hb (xb_d D_M_accessType 25 rfl) rfl (fun hc5 => ?_) (fun hc5 => ?_)
          · have hw := hw.1 hc5
            refine lv_iload_n hx hb (xb_d D_M_accessType 28 rfl) rfl (lv_at hl 0 rfl) ?_
            refine lv_bipush (v := 43) hx hb (xb_d D_M_accessType 29 rfl) (by decide) ?_
            refine lv_icmp_eq (tgt := 70) hx hb (xb_d D_M_accessType 30 rfl) rfl (fun hc6 => ?_) (fun hc6 => ?_)
            · have hw := hw.1 hc6
              exact am_M_accessType_L70 l hfl D A σ MC MS h0 Qr h hw p e s m args below meth c hC H locs ls k n hE (lv_sub hl [] rfl) hR hS (by omega) (by omega)
            · have hw := hw.2 hc6
              refine lv_iload_n hx hb (xb_d D_M_accessType 31 rfl) rfl (lv_at hl 0 rfl) ?_
              refine lv_bipush (v := 57) hx hb (xb_d D_M_accessType 32 rfl) (by decide) ?_
              refine lv_icmp_ne (tgt := 75) hx hb (xb_d D_M_accessType 33 rfl) rfl (fun hc7 => ?_) (fun hc7 => ?_)
              · have hw := hw.1 hc7
                refine lv_bipush (v := 126) hx hb (xb_d D_M_accessType 36 rfl) (by decide) ?_
                exact am_M_accessType_L77 l hfl D A σ MC MS h0 Qr 126 h hw p e s m args below meth c hC H locs ls k n hE (lv_sub hl [] rfl) hR hS (by omega) (by omega)
              · have hw := hw.2 hc7
                exact am_M_accessType_L70 l hfl D A σ MC MS h0 Qr h hw p e s m args below meth c hC H locs ls k n hE (lv_sub hl [] rfl) hR hS (by omega) (by omega)
          · have hw := hw.2 hc5
            exact am_M_accessType_L53 l hfl D A σ MC MS h0 Qr h hw p e s m args below meth c hC H locs ls k n hE (lv_sub hl [] rfl) hR hS (by omega) (by omega)
      · have hw := hw.2 hc3
        exact am_M_accessType_L36 l hfl D A σ MC MS h0 Qr h hw p e s m args below meth c hC H locs ls k n hE (lv_sub hl [] rfl) hR hS (by omega) (by omega)

set_option maxHeartbeats 4000000 in
set_option maxRecDepth 100000 in
theorem ok_M_accessType (l : Launch) (hfl : l.flags = pinnedFlags ++ [noTraceFlag]) (D : va_G) (A : Nat → Prop) (σ : Nat) (x0 : Int32) (h : xb_H) (Qr : Int32 → xb_H → Prop) (hw : w_M_accessType x0 h Qr) : xb_Met l y_M_accessType [.code y_M_accessType b_M_accessType 1 (some .int)] (xb_rm 2 0 0) (xb_Pc D A σ h [.int x0]) (xb_Qc D A h 0 0 (fun v h _ _ => ∃ r, v = some (.int r) ∧ Qr r h) (fun _ _ _ _ => False)) A := by
  refine xb_ofAm (cc := b_M_accessType) (by decide) (Nat.le_of_ble_eq_true rfl) ?_
  unfold w_M_accessType at hw
  show xb_am l D A σ 2 0 0 h (fun v h _ _ => ∃ r, v = some (.int r) ∧ Qr r h) (fun _ _ _ _ => False) y_M_accessType.cls y_M_accessType.name b_M_accessType 1 ([] : List ExceptionTableEntry) (some .int) 0 [(0, .int x0)] [] h 0 0
  obtain ⟨MC, hMC⟩ : ∃ x, x = 0 := ⟨_, rfl⟩
  obtain ⟨MS, hMS⟩ : ∃ x, x = 0 := ⟨_, rfl⟩
  rw [show xb_am l D A σ 2 0 0 = xb_am l D A σ 2 MC MS by rw [hMC, hMS]]
  obtain ⟨h0, hh0⟩ : ∃ x, x = h := ⟨_, rfl⟩
  rw [show xb_am l D A σ 2 MC MS h = xb_am l D A σ 2 MC MS h0 by rw [hh0]]
  intro p e s m args below meth c hC H locs ls k n hE hl hR hS hk hn
  obtain ⟨hx, hb, hown, hlocks, htab, hml, hr, hB, hA, hnm⟩ := id hC
  have hts := hB.1.1.at args
  refine lv_iload_n hx hb (xb_d D_M_accessType 0 rfl) rfl (lv_at hl 0 rfl) ?_
  refine lv_bipush (v := 40) hx hb (xb_d D_M_accessType 1 rfl) (by decide) ?_
  refine lv_icmp_eq (tgt := 36) hx hb (xb_d D_M_accessType 2 rfl) rfl (fun hc1 => ?_) (fun hc1 => ?_)
  · have hw := hw.1 hc1
    exact am_M_accessType_L36 l hfl D A σ MC MS h0 Qr h hw p e s m args below meth c hC H locs ls k n hE (lv_sub hl [] rfl) hR hS (by omega) (by omega)
  · have hw := hw.2 hc1
    refine lv_iload_n hx hb (xb_d D_M_accessType 3 rfl) rfl (lv_at hl 0 rfl) ?_
    refine lv_bipush (v := 44) hx hb (xb_d D_M_accessType 4 rfl) (by decide) ?_
    refine lv_icmp_lt (tgt := 18) hx hb (xb_d D_M_accessType 5 rfl) rfl (fun hc2 => ?_) (fun hc2 => ?_)
    · have hw := hw.1 hc2
      exact am_M_accessType_L18 l hfl D A σ MC MS h0 Qr x0 h hw p e s m args below meth c hC H locs ls k n hE (lv_sub hl [0] rfl) hR hS (by omega) (by omega)
    · have hw := hw.2 hc2
      refine lv_iload_n hx hb (xb_d D_M_accessType 6 rfl) rfl (lv_at hl 0 rfl) ?_
      refine lv_bipush (v := 47) hx hb (xb_d D_M_accessType 7 rfl) (by decide) ?_
      refine lv_icmp_le (tgt := 36) hx hb (xb_d D_M_accessType 8 rfl) rfl (fun hc3 => ?_) (fun hc3 => ?_)
      · have hw := hw.1 hc3
        exact am_M_accessType_L36 l hfl D A σ MC MS h0 Qr h hw p e s m args below meth c hC H locs ls k n hE (lv_sub hl [] rfl) hR hS (by omega) (by omega)
      · have hw := hw.2 hc3
        exact am_M_accessType_L18 l hfl D A σ MC MS h0 Qr x0 h hw p e s m args below meth c hC H locs ls k n hE (lv_sub hl [0] rfl) hR hS (by omega) (by omega)

theorem m_6b215119 : (.fieldLink "StackHostModel" 157 "StackHostModel" "types" "[B" : Cond) ∈ xt_tbl := xt_in (xt_t9 (List.mem_of_getElem? (i := 214) (by decide +kernel))) (by decide +kernel)
theorem m_d6ddfcd8 : (.fieldLink "StackHostModel" 607 "StackHostModel" "top" "I" : Cond) ∈ xt_tbl := xt_in (xt_t9 (List.mem_of_getElem? (i := 215) (by decide +kernel))) (by decide +kernel)
theorem m_92d51c6a : (.constantLong "StackHostModel" 517 4294967295 : Cond) ∈ xt_tbl := xt_in (xt_t12 (List.mem_of_getElem? (i := 92) (by decide +kernel))) (by decide +kernel)
theorem m_f82105f7 : (.fieldLink "StackHostModel" 154 "StackHostModel" "values" "[J" : Cond) ∈ xt_tbl := xt_in (xt_t9 (List.mem_of_getElem? (i := 213) (by decide +kernel))) (by decide +kernel)
set_option maxRecDepth 100000 in
def T_M_add : List (Nat × Instr × Nat) := [(0, .aload_n 0, 1), (1, .getfield 154, 3), (4, .aload_n 0, 1), (5, .getfield 607, 3), (8, .iload_n 3, 1), (9, .bipush 127, 2), (11, .if_icmp .eq 9, 3), (14, .iload_n 3, 1), (15, .bipush 125, 2), (17, .if_icmp .ne 11, 3), (20, .lload_n 1, 1), (21, .ldc2_w 517, 3), (24, .land, 1), (25, .goto 4, 3), (28, .lload_n 1, 1), (29, .lastore, 1), (30, .aload_n 0, 1), (31, .getfield 157, 3), (34, .aload_n 0, 1), (35, .getfield 607, 3), (38, .iload_n 3, 1), (39, .i2b, 1), (40, .bastore, 1), (41, .aload_n 0, 1), (42, .dup, 1), (43, .getfield 607, 3), (46, .iconst 1, 1), (47, .iadd, 1), (48, .putfield 607, 3), (51, .return_, 1)]
theorem D_M_add : ∀ q ∈ T_M_add, decode b_M_add q.1 = .ok (q.2.1, q.2.2) := by decide +kernel

set_option maxHeartbeats 4000000 in
set_option maxRecDepth 100000 in
theorem am_M_add_L29 (l : Launch) (hfl : l.flags = pinnedFlags ++ [noTraceFlag]) (D : va_G) (A : Nat → Prop) (σ MC MS : Nat) (h0 : xb_H) (Qr : xb_H → Prop) (x0 : Nat) (x3 : Int32) (y0 : Int64) (y1 : Int32) (y2 : Nat) (h : xb_H) (hw : w_M_add_L29 Qr x0 x3 y0 y1 y2 h) : xb_am l D A σ 2 MC MS h0 (fun v h _ _ => v = none ∧ Qr h) (fun _ _ _ _ => False) y_M_add.cls y_M_add.name b_M_add 4 ([] : List ExceptionTableEntry) none 29 [(0, .ref x0), (3, .int x3)] [.long y0, .int y1, .ref y2] h 0 0 := by
  unfold w_M_add_L29 at hw
  intro p e s m args below meth c hC H locs ls k n hE hl hR hS hk hn
  obtain ⟨hx, hb, hown, hlocks, htab, hml, hr, hB, hA, hnm⟩ := id hC
  have hts := hB.1.1.at args
  obtain ⟨hk1, hw⟩ := hw
  obtain ⟨hi2, hw⟩ := hw
  refine xb_last hx hb hR hS hk1 hi2 (xb_d D_M_add 15 rfl) (fun H locs hR hS => ?_)
  obtain ⟨h3, eh3⟩ : ∃ x : xb_H, x = xb_L h y2 (Int32.toNatClampNeg y1) y0 := ⟨_, rfl⟩
  rw [← eh3] at hR
  have hw := hw h3 eh3
  have hE : xb_ext h0 h3 := by rw [eh3]; exact hE
  refine lv_aload_n hx hb (xb_d D_M_add 16 rfl) rfl (lv_at hl 0 rfl) ?_
  obtain ⟨hk4, hw⟩ := hw
  refine xb_getP (C := R_M) (T := F_M) (N := 97) hx hb 8 75 hts fin_M hown hR hk4 (by decide) rfl (by decide) rfl (hts _ m_6b215119) (fun _ h9 => h9) (xb_d D_M_add 17 rfl) ?_
  obtain ⟨b5, eb5, hw⟩ := hw
  refine xb_some eb5 ?_
  refine lv_aload_n hx hb (xb_d D_M_add 18 rfl) rfl (lv_at hl 0 rfl) ?_
  refine xb_getI (C := R_M) (T := F_M) (N := 97) hx hb 8 76 hts fin_M hown hR hk4 (by decide) rfl (by decide) rfl (hts _ m_d6ddfcd8) (fun _ h9 => h9) (xb_d D_M_add 19 rfl) ?_
  refine lv_iload_n hx hb (xb_d D_M_add 20 rfl) rfl (lv_at hl 1 rfl) ?_
  refine lv_i2b hx hb (xb_d D_M_add 21 rfl) rfl ?_
  obtain ⟨hk6, hw⟩ := hw
  obtain ⟨hi7, hw⟩ := hw
  refine xb_bast hx hb hR hS hk6 hi7 (xb_d D_M_add 22 rfl) (fun H locs hR hS => ?_)
  obtain ⟨h8, eh8⟩ : ∃ x : xb_H, x = xb_I h3 b5 (Int32.toNatClampNeg (xb_i h3 x0 76)) (vp_nar .byte ((Int32.toInt8 x3).toInt32)) := ⟨_, rfl⟩
  rw [← eh8] at hR
  have hw := hw h8 eh8
  have hE : xb_ext h0 h8 := by rw [eh8]; exact hE
  refine lv_aload_n hx hb (xb_d D_M_add 23 rfl) rfl (lv_at hl 0 rfl) ?_
  refine lv_dup hx hb (xb_d D_M_add 24 rfl) rfl ?_
  have hk4 : xb_k h8 x0 = 9 := by rw [eh8]; exact hk4
  refine xb_getI (C := R_M) (T := F_M) (N := 97) hx hb 8 76 hts fin_M hown hR hk4 (by decide) rfl (by decide) rfl (hts _ m_d6ddfcd8) (fun _ h9 => h9) (xb_d D_M_add 25 rfl) ?_
  refine lv_iconst (v := 1) hx hb (xb_d D_M_add 26 rfl) (by decide) ?_
  refine lv_iadd hx hb (xb_d D_M_add 27 rfl) ?_
  refine xb_putI (C := R_M) (T := F_M) (N := 97) (ty := .int) (x := ((xb_i h8 x0 76) + 1)) hx hb 8 76 hts fin_M t_M t_M_ok n_M hown hR hS hk4 (by decide) rfl (by decide) rfl (hts _ m_d6ddfcd8) (fun _ h9 => h9) rfl (by decide +kernel) rfl rfl (xb_d D_M_add 28 rfl) (fun H locs hR hS => ?_)
  obtain ⟨h9, eh9⟩ : ∃ x : xb_H, x = xb_I h8 x0 76 ((xb_i h8 x0 76) + 1) := ⟨_, rfl⟩
  rw [← eh9] at hR
  have hw := hw h9 eh9
  have hE : xb_ext h0 h9 := by rw [eh9]; exact hE
  exact xb_vret 0 0 hx hb hr hlocks (show k + 0 ≤ MC by omega) (show n + 0 ≤ MS by omega) hE hR hS (xb_d D_M_add 29 rfl) hw

set_option maxHeartbeats 4000000 in
set_option maxRecDepth 100000 in
theorem am_M_add_L20 (l : Launch) (hfl : l.flags = pinnedFlags ++ [noTraceFlag]) (D : va_G) (A : Nat → Prop) (σ MC MS : Nat) (h0 : xb_H) (Qr : xb_H → Prop) (x0 : Nat) (x1 : Int64) (x3 : Int32) (y0 : Int32) (y1 : Nat) (h : xb_H) (hw : w_M_add_L20 Qr x0 x1 x3 y0 y1 h) : xb_am l D A σ 2 MC MS h0 (fun v h _ _ => v = none ∧ Qr h) (fun _ _ _ _ => False) y_M_add.cls y_M_add.name b_M_add 4 ([] : List ExceptionTableEntry) none 20 [(0, .ref x0), (1, .long x1), (3, .int x3)] [.int y0, .ref y1] h 0 0 := by
  unfold w_M_add_L20 at hw
  intro p e s m args below meth c hC H locs ls k n hE hl hR hS hk hn
  obtain ⟨hx, hb, hown, hlocks, htab, hml, hr, hB, hA, hnm⟩ := id hC
  have hts := hB.1.1.at args
  refine lv_lload_n hx hb (xb_d D_M_add 10 rfl) rfl (lv_at hl 1 rfl) ?_
  refine lv_ldc2 (v := 4294967295) hx hb hown (hts _ m_92d51c6a) (xb_d D_M_add 11 rfl) ?_
  refine lv_land hx hb (xb_d D_M_add 12 rfl) ?_
  refine lv_goto (tgt := 29) hx hb (xb_d D_M_add 13 rfl) rfl ?_
  exact am_M_add_L29 l hfl D A σ MC MS h0 Qr x0 x3 (x1 &&& 4294967295) y0 y1 h hw p e s m args below meth c hC H locs ls k n hE (lv_sub hl [0, 2] rfl) hR hS (by omega) (by omega)

set_option maxHeartbeats 4000000 in
set_option maxRecDepth 100000 in
theorem ok_M_add (l : Launch) (hfl : l.flags = pinnedFlags ++ [noTraceFlag]) (D : va_G) (A : Nat → Prop) (σ : Nat) (x0 : Nat) (x1 : Int64) (x3 : Int32) (h : xb_H) (Qr : xb_H → Prop) (hw : w_M_add x0 x1 x3 h Qr) : xb_Met l y_M_add [.code y_M_add b_M_add 4 none] (xb_rm 2 0 0) (xb_Pc D A σ h [.ref x0, .long x1, .int x3]) (xb_Qc D A h 0 0 (fun v h _ _ => v = none ∧ Qr h) (fun _ _ _ _ => False)) A := by
  refine xb_ofAm (cc := b_M_add) (by decide) (Nat.le_of_ble_eq_true rfl) ?_
  unfold w_M_add at hw
  show xb_am l D A σ 2 0 0 h (fun v h _ _ => v = none ∧ Qr h) (fun _ _ _ _ => False) y_M_add.cls y_M_add.name b_M_add 4 ([] : List ExceptionTableEntry) none 0 [(0, .ref x0), (1, .long x1), (3, .int x3)] [] h 0 0
  obtain ⟨MC, hMC⟩ : ∃ x, x = 0 := ⟨_, rfl⟩
  obtain ⟨MS, hMS⟩ : ∃ x, x = 0 := ⟨_, rfl⟩
  rw [show xb_am l D A σ 2 0 0 = xb_am l D A σ 2 MC MS by rw [hMC, hMS]]
  obtain ⟨h0, hh0⟩ : ∃ x, x = h := ⟨_, rfl⟩
  rw [show xb_am l D A σ 2 MC MS h = xb_am l D A σ 2 MC MS h0 by rw [hh0]]
  intro p e s m args below meth c hC H locs ls k n hE hl hR hS hk hn
  obtain ⟨hx, hb, hown, hlocks, htab, hml, hr, hB, hA, hnm⟩ := id hC
  have hts := hB.1.1.at args
  refine lv_aload_n hx hb (xb_d D_M_add 0 rfl) rfl (lv_at hl 0 rfl) ?_
  obtain ⟨hk1, hw⟩ := hw
  refine xb_getP (C := R_M) (T := F_M) (N := 97) hx hb 8 74 hts fin_M hown hR hk1 (by decide) rfl (by decide) rfl (hts _ m_f82105f7) (fun _ h9 => h9) (xb_d D_M_add 1 rfl) ?_
  obtain ⟨b2, eb2, hw⟩ := hw
  refine xb_some eb2 ?_
  refine lv_aload_n hx hb (xb_d D_M_add 2 rfl) rfl (lv_at hl 0 rfl) ?_
  refine xb_getI (C := R_M) (T := F_M) (N := 97) hx hb 8 76 hts fin_M hown hR hk1 (by decide) rfl (by decide) rfl (hts _ m_d6ddfcd8) (fun _ h9 => h9) (xb_d D_M_add 3 rfl) ?_
  refine lv_iload_n hx hb (xb_d D_M_add 4 rfl) rfl (lv_at hl 2 rfl) ?_
  refine lv_bipush (v := 127) hx hb (xb_d D_M_add 5 rfl) (by decide) ?_
  refine lv_icmp_eq (tgt := 20) hx hb (xb_d D_M_add 6 rfl) rfl (fun hc3 => ?_) (fun hc3 => ?_)
  · have hw := hw.1 hc3
    exact am_M_add_L20 l hfl D A σ MC MS h0 Qr x0 x1 x3 (xb_i h x0 76) b2 h hw p e s m args below meth c hC H locs ls k n hE (lv_sub hl [0, 1, 2] rfl) hR hS (by omega) (by omega)
  · have hw := hw.2 hc3
    refine lv_iload_n hx hb (xb_d D_M_add 7 rfl) rfl (lv_at hl 2 rfl) ?_
    refine lv_bipush (v := 125) hx hb (xb_d D_M_add 8 rfl) (by decide) ?_
    refine lv_icmp_ne (tgt := 28) hx hb (xb_d D_M_add 9 rfl) rfl (fun hc4 => ?_) (fun hc4 => ?_)
    · have hw := hw.1 hc4
      refine lv_lload_n hx hb (xb_d D_M_add 14 rfl) rfl (lv_at hl 1 rfl) ?_
      exact am_M_add_L29 l hfl D A σ MC MS h0 Qr x0 x3 x1 (xb_i h x0 76) b2 h hw p e s m args below meth c hC H locs ls k n hE (lv_sub hl [0, 2] rfl) hR hS (by omega) (by omega)
    · have hw := hw.2 hc4
      exact am_M_add_L20 l hfl D A σ MC MS h0 Qr x0 x1 x3 (xb_i h x0 76) b2 h hw p e s m args below meth c hC H locs ls k n hE (lv_sub hl [0, 1, 2] rfl) hR hS (by omega) (by omega)

