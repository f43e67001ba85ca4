set_option maxHeartbeats 4000000 in
set_option maxRecDepth 100000 in
theorem c_H_feedNumber_8 (l : Launch) (D : va_G) (h0 tp kt : Nat) (f : Nat → Int32) (x : Int32) (a2 a3 a4 a5 a6 a7 a8 a9 a10 : Value) (sz : Nat) : xt_Met l y_H_feedNumber [.code y_H_feedNumber b_H_feedNumber 3 none] ({ frames := 8, cells := 0, slots := 0, locals := 120 }) (xt_P D xcl [.ref h0, .int x] [(h0, .inr (0, [.ref tp, .int 8, a2, a3, a4, a5, a6, a7, a8, a9, a10])), (tp, .inl (kt, 20, .inl f))] [(kt, .byte)] sz) (xt_Q (S := Nat → Nat) D xcl (va_A [(h0, .inr (0, [.ref tp, .int 8, a2, a3, a4, a5, a6, a7, a8, a9, a10])), (tp, .inl (kt, 20, .inl f))] sz) (fun v _ => v = none) (fun _ _ => False) (fun u => [(h0, .inr (0, [.ref tp, .int 12, a2, a3, a4, a5, a6, a7, a8, a9, a10])), (tp, .inl (kt, 20, .inl (upd (upd (upd (upd f (8 : Int32).toNatClampNeg (vp_nar .byte (((x : Int32).toUInt32 >>> ((24 : Int32).toUInt32 &&& Int32.toUInt32 31)).toInt32 : Int32).toInt8.toInt32)) (9 : Int32).toNatClampNeg (vp_nar .byte (((x : Int32).toUInt32 >>> ((16 : Int32).toUInt32 &&& Int32.toUInt32 31)).toInt32 : Int32).toInt8.toInt32)) (10 : Int32).toNatClampNeg (vp_nar .byte (((x : Int32).toUInt32 >>> ((8 : Int32).toUInt32 &&& Int32.toUInt32 31)).toInt32 : Int32).toInt8.toInt32)) (11 : Int32).toNatClampNeg (vp_nar .byte (((x : Int32).toUInt32 >>> ((0 : Int32).toUInt32 &&& Int32.toUInt32 31)).toInt32 : Int32).toInt8.toInt32))))]) (fun u => [(kt, .byte)])) 0 0 (va_A [(h0, .inr (0, [.ref tp, .int 8, a2, a3, a4, a5, a6, a7, a8, a9, a10])), (tp, .inl (kt, 20, .inl f))] sz) := by
  refine xt_ofW (cc := b_H_feedNumber) (maxL := 3) (ret := none) (by decide) (List.mem_singleton.mpr rfl) ?_
  intro p e s m args below meth c s₁ B hml htab hv
  obtain ⟨rfl, hsz, hB, hP, hK, hD0⟩ := hv
  subst hsz
  have hx := B.exec
  have hb := B.bytes
  have hr := B.returns
  have hts := hB.1.at ([.ref h0, .int x] : List Value).toArray
  have hown : s.vm.findClass "StackHost" = some m.cls := findClass_of_methodNamed B.named
  have hlocks := B.notSynchronized
  have hD := hD0.self (sz := s.heap.size)
  generalize hAe : va_A [(h0, .inr (0, [.ref tp, .int 8, a2, a3, a4, a5, a6, a7, a8, a9, a10])), (tp, .inl (kt, 20, .inl f))] s.heap.size = A at hB hD ⊢
  have hA : ∀ q : Nat, s.heap.size ≤ q → A q := fun q h => by rw [← hAe]; exact Or.inr h
  have hS : va_S A s.heap s.heap [] := va_S.rf
  have hl := lv_entry ([.ref h0, .int x]) (n := 3) (Nat.le_of_ble_eq_true rfl)
  rw [lg_entry_eq]
  generalize (lg_sl ([.ref h0, .int x]) ++ List.replicate (3 - (lg_sl ([.ref h0, .int x])).length) Slot.unset).toArray = ls at hl ⊢
  have hl : lv_has ls 3 [(0, .ref h0), (1, .int x)] := hl
  refine lv_bipush (v := 24) hx hb d_H_feedNumber_0 (by decide) ?_
  refine lv_istore_n hx hb d_H_feedNumber_2 rfl hl (by decide) rfl (fun ls hl => ?_)
  have hl : lv_has ls 3 [(2, .int 24), (0, .ref h0), (1, .int x)] := hl
  refine lv_iload_n hx hb d_H_feedNumber_3 rfl (lv_at hl 0 rfl) ?_
  refine lv_if_lt (tgt := 36) hx hb d_H_feedNumber_4 rfl (fun h9 => absurd h9 (by decide)) (fun _ => ?_)
  refine lv_aload_n hx hb d_H_feedNumber_7 rfl (lv_at hl 1 rfl) ?_
  refine va_get (D := D) (ci := 0) (v := .ref tp) (C := R_H) (T := F_H) (N := 11) hx hb hts fin_H hown hK hP 0 rfl rfl 0 (by decide) (hts _ m_4570233e) (fun _ h9 => h9) rfl d_H_feedNumber_8 ?_
  refine lv_aload_n hx hb d_H_feedNumber_11 rfl (lv_at hl 1 rfl) ?_
  refine va_get (D := D) (ci := 0) (v := .int 8) (C := R_H) (T := F_H) (N := 11) hx hb hts fin_H hown hK hP 0 rfl rfl 1 (by decide) (hts _ m_1ee8d2b8) (fun _ h9 => h9) rfl d_H_feedNumber_12 ?_
  refine lv_iload_n hx hb d_H_feedNumber_15 rfl (lv_at hl 2 rfl) ?_
  refine lv_iload_n hx hb d_H_feedNumber_16 rfl (lv_at hl 0 rfl) ?_
  refine lv_iushr hx hb d_H_feedNumber_17 rfl ?_
  refine lv_i2b hx hb d_H_feedNumber_18 rfl ?_
  refine va_bast (i := 8) (x := (((x : Int32).toUInt32 >>> ((24 : Int32).toUInt32 &&& Int32.toUInt32 31)).toInt32 : Int32).toInt8.toInt32) hx hb hK hP hD hS 1 0 rfl rfl (xt_vin (by decide +kernel)) d_H_feedNumber_19 (fun H locs hP hD hS => ?_)
  have hP : va_P D xcl [(h0, .inr (0, [.ref tp, .int 8, a2, a3, a4, a5, a6, a7, a8, a9, a10])), (tp, .inl (kt, 20, .inl (upd f (8 : Int32).toNatClampNeg (vp_nar .byte (((x : Int32).toUInt32 >>> ((24 : Int32).toUInt32 &&& Int32.toUInt32 31)).toInt32 : Int32).toInt8.toInt32))))] H := hP
  have hD : va_D A [(h0, .inr (0, [.ref tp, .int 8, a2, a3, a4, a5, a6, a7, a8, a9, a10])), (tp, .inl (kt, 20, .inl (upd f (8 : Int32).toNatClampNeg (vp_nar .byte (((x : Int32).toUInt32 >>> ((24 : Int32).toUInt32 &&& Int32.toUInt32 31)).toInt32 : Int32).toInt8.toInt32))))] := hD
  refine lv_aload_n hx hb d_H_feedNumber_20 rfl (lv_at hl 1 rfl) ?_
  refine lv_dup hx hb d_H_feedNumber_21 rfl ?_
  refine va_get (D := D) (ci := 0) (v := .int 8) (C := R_H) (T := F_H) (N := 11) hx hb hts fin_H hown hK hP 0 rfl rfl 1 (by decide) (hts _ m_1ee8d2b8) (fun _ h9 => h9) rfl d_H_feedNumber_22 ?_
  refine lv_iconst (v := 1) hx hb d_H_feedNumber_25 (by decide) ?_
  refine lv_iadd hx hb d_H_feedNumber_26 ?_
  refine xt_numi (y := 9) (by decide) ?_
  refine va_put (D := D) (ci := 0) (v := .int 9) (ty := .int) (C := R_H) (T := F_H) (N := 11) hx hb hts fin_H t_H t_H_ok n_H hown hK hP hD hS 0 rfl rfl 1 (by decide) (hts _ m_1ee8d2b8) (fun _ h9 => h9) rfl (by decide +kernel) (by first | rfl | decide) (by first | rfl | decide) (Nat.le_of_ble_eq_true rfl) d_H_feedNumber_27 (fun H locs hP hD hS => ?_)
  have hP : va_P D xcl [(h0, .inr (0, [.ref tp, .int 9, a2, a3, a4, a5, a6, a7, a8, a9, a10])), (tp, .inl (kt, 20, .inl (upd f (8 : Int32).toNatClampNeg (vp_nar .byte (((x : Int32).toUInt32 >>> ((24 : Int32).toUInt32 &&& Int32.toUInt32 31)).toInt32 : Int32).toInt8.toInt32))))] H := hP
  have hD : va_D A [(h0, .inr (0, [.ref tp, .int 9, a2, a3, a4, a5, a6, a7, a8, a9, a10])), (tp, .inl (kt, 20, .inl (upd f (8 : Int32).toNatClampNeg (vp_nar .byte (((x : Int32).toUInt32 >>> ((24 : Int32).toUInt32 &&& Int32.toUInt32 31)).toInt32 : Int32).toInt8.toInt32))))] := hD
  refine lv_iinc (v := 16) (k := 0) hx hb d_H_feedNumber_30 hl rfl (by first | decide | rfl) (by decide) rfl (fun ls hl => ?_)
  have hl : lv_has ls 3 [(2, .int 16), (0, .ref h0), (1, .int x)] := hl
  refine lv_goto (tgt := 3) hx hb d_H_feedNumber_33 rfl ?_
  refine lv_iload_n hx hb d_H_feedNumber_3 rfl (lv_at hl 0 rfl) ?_
  refine lv_if_lt (tgt := 36) hx hb d_H_feedNumber_4 rfl (fun h9 => absurd h9 (by decide)) (fun _ => ?_)
  refine lv_aload_n hx hb d_H_feedNumber_7 rfl (lv_at hl 1 rfl) ?_
  refine va_get (D := D) (ci := 0) (v := .ref tp) (C := R_H) (T := F_H) (N := 11) hx hb hts fin_H hown hK hP 0 rfl rfl 0 (by decide) (hts _ m_4570233e) (fun _ h9 => h9) rfl d_H_feedNumber_8 ?_
  refine lv_aload_n hx hb d_H_feedNumber_11 rfl (lv_at hl 1 rfl) ?_
  refine va_get (D := D) (ci := 0) (v := .int 9) (C := R_H) (T := F_H) (N := 11) hx hb hts fin_H hown hK hP 0 rfl rfl 1 (by decide) (hts _ m_1ee8d2b8) (fun _ h9 => h9) rfl d_H_feedNumber_12 ?_
  refine lv_iload_n hx hb d_H_feedNumber_15 rfl (lv_at hl 2 rfl) ?_
  refine lv_iload_n hx hb d_H_feedNumber_16 rfl (lv_at hl 0 rfl) ?_
  refine lv_iushr hx hb d_H_feedNumber_17 rfl ?_
  refine lv_i2b hx hb d_H_feedNumber_18 rfl ?_
  refine va_bast (i := 9) (x := (((x : Int32).toUInt32 >>> ((16 : Int32).toUInt32 &&& Int32.toUInt32 31)).toInt32 : Int32).toInt8.toInt32) hx hb hK hP hD hS 1 0 rfl rfl (xt_vin (by decide +kernel)) d_H_feedNumber_19 (fun H locs hP hD hS => ?_)
  have hP : va_P D xcl [(h0, .inr (0, [.ref tp, .int 9, a2, a3, a4, a5, a6, a7, a8, a9, a10])), (tp, .inl (kt, 20, .inl (upd (upd f (8 : Int32).toNatClampNeg (vp_nar .byte (((x : Int32).toUInt32 >>> ((24 : Int32).toUInt32 &&& Int32.toUInt32 31)).toInt32 : Int32).toInt8.toInt32)) (9 : Int32).toNatClampNeg (vp_nar .byte (((x : Int32).toUInt32 >>> ((16 : Int32).toUInt32 &&& Int32.toUInt32 31)).toInt32 : Int32).toInt8.toInt32))))] H := hP
  have hD : va_D A [(h0, .inr (0, [.ref tp, .int 9, a2, a3, a4, a5, a6, a7, a8, a9, a10])), (tp, .inl (kt, 20, .inl (upd (upd f (8 : Int32).toNatClampNeg (vp_nar .byte (((x : Int32).toUInt32 >>> ((24 : Int32).toUInt32 &&& Int32.toUInt32 31)).toInt32 : Int32).toInt8.toInt32)) (9 : Int32).toNatClampNeg (vp_nar .byte (((x : Int32).toUInt32 >>> ((16 : Int32).toUInt32 &&& Int32.toUInt32 31)).toInt32 : Int32).toInt8.toInt32))))] := hD
  refine lv_aload_n hx hb d_H_feedNumber_20 rfl (lv_at hl 1 rfl) ?_
  refine lv_dup hx hb d_H_feedNumber_21 rfl ?_
  refine va_get (D := D) (ci := 0) (v := .int 9) (C := R_H) (T := F_H) (N := 11) hx hb hts fin_H hown hK hP 0 rfl rfl 1 (by decide) (hts _ m_1ee8d2b8) (fun _ h9 => h9) rfl d_H_feedNumber_22 ?_
  refine lv_iconst (v := 1) hx hb d_H_feedNumber_25 (by decide) ?_
  refine lv_iadd hx hb d_H_feedNumber_26 ?_
  refine xt_numi (y := 10) (by decide) ?_
  refine va_put (D := D) (ci := 0) (v := .int 10) (ty := .int) (C := R_H) (T := F_H) (N := 11) hx hb hts fin_H t_H t_H_ok n_H hown hK hP hD hS 0 rfl rfl 1 (by decide) (hts _ m_1ee8d2b8) (fun _ h9 => h9) rfl (by decide +kernel) (by first | rfl | decide) (by first | rfl | decide) (Nat.le_of_ble_eq_true rfl) d_H_feedNumber_27 (fun H locs hP hD hS => ?_)
  have hP : va_P D xcl [(h0, .inr (0, [.ref tp, .int 10, a2, a3, a4, a5, a6, a7, a8, a9, a10])), (tp, .inl (kt, 20, .inl (upd (upd f (8 : Int32).toNatClampNeg (vp_nar .byte (((x : Int32).toUInt32 >>> ((24 : Int32).toUInt32 &&& Int32.toUInt32 31)).toInt32 : Int32).toInt8.toInt32)) (9 : Int32).toNatClampNeg (vp_nar .byte (((x : Int32).toUInt32 >>> ((16 : Int32).toUInt32 &&& Int32.toUInt32 31)).toInt32 : Int32).toInt8.toInt32))))] H := hP
  have hD : va_D A [(h0, .inr (0, [.ref tp, .int 10, a2, a3, a4, a5, a6, a7, a8, a9, a10])), (tp, .inl (kt, 20, .inl (upd (upd f (8 : Int32).toNatClampNeg (vp_nar .byte (((x : Int32).toUInt32 >>> ((24 : Int32).toUInt32 &&& Int32.toUInt32 31)).toInt32 : Int32).toInt8.toInt32)) (9 : Int32).toNatClampNeg (vp_nar .byte (((x : Int32).toUInt32 >>> ((16 : Int32).toUInt32 &&& Int32.toUInt32 31)).toInt32 : Int32).toInt8.toInt32))))] := hD
  refine lv_iinc (v := 8) (k := 0) hx hb d_H_feedNumber_30 hl rfl (by first | decide | rfl) (by decide) rfl (fun ls hl => ?_)
  have hl : lv_has ls 3 [(2, .int 8), (0, .ref h0), (1, .int x)] := hl
  refine lv_goto (tgt := 3) hx hb d_H_feedNumber_33 rfl ?_
  refine lv_iload_n hx hb d_H_feedNumber_3 rfl (lv_at hl 0 rfl) ?_
  refine lv_if_lt (tgt := 36) hx hb d_H_feedNumber_4 rfl (fun h9 => absurd h9 (by decide)) (fun _ => ?_)
  refine lv_aload_n hx hb d_H_feedNumber_7 rfl (lv_at hl 1 rfl) ?_
  refine va_get (D := D) (ci := 0) (v := .ref tp) (C := R_H) (T := F_H) (N := 11) hx hb hts fin_H hown hK hP 0 rfl rfl 0 (by decide) (hts _ m_4570233e) (fun _ h9 => h9) rfl d_H_feedNumber_8 ?_
  refine lv_aload_n hx hb d_H_feedNumber_11 rfl (lv_at hl 1 rfl) ?_
  refine va_get (D := D) (ci := 0) (v := .int 10) (C := R_H) (T := F_H) (N := 11) hx hb hts fin_H hown hK hP 0 rfl rfl 1 (by decide) (hts _ m_1ee8d2b8) (fun _ h9 => h9) rfl d_H_feedNumber_12 ?_
  refine lv_iload_n hx hb d_H_feedNumber_15 rfl (lv_at hl 2 rfl) ?_
  refine lv_iload_n hx hb d_H_feedNumber_16 rfl (lv_at hl 0 rfl) ?_
  refine lv_iushr hx hb d_H_feedNumber_17 rfl ?_
  refine lv_i2b hx hb d_H_feedNumber_18 rfl ?_
  refine va_bast (i := 10) (x := (((x : Int32).toUInt32 >>> ((8 : Int32).toUInt32 &&& Int32.toUInt32 31)).toInt32 : Int32).toInt8.toInt32) hx hb hK hP hD hS 1 0 rfl rfl (xt_vin (by decide +kernel)) d_H_feedNumber_19 (fun H locs hP hD hS => ?_)
  have hP : va_P D xcl [(h0, .inr (0, [.ref tp, .int 10, a2, a3, a4, a5, a6, a7, a8, a9, a10])), (tp, .inl (kt, 20, .inl (upd (upd (upd f (8 : Int32).toNatClampNeg (vp_nar .byte (((x : Int32).toUInt32 >>> ((24 : Int32).toUInt32 &&& Int32.toUInt32 31)).toInt32 : Int32).toInt8.toInt32)) (9 : Int32).toNatClampNeg (vp_nar .byte (((x : Int32).toUInt32 >>> ((16 : Int32).toUInt32 &&& Int32.toUInt32 31)).toInt32 : Int32).toInt8.toInt32)) (10 : Int32).toNatClampNeg (vp_nar .byte (((x : Int32).toUInt32 >>> ((8 : Int32).toUInt32 &&& Int32.toUInt32 31)).toInt32 : Int32).toInt8.toInt32))))] H := hP
  have hD : va_D A [(h0, .inr (0, [.ref tp, .int 10, a2, a3, a4, a5, a6, a7, a8, a9, a10])), (tp, .inl (kt, 20, .inl (upd (upd (upd f (8 : Int32).toNatClampNeg (vp_nar .byte (((x : Int32).toUInt32 >>> ((24 : Int32).toUInt32 &&& Int32.toUInt32 31)).toInt32 : Int32).toInt8.toInt32)) (9 : Int32).toNatClampNeg (vp_nar .byte (((x : Int32).toUInt32 >>> ((16 : Int32).toUInt32 &&& Int32.toUInt32 31)).toInt32 : Int32).toInt8.toInt32)) (10 : Int32).toNatClampNeg (vp_nar .byte (((x : Int32).toUInt32 >>> ((8 : Int32).toUInt32 &&& Int32.toUInt32 31)).toInt32 : Int32).toInt8.toInt32))))] := hD
  refine lv_aload_n hx hb d_H_feedNumber_20 rfl (lv_at hl 1 rfl) ?_
  refine lv_dup hx hb d_H_feedNumber_21 rfl ?_
  refine va_get (D := D) (ci := 0) (v := .int 10) (C := R_H) (T := F_H) (N := 11) hx hb hts fin_H hown hK hP 0 rfl rfl 1 (by decide) (hts _ m_1ee8d2b8) (fun _ h9 => h9) rfl d_H_feedNumber_22 ?_
  refine lv_iconst (v := 1) hx hb d_H_feedNumber_25 (by decide) ?_
  refine lv_iadd hx hb d_H_feedNumber_26 ?_
  refine xt_numi (y := 11) (by decide) ?_
  refine va_put (D := D) (ci := 0) (v := .int 11) (ty := .int) (C := R_H) (T := F_H) (N := 11) hx hb hts fin_H t_H t_H_ok n_H hown hK hP hD hS 0 rfl rfl 1 (by decide) (hts _ m_1ee8d2b8) (fun _ h9 => h9) rfl (by decide +kernel) (by first | rfl | decide) (by first | rfl | decide) (Nat.le_of_ble_eq_true rfl) d_H_feedNumber_27 (fun H locs hP hD hS => ?_)
  have hP : va_P D xcl [(h0, .inr (0, [.ref tp, .int 11, a2, a3, a4, a5, a6, a7, a8, a9, a10])), (tp, .inl (kt, 20, .inl (upd (upd (upd f (8 : Int32).toNatClampNeg (vp_nar .byte (((x : Int32).toUInt32 >>> ((24 : Int32).toUInt32 &&& Int32.toUInt32 31)).toInt32 : Int32).toInt8.toInt32)) (9 : Int32).toNatClampNeg (vp_nar .byte (((x : Int32).toUInt32 >>> ((16 : Int32).toUInt32 &&& Int32.toUInt32 31)).toInt32 : Int32).toInt8.toInt32)) (10 : Int32).toNatClampNeg (vp_nar .byte (((x : Int32).toUInt32 >>> ((8 : Int32).toUInt32 &&& Int32.toUInt32 31)).toInt32 : Int32).toInt8.toInt32))))] H := hP
  have hD : va_D A [(h0, .inr (0, [.ref tp, .int 11, a2, a3, a4, a5, a6, a7, a8, a9, a10])), (tp, .inl (kt, 20, .inl (upd (upd (upd f (8 : Int32).toNatClampNeg (vp_nar .byte (((x : Int32).toUInt32 >>> ((24 : Int32).toUInt32 &&& Int32.toUInt32 31)).toInt32 : Int32).toInt8.toInt32)) (9 : Int32).toNatClampNeg (vp_nar .byte (((x : Int32).toUInt32 >>> ((16 : Int32).toUInt32 &&& Int32.toUInt32 31)).toInt32 : Int32).toInt8.toInt32)) (10 : Int32).toNatClampNeg (vp_nar .byte (((x : Int32).toUInt32 >>> ((8 : Int32).toUInt32 &&& Int32.toUInt32 31)).toInt32 : Int32).toInt8.toInt32))))] := hD
  refine lv_iinc (v := 0) (k := 0) hx hb d_H_feedNumber_30 hl rfl (by first | decide | rfl) (by decide) rfl (fun ls hl => ?_)
  have hl : lv_has ls 3 [(2, .int 0), (0, .ref h0), (1, .int x)] := hl
  refine lv_goto (tgt := 3) hx hb d_H_feedNumber_33 rfl ?_
  refine lv_iload_n hx hb d_H_feedNumber_3 rfl (lv_at hl 0 rfl) ?_
  refine lv_if_lt (tgt := 36) hx hb d_H_feedNumber_4 rfl (fun h9 => absurd h9 (by decide)) (fun _ => ?_)
  refine lv_aload_n hx hb d_H_feedNumber_7 rfl (lv_at hl 1 rfl) ?_
  refine va_get (D := D) (ci := 0) (v := .ref tp) (C := R_H) (T := F_H) (N := 11) hx hb hts fin_H hown hK hP 0 rfl rfl 0 (by decide) (hts _ m_4570233e) (fun _ h9 => h9) rfl d_H_feedNumber_8 ?_
  refine lv_aload_n hx hb d_H_feedNumber_11 rfl (lv_at hl 1 rfl) ?_
  refine va_get (D := D) (ci := 0) (v := .int 11) (C := R_H) (T := F_H) (N := 11) hx hb hts fin_H hown hK hP 0 rfl rfl 1 (by decide) (hts _ m_1ee8d2b8) (fun _ h9 => h9) rfl d_H_feedNumber_12 ?_
  refine lv_iload_n hx hb d_H_feedNumber_15 rfl (lv_at hl 2 rfl) ?_
  refine lv_iload_n hx hb d_H_feedNumber_16 rfl (lv_at hl 0 rfl) ?_
  refine lv_iushr hx hb d_H_feedNumber_17 rfl ?_
  refine lv_i2b hx hb d_H_feedNumber_18 rfl ?_
  refine va_bast (i := 11) (x := (((x : Int32).toUInt32 >>> ((0 : Int32).toUInt32 &&& Int32.toUInt32 31)).toInt32 : Int32).toInt8.toInt32) hx hb hK hP hD hS 1 0 rfl rfl (xt_vin (by decide +kernel)) d_H_feedNumber_19 (fun H locs hP hD hS => ?_)
  have hP : va_P D xcl [(h0, .inr (0, [.ref tp, .int 11, a2, a3, a4, a5, a6, a7, a8, a9, a10])), (tp, .inl (kt, 20, .inl (upd (upd (upd (upd f (8 : Int32).toNatClampNeg (vp_nar .byte (((x : Int32).toUInt32 >>> ((24 : Int32).toUInt32 &&& Int32.toUInt32 31)).toInt32 : Int32).toInt8.toInt32)) (9 : Int32).toNatClampNeg (vp_nar .byte (((x : Int32).toUInt32 >>> ((16 : Int32).toUInt32 &&& Int32.toUInt32 31)).toInt32 : Int32).toInt8.toInt32)) (10 : Int32).toNatClampNeg (vp_nar .byte (((x : Int32).toUInt32 >>> ((8 : Int32).toUInt32 &&& Int32.toUInt32 31)).toInt32 : Int32).toInt8.toInt32)) (11 : Int32).toNatClampNeg (vp_nar .byte (((x : Int32).toUInt32 >>> ((0 : Int32).toUInt32 &&& Int32.toUInt32 31)).toInt32 : Int32).toInt8.toInt32))))] H := hP
  have hD : va_D A [(h0, .inr (0, [.ref tp, .int 11, a2, a3, a4, a5, a6, a7, a8, a9, a10])), (tp, .inl (kt, 20, .inl (upd (upd (upd (upd f (8 : Int32).toNatClampNeg (vp_nar .byte (((x : Int32).toUInt32 >>> ((24 : Int32).toUInt32 &&& Int32.toUInt32 31)).toInt32 : Int32).toInt8.toInt32)) (9 : Int32).toNatClampNeg (vp_nar .byte (((x : Int32).toUInt32 >>> ((16 : Int32).toUInt32 &&& Int32.toUInt32 31)).toInt32 : Int32).toInt8.toInt32)) (10 : Int32).toNatClampNeg (vp_nar .byte (((x : Int32).toUInt32 >>> ((8 : Int32).toUInt32 &&& Int32.toUInt32 31)).toInt32 : Int32).toInt8.toInt32)) (11 : Int32).toNatClampNeg (vp_nar .byte (((x : Int32).toUInt32 >>> ((0 : Int32).toUInt32 &&& Int32.toUInt32 31)).toInt32 : Int32).toInt8.toInt32))))] := hD
  refine lv_aload_n hx hb d_H_feedNumber_20 rfl (lv_at hl 1 rfl) ?_
  refine lv_dup hx hb d_H_feedNumber_21 rfl ?_
  refine va_get (D := D) (ci := 0) (v := .int 11) (C := R_H) (T := F_H) (N := 11) hx hb hts fin_H hown hK hP 0 rfl rfl 1 (by decide) (hts _ m_1ee8d2b8) (fun _ h9 => h9) rfl d_H_feedNumber_22 ?_
  refine lv_iconst (v := 1) hx hb d_H_feedNumber_25 (by decide) ?_
  refine lv_iadd hx hb d_H_feedNumber_26 ?_
  refine xt_numi (y := 12) (by decide) ?_
  refine va_put (D := D) (ci := 0) (v := .int 12) (ty := .int) (C := R_H) (T := F_H) (N := 11) hx hb hts fin_H t_H t_H_ok n_H hown hK hP hD hS 0 rfl rfl 1 (by decide) (hts _ m_1ee8d2b8) (fun _ h9 => h9) rfl (by decide +kernel) (by first | rfl | decide) (by first | rfl | decide) (Nat.le_of_ble_eq_true rfl) d_H_feedNumber_27 (fun H locs hP hD hS => ?_)
  have hP : va_P D xcl [(h0, .inr (0, [.ref tp, .int 12, a2, a3, a4, a5, a6, a7, a8, a9, a10])), (tp, .inl (kt, 20, .inl (upd (upd (upd (upd f (8 : Int32).toNatClampNeg (vp_nar .byte (((x : Int32).toUInt32 >>> ((24 : Int32).toUInt32 &&& Int32.toUInt32 31)).toInt32 : Int32).toInt8.toInt32)) (9 : Int32).toNatClampNeg (vp_nar .byte (((x : Int32).toUInt32 >>> ((16 : Int32).toUInt32 &&& Int32.toUInt32 31)).toInt32 : Int32).toInt8.toInt32)) (10 : Int32).toNatClampNeg (vp_nar .byte (((x : Int32).toUInt32 >>> ((8 : Int32).toUInt32 &&& Int32.toUInt32 31)).toInt32 : Int32).toInt8.toInt32)) (11 : Int32).toNatClampNeg (vp_nar .byte (((x : Int32).toUInt32 >>> ((0 : Int32).toUInt32 &&& Int32.toUInt32 31)).toInt32 : Int32).toInt8.toInt32))))] H := hP
  have hD : va_D A [(h0, .inr (0, [.ref tp, .int 12, a2, a3, a4, a5, a6, a7, a8, a9, a10])), (tp, .inl (kt, 20, .inl (upd (upd (upd (upd f (8 : Int32).toNatClampNeg (vp_nar .byte (((x : Int32).toUInt32 >>> ((24 : Int32).toUInt32 &&& Int32.toUInt32 31)).toInt32 : Int32).toInt8.toInt32)) (9 : Int32).toNatClampNeg (vp_nar .byte (((x : Int32).toUInt32 >>> ((16 : Int32).toUInt32 &&& Int32.toUInt32 31)).toInt32 : Int32).toInt8.toInt32)) (10 : Int32).toNatClampNeg (vp_nar .byte (((x : Int32).toUInt32 >>> ((8 : Int32).toUInt32 &&& Int32.toUInt32 31)).toInt32 : Int32).toInt8.toInt32)) (11 : Int32).toNatClampNeg (vp_nar .byte (((x : Int32).toUInt32 >>> ((0 : Int32).toUInt32 &&& Int32.toUInt32 31)).toInt32 : Int32).toInt8.toInt32))))] := hD
  refine lv_iinc (v := (-8)) (k := 0) hx hb d_H_feedNumber_30 hl rfl (by first | decide | rfl) (by decide) rfl (fun ls hl => ?_)
  have hl : lv_has ls 3 [(2, .int (-8)), (0, .ref h0), (1, .int x)] := hl
  refine lv_goto (tgt := 3) hx hb d_H_feedNumber_33 rfl ?_
  refine lv_iload_n hx hb d_H_feedNumber_3 rfl (lv_at hl 0 rfl) ?_
  refine lv_if_lt (tgt := 36) hx hb d_H_feedNumber_4 rfl (fun _ => ?_) (fun h9 => absurd h9 (by decide))
  refine W.widen (k := 0) (n := 0) (by decide) (by decide) ?_
  refine xt_mono xt_ofMQ ?_
  exact W.vret hx hb hr (fun t ht hW => ⟨(fun _ => 0), Or.inl ⟨_, rfl, rfl⟩, by rw [ht]; exact hP.sub [0, 1] rfl, va_K.moved hW.alike (hK.sub [0] rfl), hD.sub [0, 1] (by decide) rfl, hS.F ht⟩) hS.2.2 d_H_feedNumber_36 hlocks

set_option maxHeartbeats 4000000 in
set_option maxRecDepth 100000 in
theorem c_H_feedNumber_12 (l : Launch) (D : va_G) (h0 tp kt : Nat) (f : Nat → Int32) (x : Int32) (a2 a3 a4 a5 a6 a7 a8 a9 a10 : Value) (sz : Nat) : xt_Met l y_H_feedNumber [.code y_H_feedNumber b_H_feedNumber 3 none] ({ frames := 8, cells := 0, slots := 0, locals := 120 }) (xt_P D xcl [.ref h0, .int x] [(h0, .inr (0, [.ref tp, .int 12, a2, a3, a4, a5, a6, a7, a8, a9, a10])), (tp, .inl (kt, 20, .inl f))] [(kt, .byte)] sz) (xt_Q (S := Nat → Nat) D xcl (va_A [(h0, .inr (0, [.ref tp, .int 12, a2, a3, a4, a5, a6, a7, a8, a9, a10])), (tp, .inl (kt, 20, .inl f))] sz) (fun v _ => v = none) (fun _ _ => False) (fun u => [(h0, .inr (0, [.ref tp, .int 16, a2, a3, a4, a5, a6, a7, a8, a9, a10])), (tp, .inl (kt, 20, .inl (upd (upd (upd (upd f (12 : Int32).toNatClampNeg (vp_nar .byte (((x : Int32).toUInt32 >>> ((24 : Int32).toUInt32 &&& Int32.toUInt32 31)).toInt32 : Int32).toInt8.toInt32)) (13 : Int32).toNatClampNeg (vp_nar .byte (((x : Int32).toUInt32 >>> ((16 : Int32).toUInt32 &&& Int32.toUInt32 31)).toInt32 : Int32).toInt8.toInt32)) (14 : Int32).toNatClampNeg (vp_nar .byte (((x : Int32).toUInt32 >>> ((8 : Int32).toUInt32 &&& Int32.toUInt32 31)).toInt32 : Int32).toInt8.toInt32)) (15 : Int32).toNatClampNeg (vp_nar .byte (((x : Int32).toUInt32 >>> ((0 : Int32).toUInt32 &&& Int32.toUInt32 31)).toInt32 : Int32).toInt8.toInt32))))]) (fun u => [(kt, .byte)])) 0 0 (va_A [(h0, .inr (0, [.ref tp, .int 12, a2, a3, a4, a5, a6, a7, a8, a9, a10])), (tp, .inl (kt, 20, .inl f))] sz) := by
  refine xt_ofW (cc := b_H_feedNumber) (maxL := 3) (ret := none) (by decide) (List.mem_singleton.mpr rfl) ?_
  intro p e s m args below meth c s₁ B hml htab hv
  obtain ⟨rfl, hsz, hB, hP, hK, hD0⟩ := hv
  subst hsz
  have hx := B.exec
  have hb := B.bytes
  have hr := B.returns
  have hts := hB.1.at ([.ref h0, .int x] : List Value).toArray
  have hown : s.vm.findClass "StackHost" = some m.cls := findClass_of_methodNamed B.named
  have hlocks := B.notSynchronized
  have hD := hD0.self (sz := s.heap.size)
  generalize hAe : va_A [(h0, .inr (0, [.ref tp, .int 12, a2, a3, a4, a5, a6, a7, a8, a9, a10])), (tp, .inl (kt, 20, .inl f))] s.heap.size = A at hB hD ⊢
  have hA : ∀ q : Nat, s.heap.size ≤ q → A q := fun q h => by rw [← hAe]; exact Or.inr h
  have hS : va_S A s.heap s.heap [] := va_S.rf
  have hl := lv_entry ([.ref h0, .int x]) (n := 3) (Nat.le_of_ble_eq_true rfl)
  rw [lg_entry_eq]
  generalize (lg_sl ([.ref h0, .int x]) ++ List.replicate (3 - (lg_sl ([.ref h0, .int x])).length) Slot.unset).toArray = ls at hl ⊢
  have hl : lv_has ls 3 [(0, .ref h0), (1, .int x)] := hl
  refine lv_bipush (v := 24) hx hb d_H_feedNumber_0 (by decide) ?_
  refine lv_istore_n hx hb d_H_feedNumber_2 rfl hl (by decide) rfl (fun ls hl => ?_)
  have hl : lv_has ls 3 [(2, .int 24), (0, .ref h0), (1, .int x)] := hl
  refine lv_iload_n hx hb d_H_feedNumber_3 rfl (lv_at hl 0 rfl) ?_
  refine lv_if_lt (tgt := 36) hx hb d_H_feedNumber_4 rfl (fun h9 => absurd h9 (by decide)) (fun _ => ?_)
  refine lv_aload_n hx hb d_H_feedNumber_7 rfl (lv_at hl 1 rfl) ?_
  refine va_get (D := D) (ci := 0) (v := .ref tp) (C := R_H) (T := F_H) (N := 11) hx hb hts fin_H hown hK hP 0 rfl rfl 0 (by decide) (hts _ m_4570233e) (fun _ h9 => h9) rfl d_H_feedNumber_8 ?_
  refine lv_aload_n hx hb d_H_feedNumber_11 rfl (lv_at hl 1 rfl) ?_
  refine va_get (D := D) (ci := 0) (v := .int 12) (C := R_H) (T := F_H) (N := 11) hx hb hts fin_H hown hK hP 0 rfl rfl 1 (by decide) (hts _ m_1ee8d2b8) (fun _ h9 => h9) rfl d_H_feedNumber_12 ?_
  refine lv_iload_n hx hb d_H_feedNumber_15 rfl (lv_at hl 2 rfl) ?_
  refine lv_iload_n hx hb d_H_feedNumber_16 rfl (lv_at hl 0 rfl) ?_
  refine lv_iushr hx hb d_H_feedNumber_17 rfl ?_
  refine lv_i2b hx hb d_H_feedNumber_18 rfl ?_
  refine va_bast (i := 12) (x := (((x : Int32).toUInt32 >>> ((24 : Int32).toUInt32 &&& Int32.toUInt32 31)).toInt32 : Int32).toInt8.toInt32) hx hb hK hP hD hS 1 0 rfl rfl (xt_vin (by decide +kernel)) d_H_feedNumber_19 (fun H locs hP hD hS => ?_)
  have hP : va_P D xcl [(h0, .inr (0, [.ref tp, .int 12, a2, a3, a4, a5, a6, a7, a8, a9, a10])), (tp, .inl (kt, 20, .inl (upd f (12 : Int32).toNatClampNeg (vp_nar .byte (((x : Int32).toUInt32 >>> ((24 : Int32).toUInt32 &&& Int32.toUInt32 31)).toInt32 : Int32).toInt8.toInt32))))] H := hP
  have hD : va_D A [(h0, .inr (0, [.ref tp, .int 12, a2, a3, a4, a5, a6, a7, a8, a9, a10])), (tp, .inl (kt, 20, .inl (upd f (12 : Int32).toNatClampNeg (vp_nar .byte (((x : Int32).toUInt32 >>> ((24 : Int32).toUInt32 &&& Int32.toUInt32 31)).toInt32 : Int32).toInt8.toInt32))))] := hD
  refine lv_aload_n hx hb d_H_feedNumber_20 rfl (lv_at hl 1 rfl) ?_
  refine lv_dup hx hb d_H_feedNumber_21 rfl ?_
  refine va_get (D := D) (ci := 0) (v := .int 12) (C := R_H) (T := F_H) (N := 11) hx hb hts fin_H hown hK hP 0 rfl rfl 1 (by decide) (hts _ m_1ee8d2b8) (fun _ h9 => h9) rfl d_H_feedNumber_22 ?_
  refine lv_iconst (v := 1) hx hb d_H_feedNumber_25 (by decide) ?_
  refine lv_iadd hx hb d_H_feedNumber_26 ?_
  refine xt_numi (y := 13) (by decide) ?_
  refine va_put (D := D) (ci := 0) (v := .int 13) (ty := .int) (C := R_H) (T := F_H) (N := 11) hx hb hts fin_H t_H t_H_ok n_H hown hK hP hD hS 0 rfl rfl 1 (by decide) (hts _ m_1ee8d2b8) (fun _ h9 => h9) rfl (by decide +kernel) (by first | rfl | decide) (by first | rfl | decide) (Nat.le_of_ble_eq_true rfl) d_H_feedNumber_27 (fun H locs hP hD hS => ?_)
  have hP : va_P D xcl [(h0, .inr (0, [.ref tp, .int 13, a2, a3, a4, a5, a6, a7, a8, a9, a10])), (tp, .inl (kt, 20, .inl (upd f (12 : Int32).toNatClampNeg (vp_nar .byte (((x : Int32).toUInt32 >>> ((24 : Int32).toUInt32 &&& Int32.toUInt32 31)).toInt32 : Int32).toInt8.toInt32))))] H := hP
  have hD : va_D A [(h0, .inr (0, [.ref tp, .int 13, a2, a3, a4, a5, a6, a7, a8, a9, a10])), (tp, .inl (kt, 20, .inl (upd f (12 : Int32).toNatClampNeg (vp_nar .byte (((x : Int32).toUInt32 >>> ((24 : Int32).toUInt32 &&& Int32.toUInt32 31)).toInt32 : Int32).toInt8.toInt32))))] := hD
  refine lv_iinc (v := 16) (k := 0) hx hb d_H_feedNumber_30 hl rfl (by first | decide | rfl) (by decide) rfl (fun ls hl => ?_)
  have hl : lv_has ls 3 [(2, .int 16), (0, .ref h0), (1, .int x)] := hl
  refine lv_goto (tgt := 3) hx hb d_H_feedNumber_33 rfl ?_
  refine lv_iload_n hx hb d_H_feedNumber_3 rfl (lv_at hl 0 rfl) ?_
  refine lv_if_lt (tgt := 36) hx hb d_H_feedNumber_4 rfl (fun h9 => absurd h9 (by decide)) (fun _ => ?_)
  refine lv_aload_n hx hb d_H_feedNumber_7 rfl (lv_at hl 1 rfl) ?_
  refine va_get (D := D) (ci := 0) (v := .ref tp) (C := R_H) (T := F_H) (N := 11) hx hb hts fin_H hown hK hP 0 rfl rfl 0 (by decide) (hts _ m_4570233e) (fun _ h9 => h9) rfl d_H_feedNumber_8 ?_
  refine lv_aload_n hx hb d_H_feedNumber_11 rfl (lv_at hl 1 rfl) ?_
  refine va_get (D := D) (ci := 0) (v := .int 13) (C := R_H) (T := F_H) (N := 11) hx hb hts fin_H hown hK hP 0 rfl rfl 1 (by decide) (hts _ m_1ee8d2b8) (fun _ h9 => h9) rfl d_H_feedNumber_12 ?_
  refine lv_iload_n hx hb d_H_feedNumber_15 rfl (lv_at hl 2 rfl) ?_
  refine lv_iload_n hx hb d_H_feedNumber_16 rfl (lv_at hl 0 rfl) ?_
  refine lv_iushr hx hb d_H_feedNumber_17 rfl ?_
  refine lv_i2b hx hb d_H_feedNumber_18 rfl ?_
  refine va_bast (i := 13) (x := (((x : Int32).toUInt32 >>> ((16 : Int32).toUInt32 &&& Int32.toUInt32 31)).toInt32 : Int32).toInt8.toInt32) hx hb hK hP hD hS 1 0 rfl rfl (xt_vin (by decide +kernel)) d_H_feedNumber_19 (fun H locs hP hD hS => ?_)
  have hP : va_P D xcl [(h0, .inr (0, [.ref tp, .int 13, a2, a3, a4, a5, a6, a7, a8, a9, a10])), (tp, .inl (kt, 20, .inl (upd (upd f (12 : Int32).toNatClampNeg (vp_nar .byte (((x : Int32).toUInt32 >>> ((24 : Int32).toUInt32 &&& Int32.toUInt32 31)).toInt32 : Int32).toInt8.toInt32)) (13 : Int32).toNatClampNeg (vp_nar .byte (((x : Int32).toUInt32 >>> ((16 : Int32).toUInt32 &&& Int32.toUInt32 31)).toInt32 : Int32).toInt8.toInt32))))] H := hP
  have hD : va_D A [(h0, .inr (0, [.ref tp, .int 13, a2, a3, a4, a5, a6, a7, a8, a9, a10])), (tp, .inl (kt, 20, .inl (upd (upd f (12 : Int32).toNatClampNeg (vp_nar .byte (((x : Int32).toUInt32 >>> ((24 : Int32).toUInt32 &&& Int32.toUInt32 31)).toInt32 : Int32).toInt8.toInt32)) (13 : Int32).toNatClampNeg (vp_nar .byte (((x : Int32).toUInt32 >>> ((16 : Int32).toUInt32 &&& Int32.toUInt32 31)).toInt32 : Int32).toInt8.toInt32))))] := hD
  refine lv_aload_n hx hb d_H_feedNumber_20 rfl (lv_at hl 1 rfl) ?_
  refine lv_dup hx hb d_H_feedNumber_21 rfl ?_
  refine va_get (D := D) (ci := 0) (v := .int 13) (C := R_H) (T := F_H) (N := 11) hx hb hts fin_H hown hK hP 0 rfl rfl 1 (by decide) (hts _ m_1ee8d2b8) (fun _ h9 => h9) rfl d_H_feedNumber_22 ?_
  refine lv_iconst (v := 1) hx hb d_H_feedNumber_25 (by decide) ?_
  refine lv_iadd hx hb d_H_feedNumber_26 ?_
  refine xt_numi (y := 14) (by decide) ?_
  refine va_put (D := D) (ci := 0) (v := .int 14) (ty := .int) (C := R_H) (T := F_H) (N := 11) hx hb hts fin_H t_H t_H_ok n_H hown hK hP hD hS 0 rfl rfl 1 (by decide) (hts _ m_1ee8d2b8) (fun _ h9 => h9) rfl (by decide +kernel) (by first | rfl | decide) (by first | rfl | decide) (Nat.le_of_ble_eq_true rfl) d_H_feedNumber_27 (fun H locs hP hD hS => ?_)
  have hP : va_P D xcl [(h0, .inr (0, [.ref tp, .int 14, a2, a3, a4, a5, a6, a7, a8, a9, a10])), (tp, .inl (kt, 20, .inl (upd (upd f (12 : Int32).toNatClampNeg (vp_nar .byte (((x : Int32).toUInt32 >>> ((24 : Int32).toUInt32 &&& Int32.toUInt32 31)).toInt32 : Int32).toInt8.toInt32)) (13 : Int32).toNatClampNeg (vp_nar .byte (((x : Int32).toUInt32 >>> ((16 : Int32).toUInt32 &&& Int32.toUInt32 31)).toInt32 : Int32).toInt8.toInt32))))] H := hP
  have hD : va_D A [(h0, .inr (0, [.ref tp, .int 14, a2, a3, a4, a5, a6, a7, a8, a9, a10])), (tp, .inl (kt, 20, .inl (upd (upd f (12 : Int32).toNatClampNeg (vp_nar .byte (((x : Int32).toUInt32 >>> ((24 : Int32).toUInt32 &&& Int32.toUInt32 31)).toInt32 : Int32).toInt8.toInt32)) (13 : Int32).toNatClampNeg (vp_nar .byte (((x : Int32).toUInt32 >>> ((16 : Int32).toUInt32 &&& Int32.toUInt32 31)).toInt32 : Int32).toInt8.toInt32))))] := hD
  refine lv_iinc (v := 8) (k := 0) hx hb d_H_feedNumber_30 hl rfl (by first | decide | rfl) (by decide) rfl (fun ls hl => ?_)
  have hl : lv_has ls 3 [(2, .int 8), (0, .ref h0), (1, .int x)] := hl
  refine lv_goto (tgt := 3) hx hb d_H_feedNumber_33 rfl ?_
  refine lv_iload_n hx hb d_H_feedNumber_3 rfl (lv_at hl 0 rfl) ?_
  refine lv_if_lt (tgt := 36) hx hb d_H_feedNumber_4 rfl (fun h9 => absurd h9 (by decide)) (fun _ => ?_)
  refine lv_aload_n hx hb d_H_feedNumber_7 rfl (lv_at hl 1 rfl) ?_
  refine va_get (D := D) (ci := 0) (v := .ref tp) (C := R_H) (T := F_H) (N := 11) hx hb hts fin_H hown hK hP 0 rfl rfl 0 (by decide) (hts _ m_4570233e) (fun _ h9 => h9) rfl d_H_feedNumber_8 ?_
  refine lv_aload_n hx hb d_H_feedNumber_11 rfl (lv_at hl 1 rfl) ?_
  refine va_get (D := D) (ci := 0) (v := .int 14) (C := R_H) (T := F_H) (N := 11) hx hb hts fin_H hown hK hP 0 rfl rfl 1 (by decide) (hts _ m_1ee8d2b8) (fun _ h9 => h9) rfl d_H_feedNumber_12 ?_
  refine lv_iload_n hx hb d_H_feedNumber_15 rfl (lv_at hl 2 rfl) ?_
  refine lv_iload_n hx hb d_H_feedNumber_16 rfl (lv_at hl 0 rfl) ?_
  refine lv_iushr hx hb d_H_feedNumber_17 rfl ?_
  refine lv_i2b hx hb d_H_feedNumber_18 rfl ?_
  refine va_bast (i := 14) (x := (((x : Int32).toUInt32 >>> ((8 : Int32).toUInt32 &&& Int32.toUInt32 31)).toInt32 : Int32).toInt8.toInt32) hx hb hK hP hD hS 1 0 rfl rfl (xt_vin (by decide +kernel)) d_H_feedNumber_19 (fun H locs hP hD hS => ?_)
  have hP : va_P D xcl [(h0, .inr (0, [.ref tp, .int 14, a2, a3, a4, a5, a6, a7, a8, a9, a10])), (tp, .inl (kt, 20, .inl (upd (upd (upd f (12 : Int32).toNatClampNeg (vp_nar .byte (((x : Int32).toUInt32 >>> ((24 : Int32).toUInt32 &&& Int32.toUInt32 31)).toInt32 : Int32).toInt8.toInt32)) (13 : Int32).toNatClampNeg (vp_nar .byte (((x : Int32).toUInt32 >>> ((16 : Int32).toUInt32 &&& Int32.toUInt32 31)).toInt32 : Int32).toInt8.toInt32)) (14 : Int32).toNatClampNeg (vp_nar .byte (((x : Int32).toUInt32 >>> ((8 : Int32).toUInt32 &&& Int32.toUInt32 31)).toInt32 : Int32).toInt8.toInt32))))] H := hP
  have hD : va_D A [(h0, .inr (0, [.ref tp, .int 14, a2, a3, a4, a5, a6, a7, a8, a9, a10])), (tp, .inl (kt, 20, .inl (upd (upd (upd f (12 : Int32).toNatClampNeg (vp_nar .byte (((x : Int32).toUInt32 >>> ((24 : Int32).toUInt32 &&& Int32.toUInt32 31)).toInt32 : Int32).toInt8.toInt32)) (13 : Int32).toNatClampNeg (vp_nar .byte (((x : Int32).toUInt32 >>> ((16 : Int32).toUInt32 &&& Int32.toUInt32 31)).toInt32 : Int32).toInt8.toInt32)) (14 : Int32).toNatClampNeg (vp_nar .byte (((x : Int32).toUInt32 >>> ((8 : Int32).toUInt32 &&& Int32.toUInt32 31)).toInt32 : Int32).toInt8.toInt32))))] := hD
  refine lv_aload_n hx hb d_H_feedNumber_20 rfl (lv_at hl 1 rfl) ?_
  refine lv_dup hx hb d_H_feedNumber_21 rfl ?_
  refine va_get (D := D) (ci := 0) (v := .int 14) (C := R_H) (T := F_H) (N := 11) hx hb hts fin_H hown hK hP 0 rfl rfl 1 (by decide) (hts _ m_1ee8d2b8) (fun _ h9 => h9) rfl d_H_feedNumber_22 ?_
  refine lv_iconst (v := 1) hx hb d_H_feedNumber_25 (by decide) ?_
  refine lv_iadd hx hb d_H_feedNumber_26 ?_
  refine xt_numi (y := 15) (by decide) ?_
  refine va_put (D := D) (ci := 0) (v := .int 15) (ty := .int) (C := R_H) (T := F_H) (N := 11) hx hb hts fin_H t_H t_H_ok n_H hown hK hP hD hS 0 rfl rfl 1 (by decide) (hts _ m_1ee8d2b8) (fun _ h9 => h9) rfl (by decide +kernel) (by first | rfl | decide) (by first | rfl | decide) (Nat.le_of_ble_eq_true rfl) d_H_feedNumber_27 (fun H locs hP hD hS => ?_)
  have hP : va_P D xcl [(h0, .inr (0, [.ref tp, .int 15, a2, a3, a4, a5, a6, a7, a8, a9, a10])), (tp, .inl (kt, 20, .inl (upd (upd (upd f (12 : Int32).toNatClampNeg (vp_nar .byte (((x : Int32).toUInt32 >>> ((24 : Int32).toUInt32 &&& Int32.toUInt32 31)).toInt32 : Int32).toInt8.toInt32)) (13 : Int32).toNatClampNeg (vp_nar .byte (((x : Int32).toUInt32 >>> ((16 : Int32).toUInt32 &&& Int32.toUInt32 31)).toInt32 : Int32).toInt8.toInt32)) (14 : Int32).toNatClampNeg (vp_nar .byte (((x : Int32).toUInt32 >>> ((8 : Int32).toUInt32 &&& Int32.toUInt32 31)).toInt32 : Int32).toInt8.toInt32))))] H := hP
  have hD : va_D A [(h0, .inr (0, [.ref tp, .int 15, a2, a3, a4, a5, a6, a7, a8, a9, a10])), (tp, .inl (kt, 20, .inl (upd (upd (upd f (12 : Int32).toNatClampNeg (vp_nar .byte (((x : Int32).toUInt32 >>> ((24 : Int32).toUInt32 &&& Int32.toUInt32 31)).toInt32 : Int32).toInt8.toInt32)) (13 : Int32).toNatClampNeg (vp_nar .byte (((x : Int32).toUInt32 >>> ((16 : Int32).toUInt32 &&& Int32.toUInt32 31)).toInt32 : Int32).toInt8.toInt32)) (14 : Int32).toNatClampNeg (vp_nar .byte (((x : Int32).toUInt32 >>> ((8 : Int32).toUInt32 &&& Int32.toUInt32 31)).toInt32 : Int32).toInt8.toInt32))))] := hD
  refine lv_iinc (v := 0) (k := 0) hx hb d_H_feedNumber_30 hl rfl (by first | decide | rfl) (by decide) rfl (fun ls hl => ?_)
  have hl : lv_has ls 3 [(2, .int 0), (0, .ref h0), (1, .int x)] := hl
  refine lv_goto (tgt := 3) hx hb d_H_feedNumber_33 rfl ?_
  refine lv_iload_n hx hb d_H_feedNumber_3 rfl (lv_at hl 0 rfl) ?_
  refine lv_if_lt (tgt := 36) hx hb d_H_feedNumber_4 rfl (fun h9 => absurd h9 (by decide)) (fun _ => ?_)
  refine lv_aload_n hx hb d_H_feedNumber_7 rfl (lv_at hl 1 rfl) ?_
  refine va_get (D := D) (ci := 0) (v := .ref tp) (C := R_H) (T := F_H) (N := 11) hx hb hts fin_H hown hK hP 0 rfl rfl 0 (by decide) (hts _ m_4570233e) (fun _ h9 => h9) rfl d_H_feedNumber_8 ?_
  refine lv_aload_n hx hb d_H_feedNumber_11 rfl (lv_at hl 1 rfl) ?_
  refine va_get (D := D) (ci := 0) (v := .int 15) (C := R_H) (T := F_H) (N := 11) hx hb hts fin_H hown hK hP 0 rfl rfl 1 (by decide) (hts _ m_1ee8d2b8) (fun _ h9 => h9) rfl d_H_feedNumber_12 ?_
  refine lv_iload_n hx hb d_H_feedNumber_15 rfl (lv_at hl 2 rfl) ?_
  refine lv_iload_n hx hb d_H_feedNumber_16 rfl (lv_at hl 0 rfl) ?_
  refine lv_iushr hx hb d_H_feedNumber_17 rfl ?_
  refine lv_i2b hx hb d_H_feedNumber_18 rfl ?_
  refine va_bast (i := 15) (x := (((x : Int32).toUInt32 >>> ((0 : Int32).toUInt32 &&& Int32.toUInt32 31)).toInt32 : Int32).toInt8.toInt32) hx hb hK hP hD hS 1 0 rfl rfl (xt_vin (by decide +kernel)) d_H_feedNumber_19 (fun H locs hP hD hS => ?_)
  have hP : va_P D xcl [(h0, .inr (0, [.ref tp, .int 15, a2, a3, a4, a5, a6, a7, a8, a9, a10])), (tp, .inl (kt, 20, .inl (upd (upd (upd (upd f (12 : Int32).toNatClampNeg (vp_nar .byte (((x : Int32).toUInt32 >>> ((24 : Int32).toUInt32 &&& Int32.toUInt32 31)).toInt32 : Int32).toInt8.toInt32)) (13 : Int32).toNatClampNeg (vp_nar .byte (((x : Int32).toUInt32 >>> ((16 : Int32).toUInt32 &&& Int32.toUInt32 31)).toInt32 : Int32).toInt8.toInt32)) (14 : Int32).toNatClampNeg (vp_nar .byte (((x : Int32).toUInt32 >>> ((8 : Int32).toUInt32 &&& Int32.toUInt32 31)).toInt32 : Int32).toInt8.toInt32)) (15 : Int32).toNatClampNeg (vp_nar .byte (((x : Int32).toUInt32 >>> ((0 : Int32).toUInt32 &&& Int32.toUInt32 31)).toInt32 : Int32).toInt8.toInt32))))] H := hP
  have hD : va_D A [(h0, .inr (0, [.ref tp, .int 15, a2, a3, a4, a5, a6, a7, a8, a9, a10])), (tp, .inl (kt, 20, .inl (upd (upd (upd (upd f (12 : Int32).toNatClampNeg (vp_nar .byte (((x : Int32).toUInt32 >>> ((24 : Int32).toUInt32 &&& Int32.toUInt32 31)).toInt32 : Int32).toInt8.toInt32)) (13 : Int32).toNatClampNeg (vp_nar .byte (((x : Int32).toUInt32 >>> ((16 : Int32).toUInt32 &&& Int32.toUInt32 31)).toInt32 : Int32).toInt8.toInt32)) (14 : Int32).toNatClampNeg (vp_nar .byte (((x : Int32).toUInt32 >>> ((8 : Int32).toUInt32 &&& Int32.toUInt32 31)).toInt32 : Int32).toInt8.toInt32)) (15 : Int32).toNatClampNeg (vp_nar .byte (((x : Int32).toUInt32 >>> ((0 : Int32).toUInt32 &&& Int32.toUInt32 31)).toInt32 : Int32).toInt8.toInt32))))] := hD
  refine lv_aload_n hx hb d_H_feedNumber_20 rfl (lv_at hl 1 rfl) ?_
  refine lv_dup hx hb d_H_feedNumber_21 rfl ?_
  refine va_get (D := D) (ci := 0) (v := .int 15) (C := R_H) (T := F_H) (N := 11) hx hb hts fin_H hown hK hP 0 rfl rfl 1 (by decide) (hts _ m_1ee8d2b8) (fun _ h9 => h9) rfl d_H_feedNumber_22 ?_
  refine lv_iconst (v := 1) hx hb d_H_feedNumber_25 (by decide) ?_
  refine lv_iadd hx hb d_H_feedNumber_26 ?_
  refine xt_numi (y := 16) (by decide) ?_
  refine va_put (D := D) (ci := 0) (v := .int 16) (ty := .int) (C := R_H) (T := F_H) (N := 11) hx hb hts fin_H t_H t_H_ok n_H hown hK hP hD hS 0 rfl rfl 1 (by decide) (hts _ m_1ee8d2b8) (fun _ h9 => h9) rfl (by decide +kernel) (by first | rfl | decide) (by first | rfl | decide) (Nat.le_of_ble_eq_true rfl) d_H_feedNumber_27 (fun H locs hP hD hS => ?_)
  have hP : va_P D xcl [(h0, .inr (0, [.ref tp, .int 16, a2, a3, a4, a5, a6, a7, a8, a9, a10])), (tp, .inl (kt, 20, .inl (upd (upd (upd (upd f (12 : Int32).toNatClampNeg (vp_nar .byte (((x : Int32).toUInt32 >>> ((24 : Int32).toUInt32 &&& Int32.toUInt32 31)).toInt32 : Int32).toInt8.toInt32)) (13 : Int32).toNatClampNeg (vp_nar .byte (((x : Int32).toUInt32 >>> ((16 : Int32).toUInt32 &&& Int32.toUInt32 31)).toInt32 : Int32).toInt8.toInt32)) (14 : Int32).toNatClampNeg (vp_nar .byte (((x : Int32).toUInt32 >>> ((8 : Int32).toUInt32 &&& Int32.toUInt32 31)).toInt32 : Int32).toInt8.toInt32)) (15 : Int32).toNatClampNeg (vp_nar .byte (((x : Int32).toUInt32 >>> ((0 : Int32).toUInt32 &&& Int32.toUInt32 31)).toInt32 : Int32).toInt8.toInt32))))] H := hP
  have hD : va_D A [(h0, .inr (0, [.ref tp, .int 16, a2, a3, a4, a5, a6, a7, a8, a9, a10])), (tp, .inl (kt, 20, .inl (upd (upd (upd (upd f (12 : Int32).toNatClampNeg (vp_nar .byte (((x : Int32).toUInt32 >>> ((24 : Int32).toUInt32 &&& Int32.toUInt32 31)).toInt32 : Int32).toInt8.toInt32)) (13 : Int32).toNatClampNeg (vp_nar .byte (((x : Int32).toUInt32 >>> ((16 : Int32).toUInt32 &&& Int32.toUInt32 31)).toInt32 : Int32).toInt8.toInt32)) (14 : Int32).toNatClampNeg (vp_nar .byte (((x : Int32).toUInt32 >>> ((8 : Int32).toUInt32 &&& Int32.toUInt32 31)).toInt32 : Int32).toInt8.toInt32)) (15 : Int32).toNatClampNeg (vp_nar .byte (((x : Int32).toUInt32 >>> ((0 : Int32).toUInt32 &&& Int32.toUInt32 31)).toInt32 : Int32).toInt8.toInt32))))] := hD
  refine lv_iinc (v := (-8)) (k := 0) hx hb d_H_feedNumber_30 hl rfl (by first | decide | rfl) (by decide) rfl (fun ls hl => ?_)
  have hl : lv_has ls 3 [(2, .int (-8)), (0, .ref h0), (1, .int x)] := hl
  refine lv_goto (tgt := 3) hx hb d_H_feedNumber_33 rfl ?_
  refine lv_iload_n hx hb d_H_feedNumber_3 rfl (lv_at hl 0 rfl) ?_
  refine lv_if_lt (tgt := 36) hx hb d_H_feedNumber_4 rfl (fun _ => ?_) (fun h9 => absurd h9 (by decide))
  refine W.widen (k := 0) (n := 0) (by decide) (by decide) ?_
  refine xt_mono xt_ofMQ ?_
  exact W.vret hx hb hr (fun t ht hW => ⟨(fun _ => 0), Or.inl ⟨_, rfl, rfl⟩, by rw [ht]; exact hP.sub [0, 1] rfl, va_K.moved hW.alike (hK.sub [0] rfl), hD.sub [0, 1] (by decide) rfl, hS.F ht⟩) hS.2.2 d_H_feedNumber_36 hlocks

set_option maxHeartbeats 4000000 in
set_option maxRecDepth 100000 in
theorem c_H_feedNumber_16 (l : Launch) (D : va_G) (h0 tp kt : Nat) (f : Nat → Int32) (x : Int32) (a2 a3 a4 a5 a6 a7 a8 a9 a10 : Value) (sz : Nat) : xt_Met l y_H_feedNumber [.code y_H_feedNumber b_H_feedNumber 3 none] ({ frames := 8, cells := 0, slots := 0, locals := 120 }) (xt_P D xcl [.ref h0, .int x] [(h0, .inr (0, [.ref tp, .int 16, a2, a3, a4, a5, a6, a7, a8, a9, a10])), (tp, .inl (kt, 20, .inl f))] [(kt, .byte)] sz) (xt_Q (S := Nat → Nat) D xcl (va_A [(h0, .inr (0, [.ref tp, .int 16, a2, a3, a4, a5, a6, a7, a8, a9, a10])), (tp, .inl (kt, 20, .inl f))] sz) (fun v _ => v = none) (fun _ _ => False) (fun u => [(h0, .inr (0, [.ref tp, .int 20, a2, a3, a4, a5, a6, a7, a8, a9, a10])), (tp, .inl (kt, 20, .inl (upd (upd (upd (upd f (16 : Int32).toNatClampNeg (vp_nar .byte (((x : Int32).toUInt32 >>> ((24 : Int32).toUInt32 &&& Int32.toUInt32 31)).toInt32 : Int32).toInt8.toInt32)) (17 : Int32).toNatClampNeg (vp_nar .byte (((x : Int32).toUInt32 >>> ((16 : Int32).toUInt32 &&& Int32.toUInt32 31)).toInt32 : Int32).toInt8.toInt32)) (18 : Int32).toNatClampNeg (vp_nar .byte (((x : Int32).toUInt32 >>> ((8 : Int32).toUInt32 &&& Int32.toUInt32 31)).toInt32 : Int32).toInt8.toInt32)) (19 : Int32).toNatClampNeg (vp_nar .byte (((x : Int32).toUInt32 >>> ((0 : Int32).toUInt32 &&& Int32.toUInt32 31)).toInt32 : Int32).toInt8.toInt32))))]) (fun u => [(kt, .byte)])) 0 0 (va_A [(h0, .inr (0, [.ref tp, .int 16, a2, a3, a4, a5, a6, a7, a8, a9, a10])), (tp, .inl (kt, 20, .inl f))] sz) := by
  refine xt_ofW (cc := b_H_feedNumber) (maxL := 3) (ret := none) (by decide) (List.mem_singleton.mpr rfl) ?_
  intro p e s m args below meth c s₁ B hml htab hv
  obtain ⟨rfl, hsz, hB, hP, hK, hD0⟩ := hv
  subst hsz
  have hx := B.exec
  have hb := B.bytes
  have hr := B.returns
  have hts := hB.1.at ([.ref h0, .int x] : List Value).toArray
  have hown : s.vm.findClass "StackHost" = some m.cls := findClass_of_methodNamed B.named
  have hlocks := B.notSynchronized
  have hD := hD0.self (sz := s.heap.size)
  generalize hAe : va_A [(h0, .inr (0, [.ref tp, .int 16, a2, a3, a4, a5, a6, a7, a8, a9, a10])), (tp, .inl (kt, 20, .inl f))] s.heap.size = A at hB hD ⊢
  have hA : ∀ q : Nat, s.heap.size ≤ q → A q := fun q h => by rw [← hAe]; exact Or.inr h
  have hS : va_S A s.heap s.heap [] := va_S.rf
  have hl := lv_entry ([.ref h0, .int x]) (n := 3) (Nat.le_of_ble_eq_true rfl)
  rw [lg_entry_eq]
  generalize (lg_sl ([.ref h0, .int x]) ++ List.replicate (3 - (lg_sl ([.ref h0, .int x])).length) Slot.unset).toArray = ls at hl ⊢
  have hl : lv_has ls 3 [(0, .ref h0), (1, .int x)] := hl
  refine lv_bipush (v := 24) hx hb d_H_feedNumber_0 (by decide) ?_
  refine lv_istore_n hx hb d_H_feedNumber_2 rfl hl (by decide) rfl (fun ls hl => ?_)
  have hl : lv_has ls 3 [(2, .int 24), (0, .ref h0), (1, .int x)] := hl
  refine lv_iload_n hx hb d_H_feedNumber_3 rfl (lv_at hl 0 rfl) ?_
  refine lv_if_lt (tgt := 36) hx hb d_H_feedNumber_4 rfl (fun h9 => absurd h9 (by decide)) (fun _ => ?_)
  refine lv_aload_n hx hb d_H_feedNumber_7 rfl (lv_at hl 1 rfl) ?_
  refine va_get (D := D) (ci := 0) (v := .ref tp) (C := R_H) (T := F_H) (N := 11) hx hb hts fin_H hown hK hP 0 rfl rfl 0 (by decide) (hts _ m_4570233e) (fun _ h9 => h9) rfl d_H_feedNumber_8 ?_
  refine lv_aload_n hx hb d_H_feedNumber_11 rfl (lv_at hl 1 rfl) ?_
  refine va_get (D := D) (ci := 0) (v := .int 16) (C := R_H) (T := F_H) (N := 11) hx hb hts fin_H hown hK hP 0 rfl rfl 1 (by decide) (hts _ m_1ee8d2b8) (fun _ h9 => h9) rfl d_H_feedNumber_12 ?_
  refine lv_iload_n hx hb d_H_feedNumber_15 rfl (lv_at hl 2 rfl) ?_
  refine lv_iload_n hx hb d_H_feedNumber_16 rfl (lv_at hl 0 rfl) ?_
  refine lv_iushr hx hb d_H_feedNumber_17 rfl ?_
  refine lv_i2b hx hb d_H_feedNumber_18 rfl ?_
  refine va_bast (i := 16) (x := (((x : Int32).toUInt32 >>> ((24 : Int32).toUInt32 &&& Int32.toUInt32 31)).toInt32 : Int32).toInt8.toInt32) hx hb hK hP hD hS 1 0 rfl rfl (xt_vin (by decide +kernel)) d_H_feedNumber_19 (fun H locs hP hD hS => ?_)
  have hP : va_P D xcl [(h0, .inr (0, [.ref tp, .int 16, a2, a3, a4, a5, a6, a7, a8, a9, a10])), (tp, .inl (kt, 20, .inl (upd f (16 : Int32).toNatClampNeg (vp_nar .byte (((x : Int32).toUInt32 >>> ((24 : Int32).toUInt32 &&& Int32.toUInt32 31)).toInt32 : Int32).toInt8.toInt32))))] H := hP
  have hD : va_D A [(h0, .inr (0, [.ref tp, .int 16, a2, a3, a4, a5, a6, a7, a8, a9, a10])), (tp, .inl (kt, 20, .inl (upd f (16 : Int32).toNatClampNeg (vp_nar .byte (((x : Int32).toUInt32 >>> ((24 : Int32).toUInt32 &&& Int32.toUInt32 31)).toInt32 : Int32).toInt8.toInt32))))] := hD
  refine lv_aload_n hx hb d_H_feedNumber_20 rfl (lv_at hl 1 rfl) ?_
  refine lv_dup hx hb d_H_feedNumber_21 rfl ?_
  refine va_get (D := D) (ci := 0) (v := .int 16) (C := R_H) (T := F_H) (N := 11) hx hb hts fin_H hown hK hP 0 rfl rfl 1 (by decide) (hts _ m_1ee8d2b8) (fun _ h9 => h9) rfl d_H_feedNumber_22 ?_
  refine lv_iconst (v := 1) hx hb d_H_feedNumber_25 (by decide) ?_
  refine lv_iadd hx hb d_H_feedNumber_26 ?_
  refine xt_numi (y := 17) (by decide) ?_
  refine va_put (D := D) (ci := 0) (v := .int 17) (ty := .int) (C := R_H) (T := F_H) (N := 11) hx hb hts fin_H t_H t_H_ok n_H hown hK hP hD hS 0 rfl rfl 1 (by decide) (hts _ m_1ee8d2b8) (fun _ h9 => h9) rfl (by decide +kernel) (by first | rfl | decide) (by first | rfl | decide) (Nat.le_of_ble_eq_true rfl) d_H_feedNumber_27 (fun H locs hP hD hS => ?_)
  have hP : va_P D xcl [(h0, .inr (0, [.ref tp, .int 17, a2, a3, a4, a5, a6, a7, a8, a9, a10])), (tp, .inl (kt, 20, .inl (upd f (16 : Int32).toNatClampNeg (vp_nar .byte (((x : Int32).toUInt32 >>> ((24 : Int32).toUInt32 &&& Int32.toUInt32 31)).toInt32 : Int32).toInt8.toInt32))))] H := hP
  have hD : va_D A [(h0, .inr (0, [.ref tp, .int 17, a2, a3, a4, a5, a6, a7, a8, a9, a10])), (tp, .inl (kt, 20, .inl (upd f (16 : Int32).toNatClampNeg (vp_nar .byte (((x : Int32).toUInt32 >>> ((24 : Int32).toUInt32 &&& Int32.toUInt32 31)).toInt32 : Int32).toInt8.toInt32))))] := hD
  refine lv_iinc (v := 16) (k := 0) hx hb d_H_feedNumber_30 hl rfl (by first | decide | rfl) (by decide) rfl (fun ls hl => ?_)
  have hl : lv_has ls 3 [(2, .int 16), (0, .ref h0), (1, .int x)] := hl
  refine lv_goto (tgt := 3) hx hb d_H_feedNumber_33 rfl ?_
  refine lv_iload_n hx hb d_H_feedNumber_3 rfl (lv_at hl 0 rfl) ?_
  refine lv_if_lt (tgt := 36) hx hb d_H_feedNumber_4 rfl (fun h9 => absurd h9 (by decide)) (fun _ => ?_)
  refine lv_aload_n hx hb d_H_feedNumber_7 rfl (lv_at hl 1 rfl) ?_
  refine va_get (D := D) (ci := 0) (v := .ref tp) (C := R_H) (T := F_H) (N := 11) hx hb hts fin_H hown hK hP 0 rfl rfl 0 (by decide) (hts _ m_4570233e) (fun _ h9 => h9) rfl d_H_feedNumber_8 ?_
  refine lv_aload_n hx hb d_H_feedNumber_11 rfl (lv_at hl 1 rfl) ?_
  refine va_get (D := D) (ci := 0) (v := .int 17) (C := R_H) (T := F_H) (N := 11) hx hb hts fin_H hown hK hP 0 rfl rfl 1 (by decide) (hts _ m_1ee8d2b8) (fun _ h9 => h9) rfl d_H_feedNumber_12 ?_
  refine lv_iload_n hx hb d_H_feedNumber_15 rfl (lv_at hl 2 rfl) ?_
  refine lv_iload_n hx hb d_H_feedNumber_16 rfl (lv_at hl 0 rfl) ?_
  refine lv_iushr hx hb d_H_feedNumber_17 rfl ?_
  refine lv_i2b hx hb d_H_feedNumber_18 rfl ?_
  refine va_bast (i := 17) (x := (((x : Int32).toUInt32 >>> ((16 : Int32).toUInt32 &&& Int32.toUInt32 31)).toInt32 : Int32).toInt8.toInt32) hx hb hK hP hD hS 1 0 rfl rfl (xt_vin (by decide +kernel)) d_H_feedNumber_19 (fun H locs hP hD hS => ?_)
  have hP : va_P D xcl [(h0, .inr (0, [.ref tp, .int 17, a2, a3, a4, a5, a6, a7, a8, a9, a10])), (tp, .inl (kt, 20, .inl (upd (upd f (16 : Int32).toNatClampNeg (vp_nar .byte (((x : Int32).toUInt32 >>> ((24 : Int32).toUInt32 &&& Int32.toUInt32 31)).toInt32 : Int32).toInt8.toInt32)) (17 : Int32).toNatClampNeg (vp_nar .byte (((x : Int32).toUInt32 >>> ((16 : Int32).toUInt32 &&& Int32.toUInt32 31)).toInt32 : Int32).toInt8.toInt32))))] H := hP
  have hD : va_D A [(h0, .inr (0, [.ref tp, .int 17, a2, a3, a4, a5, a6, a7, a8, a9, a10])), (tp, .inl (kt, 20, .inl (upd (upd f (16 : Int32).toNatClampNeg (vp_nar .byte (((x : Int32).toUInt32 >>> ((24 : Int32).toUInt32 &&& Int32.toUInt32 31)).toInt32 : Int32).toInt8.toInt32)) (17 : Int32).toNatClampNeg (vp_nar .byte (((x : Int32).toUInt32 >>> ((16 : Int32).toUInt32 &&& Int32.toUInt32 31)).toInt32 : Int32).toInt8.toInt32))))] := hD
  refine lv_aload_n hx hb d_H_feedNumber_20 rfl (lv_at hl 1 rfl) ?_
  refine lv_dup hx hb d_H_feedNumber_21 rfl ?_
  refine va_get (D := D) (ci := 0) (v := .int 17) (C := R_H) (T := F_H) (N := 11) hx hb hts fin_H hown hK hP 0 rfl rfl 1 (by decide) (hts _ m_1ee8d2b8) (fun _ h9 => h9) rfl d_H_feedNumber_22 ?_
  refine lv_iconst (v := 1) hx hb d_H_feedNumber_25 (by decide) ?_
  refine lv_iadd hx hb d_H_feedNumber_26 ?_
  refine xt_numi (y := 18) (by decide) ?_
  refine va_put (D := D) (ci := 0) (v := .int 18) (ty := .int) (C := R_H) (T := F_H) (N := 11) hx hb hts fin_H t_H t_H_ok n_H hown hK hP hD hS 0 rfl rfl 1 (by decide) (hts _ m_1ee8d2b8) (fun _ h9 => h9) rfl (by decide +kernel) (by first | rfl | decide) (by first | rfl | decide) (Nat.le_of_ble_eq_true rfl) d_H_feedNumber_27 (fun H locs hP hD hS => ?_)
  have hP : va_P D xcl [(h0, .inr (0, [.ref tp, .int 18, a2, a3, a4, a5, a6, a7, a8, a9, a10])), (tp, .inl (kt, 20, .inl (upd (upd f (16 : Int32).toNatClampNeg (vp_nar .byte (((x : Int32).toUInt32 >>> ((24 : Int32).toUInt32 &&& Int32.toUInt32 31)).toInt32 : Int32).toInt8.toInt32)) (17 : Int32).toNatClampNeg (vp_nar .byte (((x : Int32).toUInt32 >>> ((16 : Int32).toUInt32 &&& Int32.toUInt32 31)).toInt32 : Int32).toInt8.toInt32))))] H := hP
  have hD : va_D A [(h0, .inr (0, [.ref tp, .int 18, a2, a3, a4, a5, a6, a7, a8, a9, a10])), (tp, .inl (kt, 20, .inl (upd (upd f (16 : Int32).toNatClampNeg (vp_nar .byte (((x : Int32).toUInt32 >>> ((24 : Int32).toUInt32 &&& Int32.toUInt32 31)).toInt32 : Int32).toInt8.toInt32)) (17 : Int32).toNatClampNeg (vp_nar .byte (((x : Int32).toUInt32 >>> ((16 : Int32).toUInt32 &&& Int32.toUInt32 31)).toInt32 : Int32).toInt8.toInt32))))] := hD
  refine lv_iinc (v := 8) (k := 0) hx hb d_H_feedNumber_30 hl rfl (by first | decide | rfl) (by decide) rfl (fun ls hl => ?_)
  have hl : lv_has ls 3 [(2, .int 8), (0, .ref h0), (1, .int x)] := hl
  refine lv_goto (tgt := 3) hx hb d_H_feedNumber_33 rfl ?_
  refine lv_iload_n hx hb d_H_feedNumber_3 rfl (lv_at hl 0 rfl) ?_
  refine lv_if_lt (tgt := 36) hx hb d_H_feedNumber_4 rfl (fun h9 => absurd h9 (by decide)) (fun _ => ?_)
  refine lv_aload_n hx hb d_H_feedNumber_7 rfl (lv_at hl 1 rfl) ?_
  refine va_get (D := D) (ci := 0) (v := .ref tp) (C := R_H) (T := F_H) (N := 11) hx hb hts fin_H hown hK hP 0 rfl rfl 0 (by decide) (hts _ m_4570233e) (fun _ h9 => h9) rfl d_H_feedNumber_8 ?_
  refine lv_aload_n hx hb d_H_feedNumber_11 rfl (lv_at hl 1 rfl) ?_
  refine va_get (D := D) (ci := 0) (v := .int 18) (C := R_H) (T := F_H) (N := 11) hx hb hts fin_H hown hK hP 0 rfl rfl 1 (by decide) (hts _ m_1ee8d2b8) (fun _ h9 => h9) rfl d_H_feedNumber_12 ?_
  refine lv_iload_n hx hb d_H_feedNumber_15 rfl (lv_at hl 2 rfl) ?_
  refine lv_iload_n hx hb d_H_feedNumber_16 rfl (lv_at hl 0 rfl) ?_
  refine lv_iushr hx hb d_H_feedNumber_17 rfl ?_
  refine lv_i2b hx hb d_H_feedNumber_18 rfl ?_
  refine va_bast (i := 18) (x := (((x : Int32).toUInt32 >>> ((8 : Int32).toUInt32 &&& Int32.toUInt32 31)).toInt32 : Int32).toInt8.toInt32) hx hb hK hP hD hS 1 0 rfl rfl (xt_vin (by decide +kernel)) d_H_feedNumber_19 (fun H locs hP hD hS => ?_)
  have hP : va_P D xcl [(h0, .inr (0, [.ref tp, .int 18, a2, a3, a4, a5, a6, a7, a8, a9, a10])), (tp, .inl (kt, 20, .inl (upd (upd (upd f (16 : Int32).toNatClampNeg (vp_nar .byte (((x : Int32).toUInt32 >>> ((24 : Int32).toUInt32 &&& Int32.toUInt32 31)).toInt32 : Int32).toInt8.toInt32)) (17 : Int32).toNatClampNeg (vp_nar .byte (((x : Int32).toUInt32 >>> ((16 : Int32).toUInt32 &&& Int32.toUInt32 31)).toInt32 : Int32).toInt8.toInt32)) (18 : Int32).toNatClampNeg (vp_nar .byte (((x : Int32).toUInt32 >>> ((8 : Int32).toUInt32 &&& Int32.toUInt32 31)).toInt32 : Int32).toInt8.toInt32))))] H := hP
  have hD : va_D A [(h0, .inr (0, [.ref tp, .int 18, a2, a3, a4, a5, a6, a7, a8, a9, a10])), (tp, .inl (kt, 20, .inl (upd (upd (upd f (16 : Int32).toNatClampNeg (vp_nar .byte (((x : Int32).toUInt32 >>> ((24 : Int32).toUInt32 &&& Int32.toUInt32 31)).toInt32 : Int32).toInt8.toInt32)) (17 : Int32).toNatClampNeg (vp_nar .byte (((x : Int32).toUInt32 >>> ((16 : Int32).toUInt32 &&& Int32.toUInt32 31)).toInt32 : Int32).toInt8.toInt32)) (18 : Int32).toNatClampNeg (vp_nar .byte (((x : Int32).toUInt32 >>> ((8 : Int32).toUInt32 &&& Int32.toUInt32 31)).toInt32 : Int32).toInt8.toInt32))))] := hD
  refine lv_aload_n hx hb d_H_feedNumber_20 rfl (lv_at hl 1 rfl) ?_
  refine lv_dup hx hb d_H_feedNumber_21 rfl ?_
  refine va_get (D := D) (ci := 0) (v := .int 18) (C := R_H) (T := F_H) (N := 11) hx hb hts fin_H hown hK hP 0 rfl rfl 1 (by decide) (hts _ m_1ee8d2b8) (fun _ h9 => h9) rfl d_H_feedNumber_22 ?_
  refine lv_iconst (v := 1) hx hb d_H_feedNumber_25 (by decide) ?_
  refine lv_iadd hx hb d_H_feedNumber_26 ?_
  refine xt_numi (y := 19) (by decide) ?_
  refine va_put (D := D) (ci := 0) (v := .int 19) (ty := .int) (C := R_H) (T := F_H) (N := 11) hx hb hts fin_H t_H t_H_ok n_H hown hK hP hD hS 0 rfl rfl 1 (by decide) (hts _ m_1ee8d2b8) (fun _ h9 => h9) rfl (by decide +kernel) (by first | rfl | decide) (by first | rfl | decide) (Nat.le_of_ble_eq_true rfl) d_H_feedNumber_27 (fun H locs hP hD hS => ?_)
  have hP : va_P D xcl [(h0, .inr (0, [.ref tp, .int 19, a2, a3, a4, a5, a6, a7, a8, a9, a10])), (tp, .inl (kt, 20, .inl (upd (upd (upd f (16 : Int32).toNatClampNeg (vp_nar .byte (((x : Int32).toUInt32 >>> ((24 : Int32).toUInt32 &&& Int32.toUInt32 31)).toInt32 : Int32).toInt8.toInt32)) (17 : Int32).toNatClampNeg (vp_nar .byte (((x : Int32).toUInt32 >>> ((16 : Int32).toUInt32 &&& Int32.toUInt32 31)).toInt32 : Int32).toInt8.toInt32)) (18 : Int32).toNatClampNeg (vp_nar .byte (((x : Int32).toUInt32 >>> ((8 : Int32).toUInt32 &&& Int32.toUInt32 31)).toInt32 : Int32).toInt8.toInt32))))] H := hP
  have hD : va_D A [(h0, .inr (0, [.ref tp, .int 19, a2, a3, a4, a5, a6, a7, a8, a9, a10])), (tp, .inl (kt, 20, .inl (upd (upd (upd f (16 : Int32).toNatClampNeg (vp_nar .byte (((x : Int32).toUInt32 >>> ((24 : Int32).toUInt32 &&& Int32.toUInt32 31)).toInt32 : Int32).toInt8.toInt32)) (17 : Int32).toNatClampNeg (vp_nar .byte (((x : Int32).toUInt32 >>> ((16 : Int32).toUInt32 &&& Int32.toUInt32 31)).toInt32 : Int32).toInt8.toInt32)) (18 : Int32).toNatClampNeg (vp_nar .byte (((x : Int32).toUInt32 >>> ((8 : Int32).toUInt32 &&& Int32.toUInt32 31)).toInt32 : Int32).toInt8.toInt32))))] := hD
  refine lv_iinc (v := 0) (k := 0) hx hb d_H_feedNumber_30 hl rfl (by first | decide | rfl) (by decide) rfl (fun ls hl => ?_)
  have hl : lv_has ls 3 [(2, .int 0), (0, .ref h0), (1, .int x)] := hl
  refine lv_goto (tgt := 3) hx hb d_H_feedNumber_33 rfl ?_
  refine lv_iload_n hx hb d_H_feedNumber_3 rfl (lv_at hl 0 rfl) ?_
  refine lv_if_lt (tgt := 36) hx hb d_H_feedNumber_4 rfl (fun h9 => absurd h9 (by decide)) (fun _ => ?_)
  refine lv_aload_n hx hb d_H_feedNumber_7 rfl (lv_at hl 1 rfl) ?_
  refine va_get (D := D) (ci := 0) (v := .ref tp) (C := R_H) (T := F_H) (N := 11) hx hb hts fin_H hown hK hP 0 rfl rfl 0 (by decide) (hts _ m_4570233e) (fun _ h9 => h9) rfl d_H_feedNumber_8 ?_
  refine lv_aload_n hx hb d_H_feedNumber_11 rfl (lv_at hl 1 rfl) ?_
  refine va_get (D := D) (ci := 0) (v := .int 19) (C := R_H) (T := F_H) (N := 11) hx hb hts fin_H hown hK hP 0 rfl rfl 1 (by decide) (hts _ m_1ee8d2b8) (fun _ h9 => h9) rfl d_H_feedNumber_12 ?_
  refine lv_iload_n hx hb d_H_feedNumber_15 rfl (lv_at hl 2 rfl) ?_
  refine lv_iload_n hx hb d_H_feedNumber_16 rfl (lv_at hl 0 rfl) ?_
  refine lv_iushr hx hb d_H_feedNumber_17 rfl ?_
  refine lv_i2b hx hb d_H_feedNumber_18 rfl ?_
  refine va_bast (i := 19) (x := (((x : Int32).toUInt32 >>> ((0 : Int32).toUInt32 &&& Int32.toUInt32 31)).toInt32 : Int32).toInt8.toInt32) hx hb hK hP hD hS 1 0 rfl rfl (xt_vin (by decide +kernel)) d_H_feedNumber_19 (fun H locs hP hD hS => ?_)
  have hP : va_P D xcl [(h0, .inr (0, [.ref tp, .int 19, a2, a3, a4, a5, a6, a7, a8, a9, a10])), (tp, .inl (kt, 20, .inl (upd (upd (upd (upd f (16 : Int32).toNatClampNeg (vp_nar .byte (((x : Int32).toUInt32 >>> ((24 : Int32).toUInt32 &&& Int32.toUInt32 31)).toInt32 : Int32).toInt8.toInt32)) (17 : Int32).toNatClampNeg (vp_nar .byte (((x : Int32).toUInt32 >>> ((16 : Int32).toUInt32 &&& Int32.toUInt32 31)).toInt32 : Int32).toInt8.toInt32)) (18 : Int32).toNatClampNeg (vp_nar .byte (((x : Int32).toUInt32 >>> ((8 : Int32).toUInt32 &&& Int32.toUInt32 31)).toInt32 : Int32).toInt8.toInt32)) (19 : Int32).toNatClampNeg (vp_nar .byte (((x : Int32).toUInt32 >>> ((0 : Int32).toUInt32 &&& Int32.toUInt32 31)).toInt32 : Int32).toInt8.toInt32))))] H := hP
  have hD : va_D A [(h0, .inr (0, [.ref tp, .int 19, a2, a3, a4, a5, a6, a7, a8, a9, a10])), (tp, .inl (kt, 20, .inl (upd (upd (upd (upd f (16 : Int32).toNatClampNeg (vp_nar .byte (((x : Int32).toUInt32 >>> ((24 : Int32).toUInt32 &&& Int32.toUInt32 31)).toInt32 : Int32).toInt8.toInt32)) (17 : Int32).toNatClampNeg (vp_nar .byte (((x : Int32).toUInt32 >>> ((16 : Int32).toUInt32 &&& Int32.toUInt32 31)).toInt32 : Int32).toInt8.toInt32)) (18 : Int32).toNatClampNeg (vp_nar .byte (((x : Int32).toUInt32 >>> ((8 : Int32).toUInt32 &&& Int32.toUInt32 31)).toInt32 : Int32).toInt8.toInt32)) (19 : Int32).toNatClampNeg (vp_nar .byte (((x : Int32).toUInt32 >>> ((0 : Int32).toUInt32 &&& Int32.toUInt32 31)).toInt32 : Int32).toInt8.toInt32))))] := hD
  refine lv_aload_n hx hb d_H_feedNumber_20 rfl (lv_at hl 1 rfl) ?_
  refine lv_dup hx hb d_H_feedNumber_21 rfl ?_
  refine va_get (D := D) (ci := 0) (v := .int 19) (C := R_H) (T := F_H) (N := 11) hx hb hts fin_H hown hK hP 0 rfl rfl 1 (by decide) (hts _ m_1ee8d2b8) (fun _ h9 => h9) rfl d_H_feedNumber_22 ?_
  refine lv_iconst (v := 1) hx hb d_H_feedNumber_25 (by decide) ?_
  refine lv_iadd hx hb d_H_feedNumber_26 ?_
  refine xt_numi (y := 20) (by decide) ?_
  refine va_put (D := D) (ci := 0) (v := .int 20) (ty := .int) (C := R_H) (T := F_H) (N := 11) hx hb hts fin_H t_H t_H_ok n_H hown hK hP hD hS 0 rfl rfl 1 (by decide) (hts _ m_1ee8d2b8) (fun _ h9 => h9) rfl (by decide +kernel) (by first | rfl | decide) (by first | rfl | decide) (Nat.le_of_ble_eq_true rfl) d_H_feedNumber_27 (fun H locs hP hD hS => ?_)
  have hP : va_P D xcl [(h0, .inr (0, [.ref tp, .int 20, a2, a3, a4, a5, a6, a7, a8, a9, a10])), (tp, .inl (kt, 20, .inl (upd (upd (upd (upd f (16 : Int32).toNatClampNeg (vp_nar .byte (((x : Int32).toUInt32 >>> ((24 : Int32).toUInt32 &&& Int32.toUInt32 31)).toInt32 : Int32).toInt8.toInt32)) (17 : Int32).toNatClampNeg (vp_nar .byte (((x : Int32).toUInt32 >>> ((16 : Int32).toUInt32 &&& Int32.toUInt32 31)).toInt32 : Int32).toInt8.toInt32)) (18 : Int32).toNatClampNeg (vp_nar .byte (((x : Int32).toUInt32 >>> ((8 : Int32).toUInt32 &&& Int32.toUInt32 31)).toInt32 : Int32).toInt8.toInt32)) (19 : Int32).toNatClampNeg (vp_nar .byte (((x : Int32).toUInt32 >>> ((0 : Int32).toUInt32 &&& Int32.toUInt32 31)).toInt32 : Int32).toInt8.toInt32))))] H := hP
  have hD : va_D A [(h0, .inr (0, [.ref tp, .int 20, a2, a3, a4, a5, a6, a7, a8, a9, a10])), (tp, .inl (kt, 20, .inl (upd (upd (upd (upd f (16 : Int32).toNatClampNeg (vp_nar .byte (((x : Int32).toUInt32 >>> ((24 : Int32).toUInt32 &&& Int32.toUInt32 31)).toInt32 : Int32).toInt8.toInt32)) (17 : Int32).toNatClampNeg (vp_nar .byte (((x : Int32).toUInt32 >>> ((16 : Int32).toUInt32 &&& Int32.toUInt32 31)).toInt32 : Int32).toInt8.toInt32)) (18 : Int32).toNatClampNeg (vp_nar .byte (((x : Int32).toUInt32 >>> ((8 : Int32).toUInt32 &&& Int32.toUInt32 31)).toInt32 : Int32).toInt8.toInt32)) (19 : Int32).toNatClampNeg (vp_nar .byte (((x : Int32).toUInt32 >>> ((0 : Int32).toUInt32 &&& Int32.toUInt32 31)).toInt32 : Int32).toInt8.toInt32))))] := hD
  refine lv_iinc (v := (-8)) (k := 0) hx hb d_H_feedNumber_30 hl rfl (by first | decide | rfl) (by decide) rfl (fun ls hl => ?_)
  have hl : lv_has ls 3 [(2, .int (-8)), (0, .ref h0), (1, .int x)] := hl
  refine lv_goto (tgt := 3) hx hb d_H_feedNumber_33 rfl ?_
  refine lv_iload_n hx hb d_H_feedNumber_3 rfl (lv_at hl 0 rfl) ?_
  refine lv_if_lt (tgt := 36) hx hb d_H_feedNumber_4 rfl (fun _ => ?_) (fun h9 => absurd h9 (by decide))
  refine W.widen (k := 0) (n := 0) (by decide) (by decide) ?_
  refine xt_mono xt_ofMQ ?_
  exact W.vret hx hb hr (fun t ht hW => ⟨(fun _ => 0), Or.inl ⟨_, rfl, rfl⟩, by rw [ht]; exact hP.sub [0, 1] rfl, va_K.moved hW.alike (hK.sub [0] rfl), hD.sub [0, 1] (by decide) rfl, hS.F ht⟩) hS.2.2 d_H_feedNumber_36 hlocks

