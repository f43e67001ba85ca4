set_option maxHeartbeats 4000000 in
set_option maxRecDepth 100000 in
theorem c_StackModule_fail (l : Launch) (hfl : l.flags = pinnedFlags ++ [noTraceFlag]) (D : va_G) (h0 : Nat) (x y : Int32) (a0 a1 a2 a3 a4 a5 a6 a7 a8 a9 a10 a11 a12 a13 a14 a15 a16 a17 a18 : Value) (sz : Nat) : xt_Met l y_StackModule_fail [.code y_StackModule_fail b_StackModule_fail 3 none] ({ frames := 8, cells := 1, slots := 6, locals := 120 }) (xt_P D xcl [.ref h0, .int x, .int y] [(h0, .inr (2, [a0, a1, a2, a3, a4, a5, a6, a7, a8, a9, a10, a11, a12, a13, a14, a15, a16, a17, a18]))] [] sz) (xt_Q (S := Nat → Nat) D xcl (va_A [(h0, .inr (2, [a0, a1, a2, a3, a4, a5, a6, a7, a8, a9, a10, a11, a12, a13, a14, a15, a16, a17, a18]))] sz) (fun _ _ => False) (fun X _ => X = "java/lang/IllegalArgumentException") (fun u => [(h0, .inr (2, [a0, a1, a2, a3, a4, a5, a6, a7, a8, a9, a10, a11, a12, a13, a14, a15, a16, .int x, .int y]))]) (fun u => [])) 1 6 (va_A [(h0, .inr (2, [a0, a1, a2, a3, a4, a5, a6, a7, a8, a9, a10, a11, a12, a13, a14, a15, a16, a17, a18]))] sz) := by
  refine xt_ofW (cc := b_StackModule_fail) (maxL := 3) (ret := none) (by decide) (List.mem_singleton.mpr rfl) ?_
  intro p e s m args below meth c s₁ B hml htab hv
  obtain ⟨rfl, hsz, hB, hP, hK, hD0⟩ := hv
  subst hsz
  have hx := B.exec
  have hb := B.bytes
  have hr := B.returns
  have hts := hB.1.at ([.ref h0, .int x, .int y] : List Value).toArray
  have hown : s.vm.findClass "StackHost$StackModule" = some m.cls := findClass_of_methodNamed B.named
  have hlocks := B.notSynchronized
  have hD := hD0.self (sz := s.heap.size)
  generalize hAe : va_A [(h0, .inr (2, [a0, a1, a2, a3, a4, a5, a6, a7, a8, a9, a10, a11, a12, a13, a14, a15, a16, a17, a18]))] s.heap.size = A at hB hD ⊢
  have hA : ∀ q : Nat, s.heap.size ≤ q → A q := fun q h => by rw [← hAe]; exact Or.inr h
  have hS : va_S A s.heap s.heap [] := va_S.rf
  have hl := lv_entry ([.ref h0, .int x, .int y]) (n := 3) (Nat.le_of_ble_eq_true rfl)
  rw [lg_entry_eq]
  generalize (lg_sl ([.ref h0, .int x, .int y]) ++ List.replicate (3 - (lg_sl ([.ref h0, .int x, .int y])).length) Slot.unset).toArray = ls at hl ⊢
  have hl : lv_has ls 3 [(0, .ref h0), (1, .int x), (2, .int y)] := hl
  refine lv_aload_n hx hb d_StackModule_fail_0 rfl (lv_at hl 0 rfl) ?_
  refine lv_iload_n hx hb d_StackModule_fail_1 rfl (lv_at hl 1 rfl) ?_
  refine va_put (D := D) (ci := 2) (v := .int x) (ty := .int) (C := R_StackModule) (T := F_StackModule) (N := 19) hx hb hts fin_StackModule t_StackModule t_StackModule_ok n_StackModule hown hK hP hD hS 0 rfl rfl 17 (by decide) (hts _ m_31336272) (fun _ h9 => h9) rfl (by decide +kernel) (by first | rfl | decide) (by first | rfl | decide) (Nat.le_of_ble_eq_true rfl) d_StackModule_fail_2 (fun H locs hP hD hS => ?_)
  have hP : va_P D xcl [(h0, .inr (2, [a0, a1, a2, a3, a4, a5, a6, a7, a8, a9, a10, a11, a12, a13, a14, a15, a16, .int x, a18]))] H := hP
  have hD : va_D A [(h0, .inr (2, [a0, a1, a2, a3, a4, a5, a6, a7, a8, a9, a10, a11, a12, a13, a14, a15, a16, .int x, a18]))] := hD
  refine lv_aload_n hx hb d_StackModule_fail_5 rfl (lv_at hl 0 rfl) ?_
  refine lv_iload_n hx hb d_StackModule_fail_6 rfl (lv_at hl 2 rfl) ?_
  refine va_put (D := D) (ci := 2) (v := .int y) (ty := .int) (C := R_StackModule) (T := F_StackModule) (N := 19) hx hb hts fin_StackModule t_StackModule t_StackModule_ok n_StackModule hown hK hP hD hS 0 rfl rfl 18 (by decide) (hts _ m_5e22c58e) (fun _ h9 => h9) rfl (by decide +kernel) (by first | rfl | decide) (by first | rfl | decide) (Nat.le_of_ble_eq_true rfl) d_StackModule_fail_7 (fun H locs hP hD hS => ?_)
  have hP : va_P D xcl [(h0, .inr (2, [a0, a1, a2, a3, a4, a5, a6, a7, a8, a9, a10, a11, a12, a13, a14, a15, a16, .int x, .int y]))] H := hP
  have hD : va_D A [(h0, .inr (2, [a0, a1, a2, a3, a4, a5, a6, a7, a8, a9, a10, a11, a12, a13, a14, a15, a16, .int x, .int y]))] := hD
  refine W.widen (k := 0) (n := 0) (by decide) (by decide) ?_
  exact xt_throw (names := ["java/lang/RuntimeException", "java/lang/Exception"]) hx hb (hml.trans hl.1.symm) hlocks hfl hown xsite_d36153 hB hS (by decide) (by decide) (by decide) (Nat.le_of_ble_eq_true rfl) htab d_StackModule_fail_10 d_StackModule_fail_13 (xt_l2) d_StackModule_fail_14 d_StackModule_fail_16 d_StackModule_fail_19 hP hD hK (fun _ => 0) rfl rfl rfl

set_option maxHeartbeats 4000000 in
set_option maxRecDepth 100000 in
theorem c_Reader_readAll (l : Launch) (hfl : l.flags = pinnedFlags ++ [noTraceFlag]) (D : va_G) (h0 mm cd no kc : Nat) (f : Nat → Int32) (a0 a1 a2 a3 a4 a5 : Value) (b2 b3 b4 b5 b6 b7 b8 b9 b10 b11 b12 b13 b14 b15 b16 b17 b18 : Value) (sz : Nat) : xt_Met l y_Reader_readAll [.code y_Reader_readAll b_Reader_readAll 5 none] ({ frames := 9, cells := 1, slots := 6, locals := 220 }) (xt_P D xcl [.ref h0, .ref mm] [(h0, .inr (3, [a0, a1, a2, a3, a4, a5])), (mm, .inr (2, [.ref cd, .ref no, b2, b3, b4, b5, b6, b7, b8, b9, b10, b11, b12, b13, b14, b15, b16, b17, b18])), (cd, .inl (kc, 0, .inl f))] [(kc, .byte)] sz) (xt_Q (S := Nat → Nat) D xcl (va_A [(h0, .inr (3, [a0, a1, a2, a3, a4, a5])), (mm, .inr (2, [.ref cd, .ref no, b2, b3, b4, b5, b6, b7, b8, b9, b10, b11, b12, b13, b14, b15, b16, b17, b18])), (cd, .inl (kc, 0, .inl f))] sz) (fun _ _ => False) (fun X _ => X = "java/lang/IllegalArgumentException") (fun u => [(h0, .inr (3, [.ref mm, .ref cd, .ref no, a3, .int 0, a5])), (cd, .inl (kc, 0, .inl f)), (mm, .inr (2, [.ref cd, .ref no, b2, b3, b4, b5, b6, b7, b8, b9, b10, b11, b12, b13, b14, b15, b16, .int 1, .int 0]))]) (fun u => [(kc, .byte)])) 1 6 (va_A [(h0, .inr (3, [a0, a1, a2, a3, a4, a5])), (mm, .inr (2, [.ref cd, .ref no, b2, b3, b4, b5, b6, b7, b8, b9, b10, b11, b12, b13, b14, b15, b16, b17, b18])), (cd, .inl (kc, 0, .inl f))] sz) := by
  refine xt_ofW (cc := b_Reader_readAll) (maxL := 5) (ret := none) (by decide) (List.mem_singleton.mpr rfl) ?_
  intro p e s m args below meth c s₁ B hml htab hv
  obtain ⟨rfl, hsz, hB, hP, hK, hD0⟩ := hv
  subst hsz
  have hx := B.exec
  have hb := B.bytes
  have hr := B.returns
  have hts := hB.1.at ([.ref h0, .ref mm] : List Value).toArray
  have hown : s.vm.findClass "StackHost$Reader" = some m.cls := findClass_of_methodNamed B.named
  have hlocks := B.notSynchronized
  have hD := hD0.self (sz := s.heap.size)
  generalize hAe : va_A [(h0, .inr (3, [a0, a1, a2, a3, a4, a5])), (mm, .inr (2, [.ref cd, .ref no, b2, b3, b4, b5, b6, b7, b8, b9, b10, b11, b12, b13, b14, b15, b16, b17, b18])), (cd, .inl (kc, 0, .inl f))] s.heap.size = A at hB hD ⊢
  have hA : ∀ q : Nat, s.heap.size ≤ q → A q := fun q h => by rw [← hAe]; exact Or.inr h
  have hS : va_S A s.heap s.heap [] := va_S.rf
  have hl := lv_entry ([.ref h0, .ref mm]) (n := 5) (Nat.le_of_ble_eq_true rfl)
  rw [lg_entry_eq]
  generalize (lg_sl ([.ref h0, .ref mm]) ++ List.replicate (5 - (lg_sl ([.ref h0, .ref mm])).length) Slot.unset).toArray = ls at hl ⊢
  have hl : lv_has ls 5 [(0, .ref h0), (1, .ref mm)] := hl
  refine lv_aload_n hx hb d_Reader_readAll_0 rfl (lv_at hl 0 rfl) ?_
  refine lv_aload_n hx hb d_Reader_readAll_1 rfl (lv_at hl 1 rfl) ?_
  refine va_put (D := D) (ci := 3) (v := .ref mm) (ty := .object "StackHost$StackModule") (C := R_Reader) (T := F_Reader) (N := 6) hx hb hts fin_Reader t_Reader t_Reader_ok n_Reader hown hK hP hD hS 0 rfl rfl 0 (by decide) (hts _ m_76d8349c) (fun _ h9 => h9) rfl (by decide +kernel) (by first | rfl | decide) (by first | rfl | decide) (Nat.le_of_ble_eq_true rfl) d_Reader_readAll_2 (fun H locs hP hD hS => ?_)
  have hP : va_P D xcl [(h0, .inr (3, [.ref mm, a1, a2, a3, a4, a5])), (mm, .inr (2, [.ref cd, .ref no, b2, b3, b4, b5, b6, b7, b8, b9, b10, b11, b12, b13, b14, b15, b16, b17, b18])), (cd, .inl (kc, 0, .inl f))] H := hP
  have hD : va_D A [(h0, .inr (3, [.ref mm, a1, a2, a3, a4, a5])), (mm, .inr (2, [.ref cd, .ref no, b2, b3, b4, b5, b6, b7, b8, b9, b10, b11, b12, b13, b14, b15, b16, b17, b18])), (cd, .inl (kc, 0, .inl f))] := hD
  refine lv_aload_n hx hb d_Reader_readAll_5 rfl (lv_at hl 0 rfl) ?_
  refine lv_aload_n hx hb d_Reader_readAll_6 rfl (lv_at hl 1 rfl) ?_
  refine va_get (D := D) (ci := 2) (v := .ref cd) (C := R_StackModule) (T := F_StackModule) (N := 19) hx hb hts fin_StackModule hown hK hP 1 rfl rfl 0 (by decide) (hts _ m_dfe7ea21) (fun _ h9 => h9) rfl d_Reader_readAll_7 ?_
  refine va_put (D := D) (ci := 3) (v := .ref cd) (ty := .array .byte) (C := R_Reader) (T := F_Reader) (N := 6) hx hb hts fin_Reader t_Reader t_Reader_ok n_Reader hown hK hP hD hS 0 rfl rfl 1 (by decide) (hts _ m_d1ba4be8) (fun _ h9 => h9) rfl (by decide +kernel) (by first | rfl | decide) (by first | rfl | decide) (Nat.le_of_ble_eq_true rfl) d_Reader_readAll_10 (fun H locs hP hD hS => ?_)
  have hP : va_P D xcl [(h0, .inr (3, [.ref mm, .ref cd, a2, a3, a4, a5])), (mm, .inr (2, [.ref cd, .ref no, b2, b3, b4, b5, b6, b7, b8, b9, b10, b11, b12, b13, b14, b15, b16, b17, b18])), (cd, .inl (kc, 0, .inl f))] H := hP
  have hD : va_D A [(h0, .inr (3, [.ref mm, .ref cd, a2, a3, a4, a5])), (mm, .inr (2, [.ref cd, .ref no, b2, b3, b4, b5, b6, b7, b8, b9, b10, b11, b12, b13, b14, b15, b16, b17, b18])), (cd, .inl (kc, 0, .inl f))] := hD
  refine lv_aload_n hx hb d_Reader_readAll_13 rfl (lv_at hl 0 rfl) ?_
  refine lv_aload_n hx hb d_Reader_readAll_14 rfl (lv_at hl 1 rfl) ?_
  refine va_get (D := D) (ci := 2) (v := .ref no) (C := R_StackModule) (T := F_StackModule) (N := 19) hx hb hts fin_StackModule hown hK hP 1 rfl rfl 1 (by decide) (hts _ m_b7d0b101) (fun _ h9 => h9) rfl d_Reader_readAll_15 ?_
  refine va_put (D := D) (ci := 3) (v := .ref no) (ty := .array .int) (C := R_Reader) (T := F_Reader) (N := 6) hx hb hts fin_Reader t_Reader t_Reader_ok n_Reader hown hK hP hD hS 0 rfl rfl 2 (by decide) (hts _ m_5660bdee) (fun _ h9 => h9) rfl (by decide +kernel) (by first | rfl | decide) (by first | rfl | decide) (Nat.le_of_ble_eq_true rfl) d_Reader_readAll_18 (fun H locs hP hD hS => ?_)
  have hP : va_P D xcl [(h0, .inr (3, [.ref mm, .ref cd, .ref no, a3, a4, a5])), (mm, .inr (2, [.ref cd, .ref no, b2, b3, b4, b5, b6, b7, b8, b9, b10, b11, b12, b13, b14, b15, b16, b17, b18])), (cd, .inl (kc, 0, .inl f))] H := hP
  have hD : va_D A [(h0, .inr (3, [.ref mm, .ref cd, .ref no, a3, a4, a5])), (mm, .inr (2, [.ref cd, .ref no, b2, b3, b4, b5, b6, b7, b8, b9, b10, b11, b12, b13, b14, b15, b16, b17, b18])), (cd, .inl (kc, 0, .inl f))] := hD
  refine lv_aload_n hx hb d_Reader_readAll_21 rfl (lv_at hl 0 rfl) ?_
  refine lv_aload_n hx hb d_Reader_readAll_22 rfl (lv_at hl 0 rfl) ?_
  refine va_get (D := D) (ci := 3) (v := .ref cd) (C := R_Reader) (T := F_Reader) (N := 6) hx hb hts fin_Reader hown hK hP 0 rfl rfl 1 (by decide) (hts _ m_d1ba4be8) (fun _ h9 => h9) rfl d_Reader_readAll_23 ?_
  refine va_alen (v := 0) hx hb hK hP 2 0 rfl rfl (show Int32.ofNat 0 = 0 from by decide +kernel) d_Reader_readAll_26 ?_
  refine va_put (D := D) (ci := 3) (v := .int 0) (ty := .int) (C := R_Reader) (T := F_Reader) (N := 6) hx hb hts fin_Reader t_Reader t_Reader_ok n_Reader hown hK hP hD hS 0 rfl rfl 4 (by decide) (hts _ m_49916c4b) (fun _ h9 => h9) rfl (by decide +kernel) (by first | rfl | decide) (by first | rfl | decide) (Nat.le_of_ble_eq_true rfl) d_Reader_readAll_27 (fun H locs hP hD hS => ?_)
  have hP : va_P D xcl [(h0, .inr (3, [.ref mm, .ref cd, .ref no, a3, .int 0, a5])), (mm, .inr (2, [.ref cd, .ref no, b2, b3, b4, b5, b6, b7, b8, b9, b10, b11, b12, b13, b14, b15, b16, b17, b18])), (cd, .inl (kc, 0, .inl f))] H := hP
  have hD : va_D A [(h0, .inr (3, [.ref mm, .ref cd, .ref no, a3, .int 0, a5])), (mm, .inr (2, [.ref cd, .ref no, b2, b3, b4, b5, b6, b7, b8, b9, b10, b11, b12, b13, b14, b15, b16, b17, b18])), (cd, .inl (kc, 0, .inl f))] := hD
  refine lv_iconst (v := 0) hx hb d_Reader_readAll_30 (by decide) ?_
  refine lv_istore_n hx hb d_Reader_readAll_31 rfl hl (by decide) rfl (fun ls hl => ?_)
  have hl : lv_has ls 5 [(2, .int 0), (0, .ref h0), (1, .ref mm)] := hl
  refine lv_iload_n hx hb d_Reader_readAll_32 rfl (lv_at hl 0 rfl) ?_
  obtain ⟨mg, hmZ, hmT⟩ := hB.2.2.2.2
  refine va_getsN hx hb hmZ hS hown (hts _ m_965ac87e) (fun _ h9 => h9) d_Reader_readAll_33 ?_
  refine va_tlen (v := 8) hx hb hmT hS (by decide +kernel) d_Reader_readAll_36 ?_
  refine lv_icmp_ge (tgt := 78) hx hb d_Reader_readAll_37 rfl (fun h9 => absurd h9 (by decide)) (fun _ => ?_)
  refine lv_iload_n hx hb d_Reader_readAll_40 rfl (lv_at hl 0 rfl) ?_
  refine lv_aload_n hx hb d_Reader_readAll_41 rfl (lv_at hl 1 rfl) ?_
  refine va_get (D := D) (ci := 3) (v := .ref cd) (C := R_Reader) (T := F_Reader) (N := 6) hx hb hts fin_Reader hown hK hP 0 rfl rfl 1 (by decide) (hts _ m_d1ba4be8) (fun _ h9 => h9) rfl d_Reader_readAll_42 ?_
  refine va_alen (v := 0) hx hb hK hP 2 0 rfl rfl (show Int32.ofNat 0 = 0 from by decide +kernel) d_Reader_readAll_45 ?_
  refine lv_icmp_ge (tgt := 63) hx hb d_Reader_readAll_46 rfl (fun _ => ?_) (fun h9 => absurd h9 (by decide))
  refine lv_aload_n hx hb d_Reader_readAll_63 rfl (lv_at hl 1 rfl) ?_
  refine va_get (D := D) (ci := 3) (v := .ref mm) (C := R_Reader) (T := F_Reader) (N := 6) hx hb hts fin_Reader hown hK hP 0 rfl rfl 0 (by decide) (hts _ m_76d8349c) (fun _ h9 => h9) rfl d_Reader_readAll_64 ?_
  refine lv_iconst (v := 1) hx hb d_Reader_readAll_67 (by decide) ?_
  refine lv_iload_n hx hb d_Reader_readAll_68 rfl (lv_at hl 0 rfl) ?_
  refine xt_call (D := D) (cl := xcl) (wr := [(h0, .inr (3, [.ref mm, .ref cd, .ref no, a3, .int 0, a5])), (cd, .inl (kc, 0, .inl f))]) (fun T hT X => by
    obtain ⟨cb, r1, r2, r3⟩ := va_recv hK hP (ci := 2) (q0 := 1) rfl rfl
    exact xt_invV X hx hown (hts _ m_6fcde429) (hts _ m_865d5b07) (hts _ m_113f8f75) (xt_sigOf (hts _ m_73e65e5f)) nm_StackModule_fail (by rw [hT]; exact r1) r2 r3 (g := F0 m 69 ls [.int 0, .int 1, .ref mm]) rfl (argsL := [.int 1, .int 0]) (rest := []) rfl rfl (by rw [hb]; exact d_Reader_readAll_69)) (c_StackModule_fail l hfl D mm 1 0 (.ref cd) (.ref no) (b2) (b3) (b4) (b5) (b6) (b7) (b8) (b9) (b10) (b11) (b12) (b13) (b14) (b15) (b16) (b17) (b18) H.size) (hml.trans hl.1.symm) (by rw [hb]; exact d_Reader_readAll_69) (Nat.le_of_ble_eq_true rfl) rfl rfl (by decide) (by decide) (by decide) (by decide) (xt_w1 hB m_73e65e5f) (xt_cdOf hB m_73e65e5f) (hts _ m_9c375545) hB hK hP hD hS hA [1] [0, 2] [] rfl rfl rfl (by decide) (by decide) (by decide) (fun v2 u1 H locs hp hP hD hK hS => ?_) (fun XX9 ax9 u1 H locs hp hex hP hD hK hS => ?_)
  · exact False.elim hp
  · have hp : XX9 = "java/lang/IllegalArgumentException" := hp
    subst hp
    have hP : va_P D xcl [(h0, .inr (3, [.ref mm, .ref cd, .ref no, a3, .int 0, a5])), (cd, .inl (kc, 0, .inl f)), (mm, .inr (2, [.ref cd, .ref no, b2, b3, b4, b5, b6, b7, b8, b9, b10, b11, b12, b13, b14, b15, b16, .int 1, .int 0]))] H := hP
    have hD : va_D A [(h0, .inr (3, [.ref mm, .ref cd, .ref no, a3, .int 0, a5])), (cd, .inl (kc, 0, .inl f)), (mm, .inr (2, [.ref cd, .ref no, b2, b3, b4, b5, b6, b7, b8, b9, b10, b11, b12, b13, b14, b15, b16, .int 1, .int 0]))] := hD
    have hK : va_K D xcl [(kc, .byte)] s := hK
    refine xt_widenT (k := 1) (n := 6) (by decide) (by decide) ?_
    exact xt_pass hlocks (fun x hx9 => by rw [htab] at hx9; first | cases hx9 | (simp [tableOf] at hx9; rcases hx9 with rfl | rfl <;> decide)) hP hD hK hS hex (fun _ => 0) rfl [0, 1, 2] [0] rfl (by decide) rfl

set_option maxHeartbeats 4000000 in
set_option maxRecDepth 100000 in
theorem c_H_load (l : Launch) (hfl : l.flags = pinnedFlags ++ [noTraceFlag]) (D : va_G) (h0 rr tp kt : Nat) (f : Nat → Int32) (a2 a5 a6 a7 a8 a9 a10 : Value) (r0 r1 r2 r3 r4 r5 : Value) (sz : Nat) : xt_Met l y_H_load [.codeWith y_H_load b_H_load 3 (some .int) [(38, 54, 57, 86)]] ({ frames := 10, cells := 29, slots := 113, locals := 320 }) (xt_P D xcl [.ref h0] [(h0, .inr (0, [.ref tp, .int 0, a2, .int 0, .ref rr, a5, a6, a7, a8, a9, a10])), (rr, .inr (3, [r0, r1, r2, r3, r4, r5])), (tp, .inl (kt, 20, .inl f))] [(kt, .byte)] sz) (xt_Q (S := Nat → Nat) D xcl (va_A [(h0, .inr (0, [.ref tp, .int 0, a2, .int 0, .ref rr, a5, a6, a7, a8, a9, a10])), (rr, .inr (3, [r0, r1, r2, r3, r4, r5])), (tp, .inl (kt, 20, .inl f))] sz) (fun v u => v = some (.int (-1))) (fun _ _ => False) (fun u => [(h0, .inr (0, [.ref tp, .int 0, a2, .int 0, .ref rr, a5, a6, a7, a8, .int 1, .int 0])), (tp, .inl (kt, 20, .inl f))]) (fun u => [(kt, .byte)])) 29 113 (va_A [(h0, .inr (0, [.ref tp, .int 0, a2, .int 0, .ref rr, a5, a6, a7, a8, a9, a10])), (rr, .inr (3, [r0, r1, r2, r3, r4, r5])), (tp, .inl (kt, 20, .inl f))] sz) := by
  refine xt_ofWH (cc := b_H_load) (maxL := 3) (ret := (some .int)) (by decide) (List.mem_singleton.mpr rfl) ?_
  intro p e s m args below meth c s₁ B hml htab hv
  obtain ⟨rfl, hsz, hB, hP, hK, hD0⟩ := hv
  subst hsz
  have hx := B.exec
  have hb := B.bytes
  have hr := B.returns
  have hts := hB.1.at ([.ref h0] : List Value).toArray
  have hown : s.vm.findClass "StackHost" = some m.cls := findClass_of_methodNamed B.named
  have hlocks := B.notSynchronized
  have hD := hD0.self (sz := s.heap.size)
  generalize hAe : va_A [(h0, .inr (0, [.ref tp, .int 0, a2, .int 0, .ref rr, a5, a6, a7, a8, a9, a10])), (rr, .inr (3, [r0, r1, r2, r3, r4, r5])), (tp, .inl (kt, 20, .inl f))] s.heap.size = A at hB hD ⊢
  have hA : ∀ q : Nat, s.heap.size ≤ q → A q := fun q h => by rw [← hAe]; exact Or.inr h
  have hS : va_S A s.heap s.heap [] := va_S.rf
  have hl := lv_entry ([.ref h0]) (n := 3) (Nat.le_of_ble_eq_true rfl)
  rw [lg_entry_eq]
  generalize (lg_sl ([.ref h0]) ++ List.replicate (3 - (lg_sl ([.ref h0])).length) Slot.unset).toArray = ls at hl ⊢
  have hl : lv_has ls 3 [(0, .ref h0)] := hl
  refine lv_aload_n hx hb d_H_load_0 rfl (lv_at hl 0 rfl) ?_
  refine xt_call (D := D) (cl := xcl) (wr := [(rr, .inr (3, [r0, r1, r2, r3, r4, r5])), (tp, .inl (kt, 20, .inl f))]) (fun T hT X => by
    obtain ⟨cb, r1, r2, r3⟩ := va_recv hK hP (ci := 0) (q0 := 0) rfl rfl
    exact xt_invV X hx hown (hts _ m_ca4c1e21) (hts _ m_84507e46) (hts _ m_a7d2c7dd) (xt_sigOf (hts _ m_0953c753)) nm_H_refuseModuleBeyondLimit (by rw [hT]; exact r1) r2 r3 (g := F0 m 1 ls [.ref h0]) rfl (argsL := []) (rest := []) rfl rfl (by rw [hb]; exact d_H_load_1)) (c_H_refuseModuleBeyondLimit l D h0 (.ref tp) (.int 0) (a2) (.ref rr) (a5) (a6) (a7) (a8) (a9) (a10) s.heap.size) (hml.trans hl.1.symm) (by rw [hb]; exact d_H_load_1) (Nat.le_of_ble_eq_true rfl) rfl rfl (by decide) (by decide) (by decide) (by decide) (xt_w1 hB m_0953c753) (xt_cdOf hB m_0953c753) (hts _ m_ba0734f5) hB hK hP hD hS hA [0] [1, 2] [] rfl rfl rfl (by decide) (by decide) (by decide) (fun v2 u1 H locs hp hP hD hK hS => ?_) (fun XX9 ax9 u1 H locs hp hex hP hD hK hS => ?_)
  · obtain rfl : v2 = none := hp
    have hP : va_P D xcl [(rr, .inr (3, [r0, r1, r2, r3, r4, r5])), (tp, .inl (kt, 20, .inl f)), (h0, .inr (0, [.ref tp, .int 0, a2, .int 0, .ref rr, a5, a6, a7, a8, a9, a10]))] H := hP
    have hD : va_D A [(rr, .inr (3, [r0, r1, r2, r3, r4, r5])), (tp, .inl (kt, 20, .inl f)), (h0, .inr (0, [.ref tp, .int 0, a2, .int 0, .ref rr, a5, a6, a7, a8, a9, a10]))] := hD
    have hK : va_K D xcl [(kt, .byte)] s := hK
    refine W.eq (g2 := F0 m 4 ls []) rfl ?_
    refine W.widen (k := 0) (n := 0) (by omega) (by omega) ?_
    have hcq3 : 0 + 1 ≤ 29 := by decide
    have hsq3 : 0 + 19 ≤ 113 := by decide
    refine va_new (ci := 2) (fs := dfs_StackModule) (C := R_StackModule) (T := F_StackModule) (N := 19) hx hb hts fin_StackModule t_StackModule t_StackModule_ok hown (hts _ m_051f4bf9) (hts _ m_d718b775) (hts _ m_9c375545) hK hP hD hS hA rfl df_StackModule hcq3 hsq3 d_H_load_4 (fun q3 H hP hD hS => ?_)
    have hP : va_P D xcl [(rr, .inr (3, [r0, r1, r2, r3, r4, r5])), (tp, .inl (kt, 20, .inl f)), (h0, .inr (0, [.ref tp, .int 0, a2, .int 0, .ref rr, a5, a6, a7, a8, a9, a10])), (q3, .inr (2, [.null, .null, .null, .null, .null, .null, .null, .null, .null, .null, .null, .null, .null, .null, .null, .int 0, .int 0, .int 0, .int 0]))] H := hP
    have hD : va_D A [(rr, .inr (3, [r0, r1, r2, r3, r4, r5])), (tp, .inl (kt, 20, .inl f)), (h0, .inr (0, [.ref tp, .int 0, a2, .int 0, .ref rr, a5, a6, a7, a8, a9, a10])), (q3, .inr (2, [.null, .null, .null, .null, .null, .null, .null, .null, .null, .null, .null, .null, .null, .null, .null, .int 0, .int 0, .int 0, .int 0]))] := hD
    refine W.widen (k := 1) (n := 19) (by omega) (by omega) ?_
    refine lv_dup hx hb d_H_load_7 rfl ?_
    refine lv_aload_n hx hb d_H_load_8 rfl (lv_at hl 0 rfl) ?_
    refine va_get (D := D) (ci := 0) (v := .ref tp) (C := R_H) (T := F_H) (N := 11) hx hb hts fin_H hown hK hP 2 rfl rfl 0 (by decide) (hts _ m_4570233e) (fun _ h9 => h9) rfl d_H_load_9 ?_
    refine lv_aload_n hx hb d_H_load_12 rfl (lv_at hl 0 rfl) ?_
    refine va_get (D := D) (ci := 0) (v := .int 0) (C := R_H) (T := F_H) (N := 11) hx hb hts fin_H hown hK hP 2 rfl rfl 1 (by decide) (hts _ m_1ee8d2b8) (fun _ h9 => h9) rfl d_H_load_13 ?_
    refine xt_call (D := D) (cl := xcl) (wr := [(rr, .inr (3, [r0, r1, r2, r3, r4, r5])), (h0, .inr (0, [.ref tp, .int 0, a2, .int 0, .ref rr, a5, a6, a7, a8, a9, a10])), (q3, .inr (2, [.null, .null, .null, .null, .null, .null, .null, .null, .null, .null, .null, .null, .null, .null, .null, .int 0, .int 0, .int 0, .int 0]))]) (fun T hT X => xt_invS X hx hown (hts _ m_0530d46c) (hts _ m_492a2d9f) (hts _ m_b999e92a) (xt_sgS (hts _ m_6d9cb506)).1 (xt_sgS (hts _ m_6d9cb506)).2 nm_Arrays_copyOf (g := F0 m 16 ls [.int 0, .ref tp, .ref q3, .ref q3]) rfl (argsL := [.ref tp, .int 0]) (rest := [.ref q3, .ref q3]) rfl rfl (by rw [hb]; exact d_H_load_16)) (c_Arrays_copyOf l D tp kt f H.size) (hml.trans hl.1.symm) (by rw [hb]; exact d_H_load_16) (Nat.le_of_ble_eq_true rfl) rfl rfl (by decide) (by decide) (by decide) (by decide) (xt_w1 hB m_6d9cb506) (xt_cdOf hB m_6d9cb506) (hts _ m_b999e92a) hB hK hP hD hS hA [1] [0, 2, 3] [0] rfl rfl rfl (by decide) (by decide) (by decide) (fun v5 u4 H locs hp hP hD hK hS => ?_) (fun XX9 ax9 u4 H locs hp hex hP hD hK hS => ?_)
    · obtain rfl : v5 = some (.ref (u4 0)) := hp
      have hP : va_P D xcl [(rr, .inr (3, [r0, r1, r2, r3, r4, r5])), (h0, .inr (0, [.ref tp, .int 0, a2, .int 0, .ref rr, a5, a6, a7, a8, a9, a10])), (q3, .inr (2, [.null, .null, .null, .null, .null, .null, .null, .null, .null, .null, .null, .null, .null, .null, .null, .int 0, .int 0, .int 0, .int 0])), (tp, .inl (kt, 20, .inl f)), ((u4 0), .inl ((u4 1), 0, .inl (va_cpy f (fun _ => 0) (0 : Int32).toNatClampNeg (0 : Int32).toNatClampNeg (0 : Int32).toNatClampNeg)))] H := hP
      have hD : va_D A [(rr, .inr (3, [r0, r1, r2, r3, r4, r5])), (h0, .inr (0, [.ref tp, .int 0, a2, .int 0, .ref rr, a5, a6, a7, a8, a9, a10])), (q3, .inr (2, [.null, .null, .null, .null, .null, .null, .null, .null, .null, .null, .null, .null, .null, .null, .null, .int 0, .int 0, .int 0, .int 0])), (tp, .inl (kt, 20, .inl f)), ((u4 0), .inl ((u4 1), 0, .inl (va_cpy f (fun _ => 0) (0 : Int32).toNatClampNeg (0 : Int32).toNatClampNeg (0 : Int32).toNatClampNeg)))] := hD
      have hK : va_K D xcl [(kt, .byte), (kt, .byte), ((u4 1), .byte)] s := hK
      refine W.eq (g2 := F0 m 19 ls [.ref (u4 0), .ref q3, .ref q3]) rfl ?_
      refine W.widen (k := 2) (n := 19) (by omega) (by omega) ?_
      refine xt_call (D := D) (cl := xcl) (wr := [(rr, .inr (3, [r0, r1, r2, r3, r4, r5])), (h0, .inr (0, [.ref tp, .int 0, a2, .int 0, .ref rr, a5, a6, a7, a8, a9, a10])), (tp, .inl (kt, 20, .inl f))]) (fun T hT X => xt_invI X hx hown rfl (hts _ m_caec7b8d) (hts _ m_cb45c562) (hts _ m_81c3fd8b) nm_StackModule_init (g := F0 m 19 ls [.ref (u4 0), .ref q3, .ref q3]) rfl (b := q3) (argsL := [.ref (u4 0)]) (rest := [.ref q3]) rfl rfl (by rw [hb]; exact d_H_load_19)) (c_StackModule_init l D q3 (u4 0) (u4 1) (va_cpy f (fun _ => 0) (0 : Int32).toNatClampNeg (0 : Int32).toNatClampNeg (0 : Int32).toNatClampNeg) H.size) (hml.trans hl.1.symm) (by rw [hb]; exact d_H_load_19) (Nat.le_of_ble_eq_true rfl) rfl rfl (by decide) (by decide) (by decide) (by decide) (xt_w1 hB m_81c3fd8b) (xt_cdOf hB m_81c3fd8b) (hts _ m_9c375545) hB hK hP hD hS hA [2, 4] [0, 1, 3] [2] rfl rfl rfl (by decide) (by decide) (by decide) (fun v7 u6 H locs hp hP hD hK hS => ?_) (fun XX9 ax9 u6 H locs hp hex hP hD hK hS => ?_)
      · obtain rfl : v7 = none := hp
        have hP : va_P D xcl [(rr, .inr (3, [r0, r1, r2, r3, r4, r5])), (h0, .inr (0, [.ref tp, .int 0, a2, .int 0, .ref rr, a5, a6, a7, a8, a9, a10])), (tp, .inl (kt, 20, .inl f)), (q3, .inr (2, [.ref (u4 0), .ref (u6 13), .ref (u6 0), .ref (u6 1), .ref (u6 2), .ref (u6 3), .ref (u6 4), .ref (u6 5), .ref (u6 6), .ref (u6 7), .ref (u6 8), .ref (u6 9), .ref (u6 10), .ref (u6 11), .ref (u6 12), .int (-1), .int (-1), .int 0, .int 0])), ((u4 0), .inl ((u4 1), 0, .inl (va_cpy f (fun _ => 0) (0 : Int32).toNatClampNeg (0 : Int32).toNatClampNeg (0 : Int32).toNatClampNeg)))] H := hP
        have hD : va_D A [(rr, .inr (3, [r0, r1, r2, r3, r4, r5])), (h0, .inr (0, [.ref tp, .int 0, a2, .int 0, .ref rr, a5, a6, a7, a8, a9, a10])), (tp, .inl (kt, 20, .inl f)), (q3, .inr (2, [.ref (u4 0), .ref (u6 13), .ref (u6 0), .ref (u6 1), .ref (u6 2), .ref (u6 3), .ref (u6 4), .ref (u6 5), .ref (u6 6), .ref (u6 7), .ref (u6 8), .ref (u6 9), .ref (u6 10), .ref (u6 11), .ref (u6 12), .int (-1), .int (-1), .int 0, .int 0])), ((u4 0), .inl ((u4 1), 0, .inl (va_cpy f (fun _ => 0) (0 : Int32).toNatClampNeg (0 : Int32).toNatClampNeg (0 : Int32).toNatClampNeg)))] := hD
        have hK : va_K D xcl [(kt, .byte), (kt, .byte), ((u4 1), .byte), ((u4 1), .byte)] s := hK
        refine W.eq (g2 := F0 m 22 ls [.ref q3]) rfl ?_
        refine W.widen (k := 28) (n := 107) (by omega) (by omega) ?_
        refine lv_astore_n hx hb d_H_load_22 rfl hl (by decide) rfl (fun ls hl => ?_)
        have hl : lv_has ls 3 [(1, .ref q3), (0, .ref h0)] := hl
        refine lv_aload_n hx hb d_H_load_23 rfl (lv_at hl 1 rfl) ?_
        refine lv_iconst (v := 0) hx hb d_H_load_24 (by decide) ?_
        refine va_put (D := D) (ci := 0) (v := .int 0) (ty := .int) (C := R_H) (T := F_H) (N := 11) hx hb hts fin_H t_H t_H_ok n_H hown hK hP hD hS 1 rfl rfl 1 (by decide) (hts _ m_1ee8d2b8) (fun _ h9 => h9) rfl (by decide +kernel) (by first | rfl | decide) (by first | rfl | decide) (Nat.le_of_ble_eq_true rfl) d_H_load_25 (fun H locs hP hD hS => ?_)
        have hP : va_P D xcl [(rr, .inr (3, [r0, r1, r2, r3, r4, r5])), (h0, .inr (0, [.ref tp, .int 0, a2, .int 0, .ref rr, a5, a6, a7, a8, a9, a10])), (tp, .inl (kt, 20, .inl f)), (q3, .inr (2, [.ref (u4 0), .ref (u6 13), .ref (u6 0), .ref (u6 1), .ref (u6 2), .ref (u6 3), .ref (u6 4), .ref (u6 5), .ref (u6 6), .ref (u6 7), .ref (u6 8), .ref (u6 9), .ref (u6 10), .ref (u6 11), .ref (u6 12), .int (-1), .int (-1), .int 0, .int 0])), ((u4 0), .inl ((u4 1), 0, .inl (va_cpy f (fun _ => 0) (0 : Int32).toNatClampNeg (0 : Int32).toNatClampNeg (0 : Int32).toNatClampNeg)))] H := hP
        have hD : va_D A [(rr, .inr (3, [r0, r1, r2, r3, r4, r5])), (h0, .inr (0, [.ref tp, .int 0, a2, .int 0, .ref rr, a5, a6, a7, a8, a9, a10])), (tp, .inl (kt, 20, .inl f)), (q3, .inr (2, [.ref (u4 0), .ref (u6 13), .ref (u6 0), .ref (u6 1), .ref (u6 2), .ref (u6 3), .ref (u6 4), .ref (u6 5), .ref (u6 6), .ref (u6 7), .ref (u6 8), .ref (u6 9), .ref (u6 10), .ref (u6 11), .ref (u6 12), .int (-1), .int (-1), .int 0, .int 0])), ((u4 0), .inl ((u4 1), 0, .inl (va_cpy f (fun _ => 0) (0 : Int32).toNatClampNeg (0 : Int32).toNatClampNeg (0 : Int32).toNatClampNeg)))] := hD
        refine lv_aload_n hx hb d_H_load_28 rfl (lv_at hl 1 rfl) ?_
        refine lv_iconst (v := 0) hx hb d_H_load_29 (by decide) ?_
        refine va_put (D := D) (ci := 0) (v := .int 0) (ty := .int) (C := R_H) (T := F_H) (N := 11) hx hb hts fin_H t_H t_H_ok n_H hown hK hP hD hS 1 rfl rfl 9 (by decide) (hts _ m_149cae13) (fun _ h9 => h9) rfl (by decide +kernel) (by first | rfl | decide) (by first | rfl | decide) (Nat.le_of_ble_eq_true rfl) d_H_load_30 (fun H locs hP hD hS => ?_)
        have hP : va_P D xcl [(rr, .inr (3, [r0, r1, r2, r3, r4, r5])), (h0, .inr (0, [.ref tp, .int 0, a2, .int 0, .ref rr, a5, a6, a7, a8, .int 0, a10])), (tp, .inl (kt, 20, .inl f)), (q3, .inr (2, [.ref (u4 0), .ref (u6 13), .ref (u6 0), .ref (u6 1), .ref (u6 2), .ref (u6 3), .ref (u6 4), .ref (u6 5), .ref (u6 6), .ref (u6 7), .ref (u6 8), .ref (u6 9), .ref (u6 10), .ref (u6 11), .ref (u6 12), .int (-1), .int (-1), .int 0, .int 0])), ((u4 0), .inl ((u4 1), 0, .inl (va_cpy f (fun _ => 0) (0 : Int32).toNatClampNeg (0 : Int32).toNatClampNeg (0 : Int32).toNatClampNeg)))] H := hP
        have hD : va_D A [(rr, .inr (3, [r0, r1, r2, r3, r4, r5])), (h0, .inr (0, [.ref tp, .int 0, a2, .int 0, .ref rr, a5, a6, a7, a8, .int 0, a10])), (tp, .inl (kt, 20, .inl f)), (q3, .inr (2, [.ref (u4 0), .ref (u6 13), .ref (u6 0), .ref (u6 1), .ref (u6 2), .ref (u6 3), .ref (u6 4), .ref (u6 5), .ref (u6 6), .ref (u6 7), .ref (u6 8), .ref (u6 9), .ref (u6 10), .ref (u6 11), .ref (u6 12), .int (-1), .int (-1), .int 0, .int 0])), ((u4 0), .inl ((u4 1), 0, .inl (va_cpy f (fun _ => 0) (0 : Int32).toNatClampNeg (0 : Int32).toNatClampNeg (0 : Int32).toNatClampNeg)))] := hD
        refine lv_aload_n hx hb d_H_load_33 rfl (lv_at hl 1 rfl) ?_
        refine lv_iconst (v := 0) hx hb d_H_load_34 (by decide) ?_
        refine va_put (D := D) (ci := 0) (v := .int 0) (ty := .int) (C := R_H) (T := F_H) (N := 11) hx hb hts fin_H t_H t_H_ok n_H hown hK hP hD hS 1 rfl rfl 10 (by decide) (hts _ m_f8008c10) (fun _ h9 => h9) rfl (by decide +kernel) (by first | rfl | decide) (by first | rfl | decide) (Nat.le_of_ble_eq_true rfl) d_H_load_35 (fun H locs hP hD hS => ?_)
        have hP : va_P D xcl [(rr, .inr (3, [r0, r1, r2, r3, r4, r5])), (h0, .inr (0, [.ref tp, .int 0, a2, .int 0, .ref rr, a5, a6, a7, a8, .int 0, .int 0])), (tp, .inl (kt, 20, .inl f)), (q3, .inr (2, [.ref (u4 0), .ref (u6 13), .ref (u6 0), .ref (u6 1), .ref (u6 2), .ref (u6 3), .ref (u6 4), .ref (u6 5), .ref (u6 6), .ref (u6 7), .ref (u6 8), .ref (u6 9), .ref (u6 10), .ref (u6 11), .ref (u6 12), .int (-1), .int (-1), .int 0, .int 0])), ((u4 0), .inl ((u4 1), 0, .inl (va_cpy f (fun _ => 0) (0 : Int32).toNatClampNeg (0 : Int32).toNatClampNeg (0 : Int32).toNatClampNeg)))] H := hP
        have hD : va_D A [(rr, .inr (3, [r0, r1, r2, r3, r4, r5])), (h0, .inr (0, [.ref tp, .int 0, a2, .int 0, .ref rr, a5, a6, a7, a8, .int 0, .int 0])), (tp, .inl (kt, 20, .inl f)), (q3, .inr (2, [.ref (u4 0), .ref (u6 13), .ref (u6 0), .ref (u6 1), .ref (u6 2), .ref (u6 3), .ref (u6 4), .ref (u6 5), .ref (u6 6), .ref (u6 7), .ref (u6 8), .ref (u6 9), .ref (u6 10), .ref (u6 11), .ref (u6 12), .int (-1), .int (-1), .int 0, .int 0])), ((u4 0), .inl ((u4 1), 0, .inl (va_cpy f (fun _ => 0) (0 : Int32).toNatClampNeg (0 : Int32).toNatClampNeg (0 : Int32).toNatClampNeg)))] := hD
        refine lv_aload_n hx hb d_H_load_38 rfl (lv_at hl 1 rfl) ?_
        refine va_get (D := D) (ci := 0) (v := .ref rr) (C := R_H) (T := F_H) (N := 11) hx hb hts fin_H hown hK hP 1 rfl rfl 4 (by decide) (hts _ m_95161389) (fun _ h9 => h9) rfl d_H_load_39 ?_
        refine lv_aload_n hx hb d_H_load_42 rfl (lv_at hl 0 rfl) ?_
        refine xt_call (D := D) (cl := xcl) (wr := [(h0, .inr (0, [.ref tp, .int 0, a2, .int 0, .ref rr, a5, a6, a7, a8, .int 0, .int 0])), (tp, .inl (kt, 20, .inl f))]) (fun T hT X => by
          obtain ⟨cb, r1, r2, r3⟩ := va_recv hK hP (ci := 3) (q0 := 0) rfl rfl
          exact xt_invV X hx hown (hts _ m_ee2a0f1b) (hts _ m_14fb1c3a) (hts _ m_c788098c) (xt_sigOf (hts _ m_3c818aa7)) nm_Reader_readAll (by rw [hT]; exact r1) r2 r3 (g := F0 m 43 ls [.ref q3, .ref rr]) rfl (argsL := [.ref q3]) (rest := []) rfl rfl (by rw [hb]; exact d_H_load_43)) (c_Reader_readAll l hfl D rr q3 (u4 0) (u6 13) (u4 1) (va_cpy f (fun _ => 0) (0 : Int32).toNatClampNeg (0 : Int32).toNatClampNeg (0 : Int32).toNatClampNeg) (r0) (r1) (r2) (r3) (r4) (r5) (.ref (u6 0)) (.ref (u6 1)) (.ref (u6 2)) (.ref (u6 3)) (.ref (u6 4)) (.ref (u6 5)) (.ref (u6 6)) (.ref (u6 7)) (.ref (u6 8)) (.ref (u6 9)) (.ref (u6 10)) (.ref (u6 11)) (.ref (u6 12)) (.int (-1)) (.int (-1)) (.int 0) (.int 0) H.size) (hml.trans hl.1.symm) (by rw [hb]; exact d_H_load_43) (Nat.le_of_ble_eq_true rfl) rfl rfl (by decide) (by decide) (by decide) (by decide) (xt_w1 hB m_3c818aa7) (xt_cdOf hB m_3c818aa7) (hts _ m_938fcec4) hB hK hP hD hS hA [0, 3, 4] [1, 2] [2] rfl rfl rfl (by decide) (by decide) (by decide) (fun v9 u8 H locs hp hP hD hK hS => ?_) (fun XX9 ax9 u8 H locs hp hex hP hD hK hS => ?_)
        · exact False.elim hp
        · have hp : XX9 = "java/lang/IllegalArgumentException" := hp
          subst hp
          have hP : va_P D xcl [(h0, .inr (0, [.ref tp, .int 0, a2, .int 0, .ref rr, a5, a6, a7, a8, .int 0, .int 0])), (tp, .inl (kt, 20, .inl f)), (rr, .inr (3, [.ref q3, .ref (u4 0), .ref (u6 13), r3, .int 0, r5])), ((u4 0), .inl ((u4 1), 0, .inl (va_cpy f (fun _ => 0) (0 : Int32).toNatClampNeg (0 : Int32).toNatClampNeg (0 : Int32).toNatClampNeg))), (q3, .inr (2, [.ref (u4 0), .ref (u6 13), .ref (u6 0), .ref (u6 1), .ref (u6 2), .ref (u6 3), .ref (u6 4), .ref (u6 5), .ref (u6 6), .ref (u6 7), .ref (u6 8), .ref (u6 9), .ref (u6 10), .ref (u6 11), .ref (u6 12), .int (-1), .int (-1), .int 1, .int 0]))] H := hP
          have hD : va_D A [(h0, .inr (0, [.ref tp, .int 0, a2, .int 0, .ref rr, a5, a6, a7, a8, .int 0, .int 0])), (tp, .inl (kt, 20, .inl f)), (rr, .inr (3, [.ref q3, .ref (u4 0), .ref (u6 13), r3, .int 0, r5])), ((u4 0), .inl ((u4 1), 0, .inl (va_cpy f (fun _ => 0) (0 : Int32).toNatClampNeg (0 : Int32).toNatClampNeg (0 : Int32).toNatClampNeg))), (q3, .inr (2, [.ref (u4 0), .ref (u6 13), .ref (u6 0), .ref (u6 1), .ref (u6 2), .ref (u6 3), .ref (u6 4), .ref (u6 5), .ref (u6 6), .ref (u6 7), .ref (u6 8), .ref (u6 9), .ref (u6 10), .ref (u6 11), .ref (u6 12), .int (-1), .int (-1), .int 1, .int 0]))] := hD
          have hK : va_K D xcl [(kt, .byte), (kt, .byte), ((u4 1), .byte), ((u4 1), .byte), ((u4 1), .byte)] s := hK
          refine xt_catch (own := "StackHost") (name := "java/lang/IllegalArgumentException") (Xn := "java/lang/IllegalArgumentException") hown ⟨38, 54, 57, 86⟩ [] htab (by decide) (by decide) (hts _ m_234fc2b1) (hts _ m_b3980edb) hex ?_
          refine W.eq (g2 := F0 m 57 ls [.ref ax9]) rfl ?_
          refine W.widen (k := 29) (n := 113) (by omega) (by omega) ?_
          refine lv_astore_n hx hb d_H_load_57 rfl hl (by decide) rfl (fun ls hl => ?_)
          have hl : lv_has ls 3 [(2, .ref ax9), (1, .ref q3), (0, .ref h0)] := hl
          refine lv_aload_n hx hb d_H_load_58 rfl (lv_at hl 2 rfl) ?_
          refine lv_aload_n hx hb d_H_load_59 rfl (lv_at hl 1 rfl) ?_
          refine va_get (D := D) (ci := 2) (v := .int 1) (C := R_StackModule) (T := F_StackModule) (N := 19) hx hb hts fin_StackModule hown hK hP 4 rfl rfl 17 (by decide) (hts _ m_c484329e) (fun _ h9 => h9) rfl d_H_load_60 ?_
          refine va_put (D := D) (ci := 0) (v := .int 1) (ty := .int) (C := R_H) (T := F_H) (N := 11) hx hb hts fin_H t_H t_H_ok n_H hown hK hP hD hS 0 rfl rfl 9 (by decide) (hts _ m_149cae13) (fun _ h9 => h9) rfl (by decide +kernel) (by first | rfl | decide) (by first | rfl | decide) (Nat.le_of_ble_eq_true rfl) d_H_load_63 (fun H locs hP hD hS => ?_)
          have hP : va_P D xcl [(h0, .inr (0, [.ref tp, .int 0, a2, .int 0, .ref rr, a5, a6, a7, a8, .int 1, .int 0])), (tp, .inl (kt, 20, .inl f)), (rr, .inr (3, [.ref q3, .ref (u4 0), .ref (u6 13), r3, .int 0, r5])), ((u4 0), .inl ((u4 1), 0, .inl (va_cpy f (fun _ => 0) (0 : Int32).toNatClampNeg (0 : Int32).toNatClampNeg (0 : Int32).toNatClampNeg))), (q3, .inr (2, [.ref (u4 0), .ref (u6 13), .ref (u6 0), .ref (u6 1), .ref (u6 2), .ref (u6 3), .ref (u6 4), .ref (u6 5), .ref (u6 6), .ref (u6 7), .ref (u6 8), .ref (u6 9), .ref (u6 10), .ref (u6 11), .ref (u6 12), .int (-1), .int (-1), .int 1, .int 0]))] H := hP
          have hD : va_D A [(h0, .inr (0, [.ref tp, .int 0, a2, .int 0, .ref rr, a5, a6, a7, a8, .int 1, .int 0])), (tp, .inl (kt, 20, .inl f)), (rr, .inr (3, [.ref q3, .ref (u4 0), .ref (u6 13), r3, .int 0, r5])), ((u4 0), .inl ((u4 1), 0, .inl (va_cpy f (fun _ => 0) (0 : Int32).toNatClampNeg (0 : Int32).toNatClampNeg (0 : Int32).toNatClampNeg))), (q3, .inr (2, [.ref (u4 0), .ref (u6 13), .ref (u6 0), .ref (u6 1), .ref (u6 2), .ref (u6 3), .ref (u6 4), .ref (u6 5), .ref (u6 6), .ref (u6 7), .ref (u6 8), .ref (u6 9), .ref (u6 10), .ref (u6 11), .ref (u6 12), .int (-1), .int (-1), .int 1, .int 0]))] := hD
          refine lv_aload_n hx hb d_H_load_66 rfl (lv_at hl 2 rfl) ?_
          refine lv_aload_n hx hb d_H_load_67 rfl (lv_at hl 1 rfl) ?_
          refine va_get (D := D) (ci := 2) (v := .int 0) (C := R_StackModule) (T := F_StackModule) (N := 19) hx hb hts fin_StackModule hown hK hP 4 rfl rfl 18 (by decide) (hts _ m_bf14d6e8) (fun _ h9 => h9) rfl d_H_load_68 ?_
          refine va_put (D := D) (ci := 0) (v := .int 0) (ty := .int) (C := R_H) (T := F_H) (N := 11) hx hb hts fin_H t_H t_H_ok n_H hown hK hP hD hS 0 rfl rfl 10 (by decide) (hts _ m_f8008c10) (fun _ h9 => h9) rfl (by decide +kernel) (by first | rfl | decide) (by first | rfl | decide) (Nat.le_of_ble_eq_true rfl) d_H_load_71 (fun H locs hP hD hS => ?_)
          have hP : va_P D xcl [(h0, .inr (0, [.ref tp, .int 0, a2, .int 0, .ref rr, a5, a6, a7, a8, .int 1, .int 0])), (tp, .inl (kt, 20, .inl f)), (rr, .inr (3, [.ref q3, .ref (u4 0), .ref (u6 13), r3, .int 0, r5])), ((u4 0), .inl ((u4 1), 0, .inl (va_cpy f (fun _ => 0) (0 : Int32).toNatClampNeg (0 : Int32).toNatClampNeg (0 : Int32).toNatClampNeg))), (q3, .inr (2, [.ref (u4 0), .ref (u6 13), .ref (u6 0), .ref (u6 1), .ref (u6 2), .ref (u6 3), .ref (u6 4), .ref (u6 5), .ref (u6 6), .ref (u6 7), .ref (u6 8), .ref (u6 9), .ref (u6 10), .ref (u6 11), .ref (u6 12), .int (-1), .int (-1), .int 1, .int 0]))] H := hP
          have hD : va_D A [(h0, .inr (0, [.ref tp, .int 0, a2, .int 0, .ref rr, a5, a6, a7, a8, .int 1, .int 0])), (tp, .inl (kt, 20, .inl f)), (rr, .inr (3, [.ref q3, .ref (u4 0), .ref (u6 13), r3, .int 0, r5])), ((u4 0), .inl ((u4 1), 0, .inl (va_cpy f (fun _ => 0) (0 : Int32).toNatClampNeg (0 : Int32).toNatClampNeg (0 : Int32).toNatClampNeg))), (q3, .inr (2, [.ref (u4 0), .ref (u6 13), .ref (u6 0), .ref (u6 1), .ref (u6 2), .ref (u6 3), .ref (u6 4), .ref (u6 5), .ref (u6 6), .ref (u6 7), .ref (u6 8), .ref (u6 9), .ref (u6 10), .ref (u6 11), .ref (u6 12), .int (-1), .int (-1), .int 1, .int 0]))] := hD
          refine lv_iconst (v := (-1)) hx hb d_H_load_74 (by decide) ?_
          refine W.widen (k := 29) (n := 113) (by decide) (by decide) ?_
          refine xt_mono xt_ofMQ ?_
          exact W.iret hx hb hr (fun t ht hW => ⟨(fun _ => 0), Or.inl ⟨_, rfl, rfl⟩, by rw [ht]; exact hP.sub [0, 1] rfl, va_K.moved hW.alike (hK.sub [0] rfl), hD.sub [0, 1] (by decide) rfl, hS.F ht⟩) hS.2.2 d_H_load_75 hlocks
      · exact False.elim hp
    · exact False.elim hp
  · exact False.elim hp

set_option maxHeartbeats 4000000 in
set_option maxRecDepth 100000 in
theorem c_Law_load (l : Launch) (hfl : l.flags = pinnedFlags ++ [noTraceFlag]) (D : va_G) (h0 rr tp kt : Nat) (f : Nat → Int32) (a2 a5 a6 a7 a8 a9 a10 : Value) (r0 r1 r2 r3 r4 r5 : Value) (ou ko : Nat) (fo : Nat → Int64) (sz : Nat) : xt_Met l y_Law_load [.codeWith y_Law_load b_Law_load 3 (some .int) [(0, 8, 11, 13)]] ({ frames := 11, cells := 29, slots := 113, locals := 420 }) (xt_P D xcl [.ref h0, .ref ou] [(h0, .inr (0, [.ref tp, .int 0, a2, .int 0, .ref rr, a5, a6, a7, a8, a9, a10])), (rr, .inr (3, [r0, r1, r2, r3, r4, r5])), (tp, .inl (kt, 20, .inl f)), (ou, .inl (ko, 1, .inr (.inl fo)))] [(kt, .byte), (ko, .long)] sz) (xt_Q (S := Nat → Nat) D xcl (va_A [(h0, .inr (0, [.ref tp, .int 0, a2, .int 0, .ref rr, a5, a6, a7, a8, a9, a10])), (rr, .inr (3, [r0, r1, r2, r3, r4, r5])), (tp, .inl (kt, 20, .inl f)), (ou, .inl (ko, 1, .inr (.inl fo)))] sz) (fun v u => v = some (.int 0)) (fun _ _ => False) (fun u => [(ou, .inl (ko, 1, .inr (.inl (vp_updL fo (0 : Int32).toNatClampNeg (-1))))), (h0, .inr (0, [.ref tp, .int 0, a2, .int 0, .ref rr, a5, a6, a7, a8, .int 1, .int 0])), (tp, .inl (kt, 20, .inl f))]) (fun u => [(ko, .long), (kt, .byte)])) 29 113 (va_A [(h0, .inr (0, [.ref tp, .int 0, a2, .int 0, .ref rr, a5, a6, a7, a8, a9, a10])), (rr, .inr (3, [r0, r1, r2, r3, r4, r5])), (tp, .inl (kt, 20, .inl f)), (ou, .inl (ko, 1, .inr (.inl fo)))] sz) := by
  refine xt_ofWH (cc := b_Law_load) (maxL := 3) (ret := (some .int)) (by decide) (List.mem_singleton.mpr rfl) ?_
  intro p e s m args below meth c s₁ B hml htab hv
  obtain ⟨rfl, hsz, hB, hP, hK, hD0⟩ := hv
  subst hsz
  have hx := B.exec
  have hb := B.bytes
  have hr := B.returns
  have hts := hB.1.at ([.ref h0, .ref ou] : List Value).toArray
  have hown : s.vm.findClass "StackHostLaw" = some m.cls := findClass_of_methodNamed B.named
  have hlocks := B.notSynchronized
  have hD := hD0.self (sz := s.heap.size)
  generalize hAe : va_A [(h0, .inr (0, [.ref tp, .int 0, a2, .int 0, .ref rr, a5, a6, a7, a8, a9, a10])), (rr, .inr (3, [r0, r1, r2, r3, r4, r5])), (tp, .inl (kt, 20, .inl f)), (ou, .inl (ko, 1, .inr (.inl fo)))] s.heap.size = A at hB hD ⊢
  have hA : ∀ q : Nat, s.heap.size ≤ q → A q := fun q h => by rw [← hAe]; exact Or.inr h
  have hS : va_S A s.heap s.heap [] := va_S.rf
  have hl := lv_entry ([.ref h0, .ref ou]) (n := 3) (Nat.le_of_ble_eq_true rfl)
  rw [lg_entry_eq]
  generalize (lg_sl ([.ref h0, .ref ou]) ++ List.replicate (3 - (lg_sl ([.ref h0, .ref ou])).length) Slot.unset).toArray = ls at hl ⊢
  have hl : lv_has ls 3 [(0, .ref h0), (1, .ref ou)] := hl
  refine lv_aload_n hx hb d_Law_load_0 rfl (lv_at hl 1 rfl) ?_
  refine lv_iconst (v := 0) hx hb d_Law_load_1 (by decide) ?_
  refine lv_aload_n hx hb d_Law_load_2 rfl (lv_at hl 0 rfl) ?_
  refine xt_call (D := D) (cl := xcl) (wr := [(ou, .inl (ko, 1, .inr (.inl fo)))]) (fun T hT X => by
    obtain ⟨cb, r1, r2, r3⟩ := va_recv hK hP (ci := 0) (q0 := 0) rfl rfl
    exact xt_invV X hx hown (hts _ m_99343911) (hts _ m_824d9955) (hts _ m_f5861a72) (xt_sigOfH (hts _ m_2468cc82)) nm_H_load (by rw [hT]; exact r1) r2 r3 (g := F0 m 3 ls [.ref h0, .int 0, .ref ou]) rfl (argsL := []) (rest := [.int 0, .ref ou]) rfl rfl (by rw [hb]; exact d_Law_load_3)) (c_H_load l hfl D h0 rr tp kt f (a2) (a5) (a6) (a7) (a8) (a9) (a10) (r0) (r1) (r2) (r3) (r4) (r5) s.heap.size) (hml.trans hl.1.symm) (by rw [hb]; exact d_Law_load_3) (Nat.le_of_ble_eq_true rfl) rfl rfl (by decide) (by decide) (by decide) (by decide) (xt_w1 hB m_2468cc82) (xt_cdOfH hB m_2468cc82) (hts _ m_ba0734f5) hB hK hP hD hS hA [0, 1, 2] [3] [0] rfl rfl rfl (by decide) (by decide) (by decide) (fun v2 u1 H locs hp hP hD hK hS => ?_) (fun XX9 ax9 u1 H locs hp hex hP hD hK hS => ?_)
  · obtain rfl : v2 = some (.int (-1)) := hp
    have hP : va_P D xcl [(ou, .inl (ko, 1, .inr (.inl fo))), (h0, .inr (0, [.ref tp, .int 0, a2, .int 0, .ref rr, a5, a6, a7, a8, .int 1, .int 0])), (tp, .inl (kt, 20, .inl f))] H := hP
    have hD : va_D A [(ou, .inl (ko, 1, .inr (.inl fo))), (h0, .inr (0, [.ref tp, .int 0, a2, .int 0, .ref rr, a5, a6, a7, a8, .int 1, .int 0])), (tp, .inl (kt, 20, .inl f))] := hD
    have hK : va_K D xcl [(kt, .byte), (ko, .long), (kt, .byte)] s := hK
    refine W.eq (g2 := F0 m 6 ls [.int (-1), .int 0, .ref ou]) rfl ?_
    refine W.widen (k := 29) (n := 113) (by omega) (by omega) ?_
    refine lv_i2l (v := (-1)) hx hb d_Law_load_6 (by decide +kernel) ?_
    refine va_last (i := 0) (x := (-1)) hx hb hK hP hD hS 0 1 rfl rfl (xt_vin (by decide +kernel)) d_Law_load_7 (fun H locs hP hD hS => ?_)
    have hP : va_P D xcl [(ou, .inl (ko, 1, .inr (.inl (vp_updL fo (0 : Int32).toNatClampNeg (-1))))), (h0, .inr (0, [.ref tp, .int 0, a2, .int 0, .ref rr, a5, a6, a7, a8, .int 1, .int 0])), (tp, .inl (kt, 20, .inl f))] H := hP
    have hD : va_D A [(ou, .inl (ko, 1, .inr (.inl (vp_updL fo (0 : Int32).toNatClampNeg (-1))))), (h0, .inr (0, [.ref tp, .int 0, a2, .int 0, .ref rr, a5, a6, a7, a8, .int 1, .int 0])), (tp, .inl (kt, 20, .inl f))] := hD
    refine lv_goto (tgt := 14) hx hb d_Law_load_8 rfl ?_
    refine lv_iconst (v := 0) hx hb d_Law_load_14 (by decide) ?_
    refine W.widen (k := 29) (n := 113) (by decide) (by decide) ?_
    refine xt_mono xt_ofMQ ?_
    exact W.iret hx hb hr (fun t ht hW => ⟨(fun _ => 0), Or.inl ⟨_, rfl, rfl⟩, by rw [ht]; exact hP.sub [0, 1, 2] rfl, va_K.moved hW.alike (hK.sub [1, 0] rfl), hD.sub [0, 1, 2] (by decide) rfl, hS.F ht⟩) hS.2.2 d_Law_load_15 hlocks
  · exact False.elim hp

