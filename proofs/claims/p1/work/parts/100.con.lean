set_option maxHeartbeats 4000000 in
set_option maxRecDepth 100000 in
theorem c_Row_init (l : Launch) (D : va_G) (h0 : Nat) (n : Int32) (sz : Nat) : xt_Met l y_Row_init [.code y_Row_init b_Row_init 2 none] ({ frames := 8, cells := 1, slots := 4, locals := 120 }) (xt_P D xcl [.ref h0, .int n] [(h0, .inr (1, [.null, .int 0, .int 0]))] [] sz) (xt_Q (S := Nat → Nat) D xcl (va_A [(h0, .inr (1, [.null, .int 0, .int 0]))] sz) (fun v _ => v = none) (fun _ _ => False) (fun u => [(h0, .inr (1, [.ref (u 0), .int 0, .int n])), ((u 0), .inl ((u 1), 4, .inr (.inl (fun _ => 0))))]) (fun u => [((u 1), .long)])) 1 4 (va_A [(h0, .inr (1, [.null, .int 0, .int 0]))] sz) := by
  refine xt_ofW (cc := b_Row_init) (maxL := 2) (ret := none) (by decide) (List.mem_singleton.mpr rfl) ?_
  intro p e s m args below meth c s₁ B hml htab hv
  obtain ⟨rfl, hsz, hB, hP, hK, hD0⟩ := hv
  subst hsz
  have hx := B.exec
  have hb := B.bytes
  have hr := B.returns
  have hts := hB.1.at ([.ref h0, .int n] : List Value).toArray
  have hown : s.vm.findClass "StackHost$Row" = some m.cls := findClass_of_methodNamed B.named
  have hlocks := B.notSynchronized
  have hin : meth.name = "<init>" := (name_of_methodNamed B.named B.method).1
  have hD := hD0.self (sz := s.heap.size)
  generalize hAe : va_A [(h0, .inr (1, [.null, .int 0, .int 0]))] s.heap.size = A at hB hD ⊢
  have hA : ∀ q : Nat, s.heap.size ≤ q → A q := fun q h => by rw [← hAe]; exact Or.inr h
  have hS : va_S A s.heap s.heap [] := va_S.rf
  have hl := lv_entry ([.ref h0, .int n]) (n := 2) (Nat.le_of_ble_eq_true rfl)
  rw [lg_entry_eq]
  generalize (lg_sl ([.ref h0, .int n]) ++ List.replicate (2 - (lg_sl ([.ref h0, .int n])).length) Slot.unset).toArray = ls at hl ⊢
  have hl : lv_has ls 2 [(0, .ref h0), (1, .int n)] := hl
  refine lv_aload_n hx hb d_Row_init_0 rfl (lv_at hl 0 rfl) ?_
  refine W.objInit hx hb hown (hts _ m_eafba9d9) (hts _ m_fba9d542) (hts _ m_9febdb7e) rfl (hml.trans hl.1.symm).symm rfl d_Row_init_1 (Nat.le_of_ble_eq_true rfl) (Nat.le_of_ble_eq_true rfl) ?_
  refine W.eq (g2 := F0 m 4 ls []) rfl ?_
  refine lv_aload_n hx hb d_Row_init_4 rfl (lv_at hl 0 rfl) ?_
  refine lv_iload_n hx hb d_Row_init_5 rfl (lv_at hl 1 rfl) ?_
  refine va_putF (D := D) (ci := 1) (v := .int n) (ty := .int) (C := R_Row) (T := F_Row) (N := 3) hx hb hts fin_Row t_Row t_Row_ok n_Row hown hK hP hD hS 0 rfl rfl 2 (by decide) (hts _ m_d0ffeaec) (fun _ h9 => h9) rfl hin rfl (by decide +kernel) (by first | rfl | decide) (by first | rfl | decide) (Nat.le_of_ble_eq_true rfl) d_Row_init_6 (fun H locs hP hD hS => ?_)
  have hP : va_P D xcl [(h0, .inr (1, [.null, .int 0, .int n]))] H := hP
  have hD : va_D A [(h0, .inr (1, [.null, .int 0, .int n]))] := hD
  refine lv_aload_n hx hb d_Row_init_9 rfl (lv_at hl 0 rfl) ?_
  refine lv_iconst (v := 4) hx hb d_Row_init_10 (by decide) ?_
  have hcq1 : 0 + 1 ≤ 1 := by decide
  have hsq1 : 0 + 4 ≤ 4 := by decide
  refine va_newa (atype := .long) (ty := .long) (a0 := (4, .inr (.inl (fun _ => 0)))) (n := 4) (N' := 4) hx hb (hts _ m_f2af499d) rfl hK hP hD hS hA (fun _ => rfl) (by decide +kernel) (by decide +kernel) (by decide +kernel) hcq1 hsq1 d_Row_init_11 (fun q1 k2 H hK hP hD hS => ?_)
  have hP : va_P D xcl [(h0, .inr (1, [.null, .int 0, .int n])), (q1, .inl (k2, 4, .inr (.inl (fun _ => 0))))] H := hP
  have hD : va_D A [(h0, .inr (1, [.null, .int 0, .int n])), (q1, .inl (k2, 4, .inr (.inl (fun _ => 0))))] := hD
  have hK : va_K D xcl [(k2, .long)] s := hK
  refine W.widen (k := 1) (n := 4) (by omega) (by omega) ?_
  refine va_put (D := D) (ci := 1) (v := .ref q1) (ty := .array .long) (C := R_Row) (T := F_Row) (N := 3) hx hb hts fin_Row t_Row t_Row_ok n_Row hown hK hP hD hS 0 rfl rfl 0 (by decide) (hts _ m_8e18d96c) (fun _ h9 => h9) rfl (by decide +kernel) (by first | rfl | decide) (by first | rfl | decide) (Nat.le_of_ble_eq_true rfl) d_Row_init_13 (fun H locs hP hD hS => ?_)
  have hP : va_P D xcl [(h0, .inr (1, [.ref q1, .int 0, .int n])), (q1, .inl (k2, 4, .inr (.inl (fun _ => 0))))] H := hP
  have hD : va_D A [(h0, .inr (1, [.ref q1, .int 0, .int n])), (q1, .inl (k2, 4, .inr (.inl (fun _ => 0))))] := hD
  refine W.widen (k := 1) (n := 4) (by decide) (by decide) ?_
  refine xt_mono xt_ofMQ ?_
  exact W.vret hx hb hr (fun t ht hW => ⟨(fun k => [q1, k2].getD k 0), Or.inl ⟨_, rfl, rfl⟩, by rw [ht]; exact hP.sub [0, 1] rfl, va_K.moved hW.alike (hK.sub [0] rfl), hD.sub [0, 1] (by decide) rfl, hS.F ht⟩) hS.2.2 d_Row_init_16 hlocks

set_option maxHeartbeats 4000000 in
set_option maxRecDepth 100000 in
theorem c_Reader_init (l : Launch) (D : va_G) (h0 : Nat) (sz : Nat) : xt_Met l y_Reader_init [.code y_Reader_init b_Reader_init 1 none] ({ frames := 8, cells := 1, slots := 200, locals := 120 }) (xt_P D xcl [.ref h0] [(h0, .inr (3, [.null, .null, .null, .int 0, .int 0, .null]))] [] sz) (xt_Q (S := Nat → Nat) D xcl (va_A [(h0, .inr (3, [.null, .null, .null, .int 0, .int 0, .null]))] sz) (fun v _ => v = none) (fun _ _ => False) (fun u => [(h0, .inr (3, [.null, .null, .null, .int 0, .int 0, .ref (u 0)])), ((u 0), .inl ((u 1), 200, .inl (fun _ => 0)))]) (fun u => [((u 1), .int)])) 1 200 (va_A [(h0, .inr (3, [.null, .null, .null, .int 0, .int 0, .null]))] sz) := by
  refine xt_ofW (cc := b_Reader_init) (maxL := 1) (ret := none) (by decide) (List.mem_singleton.mpr rfl) ?_
  intro p e s m args below meth c s₁ B hml htab hv
  obtain ⟨rfl, hsz, hB, hP, hK, hD0⟩ := hv
  subst hsz
  have hx := B.exec
  have hb := B.bytes
  have hr := B.returns
  have hts := hB.1.at ([.ref h0] : List Value).toArray
  have hown : s.vm.findClass "StackHost$Reader" = some m.cls := findClass_of_methodNamed B.named
  have hlocks := B.notSynchronized
  have hin : meth.name = "<init>" := (name_of_methodNamed B.named B.method).1
  have hD := hD0.self (sz := s.heap.size)
  generalize hAe : va_A [(h0, .inr (3, [.null, .null, .null, .int 0, .int 0, .null]))] s.heap.size = A at hB hD ⊢
  have hA : ∀ q : Nat, s.heap.size ≤ q → A q := fun q h => by rw [← hAe]; exact Or.inr h
  have hS : va_S A s.heap s.heap [] := va_S.rf
  have hl := lv_entry ([.ref h0]) (n := 1) (Nat.le_of_ble_eq_true rfl)
  rw [lg_entry_eq]
  generalize (lg_sl ([.ref h0]) ++ List.replicate (1 - (lg_sl ([.ref h0])).length) Slot.unset).toArray = ls at hl ⊢
  have hl : lv_has ls 1 [(0, .ref h0)] := hl
  refine lv_aload_n hx hb d_Reader_init_0 rfl (lv_at hl 0 rfl) ?_
  refine W.objInit hx hb hown (hts _ m_fd6399d7) (hts _ m_fba9d542) (hts _ m_9febdb7e) rfl (hml.trans hl.1.symm).symm rfl d_Reader_init_1 (Nat.le_of_ble_eq_true rfl) (Nat.le_of_ble_eq_true rfl) ?_
  refine W.eq (g2 := F0 m 4 ls []) rfl ?_
  refine lv_aload_n hx hb d_Reader_init_4 rfl (lv_at hl 0 rfl) ?_
  refine lv_sipush (v := 200) hx hb d_Reader_init_5 (by decide) ?_
  have hcq1 : 0 + 1 ≤ 1 := by decide
  have hsq1 : 0 + 200 ≤ 200 := by decide
  refine va_newa (atype := .int) (ty := .int) (a0 := (200, .inl (fun _ => 0))) (n := 200) (N' := 200) hx hb (hts _ m_d160d5ac) rfl hK hP hD hS hA (fun _ => rfl) (by decide +kernel) (by decide +kernel) (by decide +kernel) hcq1 hsq1 d_Reader_init_8 (fun q1 k2 H hK hP hD hS => ?_)
  have hP : va_P D xcl [(h0, .inr (3, [.null, .null, .null, .int 0, .int 0, .null])), (q1, .inl (k2, 200, .inl (fun _ => 0)))] H := hP
  have hD : va_D A [(h0, .inr (3, [.null, .null, .null, .int 0, .int 0, .null])), (q1, .inl (k2, 200, .inl (fun _ => 0)))] := hD
  have hK : va_K D xcl [(k2, .int)] s := hK
  refine W.widen (k := 1) (n := 200) (by omega) (by omega) ?_
  refine va_putF (D := D) (ci := 3) (v := .ref q1) (ty := .array .int) (C := R_Reader) (T := F_Reader) (N := 6) hx hb hts fin_Reader t_Reader t_Reader_ok n_Reader hown hK hP hD hS 0 rfl rfl 5 (by decide) (hts _ m_59e07c6d) (fun _ h9 => h9) rfl hin rfl (by decide +kernel) (by first | rfl | decide) (by first | rfl | decide) (Nat.le_of_ble_eq_true rfl) d_Reader_init_10 (fun H locs hP hD hS => ?_)
  have hP : va_P D xcl [(h0, .inr (3, [.null, .null, .null, .int 0, .int 0, .ref q1])), (q1, .inl (k2, 200, .inl (fun _ => 0)))] H := hP
  have hD : va_D A [(h0, .inr (3, [.null, .null, .null, .int 0, .int 0, .ref q1])), (q1, .inl (k2, 200, .inl (fun _ => 0)))] := hD
  refine W.widen (k := 1) (n := 200) (by decide) (by decide) ?_
  refine xt_mono xt_ofMQ ?_
  exact W.vret hx hb hr (fun t ht hW => ⟨(fun k => [q1, k2].getD k 0), Or.inl ⟨_, rfl, rfl⟩, by rw [ht]; exact hP.sub [0, 1] rfl, va_K.moved hW.alike (hK.sub [0] rfl), hD.sub [0, 1] (by decide) rfl, hS.F ht⟩) hS.2.2 d_Reader_init_13 hlocks

set_option maxHeartbeats 4000000 in
set_option maxRecDepth 100000 in
theorem c_Checker_init (l : Launch) (D : va_G) (h0 : Nat) (sz : Nat) : xt_Met l y_Checker_init [.code y_Checker_init b_Checker_init 1 none] ({ frames := 8, cells := 8, slots := 2207, locals := 120 }) (xt_P D xcl [.ref h0] [(h0, .inr (4, [.null, .null, .null, .null, .int 0, .int 0, .null, .int 0, .int 0, .int 0, .null, .null, .null, .null, .null, .null, .int 0]))] [] sz) (xt_Q (S := Nat → Nat) D xcl (va_A [(h0, .inr (4, [.null, .null, .null, .null, .int 0, .int 0, .null, .int 0, .int 0, .int 0, .null, .null, .null, .null, .null, .null, .int 0]))] sz) (fun v _ => v = none) (fun _ _ => False) (fun u => [(h0, .inr (4, [.null, .null, .null, .ref (u 0), .int 0, .int 0, .ref (u 2), .int 0, .int 0, .int 0, .ref (u 4), .ref (u 6), .ref (u 8), .ref (u 10), .ref (u 12), .ref (u 14), .int 0])), ((u 0), .inl ((u 1), 1, .inl (fun _ => 0))), ((u 2), .inl ((u 3), 1000, .inl (fun _ => 0))), ((u 4), .inl ((u 5), 201, .inl (fun _ => 0))), ((u 6), .inl ((u 7), 201, .inl (fun _ => 0))), ((u 8), .inl ((u 9), 201, .inl (fun _ => 0))), ((u 10), .inl ((u 11), 201, .inl (fun _ => 0))), ((u 12), .inl ((u 13), 201, .inl (fun _ => 0))), ((u 14), .inl ((u 15), 201, .inl (fun _ => 0)))]) (fun u => [((u 1), .byte), ((u 3), .byte), ((u 5), .int), ((u 7), .int), ((u 9), .int), ((u 11), .int), ((u 13), .int), ((u 15), .boolean)])) 8 2207 (va_A [(h0, .inr (4, [.null, .null, .null, .null, .int 0, .int 0, .null, .int 0, .int 0, .int 0, .null, .null, .null, .null, .null, .null, .int 0]))] sz) := by
  refine xt_ofW (cc := b_Checker_init) (maxL := 1) (ret := none) (by decide) (List.mem_singleton.mpr rfl) ?_
  intro p e s m args below meth c s₁ B hml htab hv
  obtain ⟨rfl, hsz, hB, hP, hK, hD0⟩ := hv
  subst hsz
  have hx := B.exec
  have hb := B.bytes
  have hr := B.returns
  have hts := hB.1.at ([.ref h0] : List Value).toArray
  have hown : s.vm.findClass "StackHost$Checker" = some m.cls := findClass_of_methodNamed B.named
  have hlocks := B.notSynchronized
  have hin : meth.name = "<init>" := (name_of_methodNamed B.named B.method).1
  have hD := hD0.self (sz := s.heap.size)
  generalize hAe : va_A [(h0, .inr (4, [.null, .null, .null, .null, .int 0, .int 0, .null, .int 0, .int 0, .int 0, .null, .null, .null, .null, .null, .null, .int 0]))] s.heap.size = A at hB hD ⊢
  have hA : ∀ q : Nat, s.heap.size ≤ q → A q := fun q h => by rw [← hAe]; exact Or.inr h
  have hS : va_S A s.heap s.heap [] := va_S.rf
  have hl := lv_entry ([.ref h0]) (n := 1) (Nat.le_of_ble_eq_true rfl)
  rw [lg_entry_eq]
  generalize (lg_sl ([.ref h0]) ++ List.replicate (1 - (lg_sl ([.ref h0])).length) Slot.unset).toArray = ls at hl ⊢
  have hl : lv_has ls 1 [(0, .ref h0)] := hl
  refine lv_aload_n hx hb d_Checker_init_0 rfl (lv_at hl 0 rfl) ?_
  refine W.objInit hx hb hown (hts _ m_db7173ad) (hts _ m_fba9d542) (hts _ m_9febdb7e) rfl (hml.trans hl.1.symm).symm rfl d_Checker_init_1 (Nat.le_of_ble_eq_true rfl) (Nat.le_of_ble_eq_true rfl) ?_
  refine W.eq (g2 := F0 m 4 ls []) rfl ?_
  refine lv_aload_n hx hb d_Checker_init_4 rfl (lv_at hl 0 rfl) ?_
  refine lv_iconst (v := 1) hx hb d_Checker_init_5 (by decide) ?_
  have hcq1 : 0 + 1 ≤ 8 := by decide
  have hsq1 : 0 + 1 ≤ 2207 := by decide
  refine va_newa (atype := .byte) (ty := .byte) (a0 := (1, .inl (fun _ => 0))) (n := 1) (N' := 1) hx hb (hts _ m_2503b19f) rfl hK hP hD hS hA (fun _ => rfl) (by decide +kernel) (by decide +kernel) (by decide +kernel) hcq1 hsq1 d_Checker_init_6 (fun q1 k2 H hK hP hD hS => ?_)
  have hP : va_P D xcl [(h0, .inr (4, [.null, .null, .null, .null, .int 0, .int 0, .null, .int 0, .int 0, .int 0, .null, .null, .null, .null, .null, .null, .int 0])), (q1, .inl (k2, 1, .inl (fun _ => 0)))] H := hP
  have hD : va_D A [(h0, .inr (4, [.null, .null, .null, .null, .int 0, .int 0, .null, .int 0, .int 0, .int 0, .null, .null, .null, .null, .null, .null, .int 0])), (q1, .inl (k2, 1, .inl (fun _ => 0)))] := hD
  have hK : va_K D xcl [(k2, .byte)] s := hK
  refine W.widen (k := 1) (n := 1) (by omega) (by omega) ?_
  refine va_put (D := D) (ci := 4) (v := .ref q1) (ty := .array .byte) (C := R_Checker) (T := F_Checker) (N := 17) hx hb hts fin_Checker t_Checker t_Checker_ok n_Checker hown hK hP hD hS 0 rfl rfl 3 (by decide) (hts _ m_9eace759) (fun _ h9 => h9) rfl (by decide +kernel) (by first | rfl | decide) (by first | rfl | decide) (Nat.le_of_ble_eq_true rfl) d_Checker_init_8 (fun H locs hP hD hS => ?_)
  have hP : va_P D xcl [(h0, .inr (4, [.null, .null, .null, .ref q1, .int 0, .int 0, .null, .int 0, .int 0, .int 0, .null, .null, .null, .null, .null, .null, .int 0])), (q1, .inl (k2, 1, .inl (fun _ => 0)))] H := hP
  have hD : va_D A [(h0, .inr (4, [.null, .null, .null, .ref q1, .int 0, .int 0, .null, .int 0, .int 0, .int 0, .null, .null, .null, .null, .null, .null, .int 0])), (q1, .inl (k2, 1, .inl (fun _ => 0)))] := hD
  refine lv_aload_n hx hb d_Checker_init_11 rfl (lv_at hl 0 rfl) ?_
  refine lv_sipush (v := 1000) hx hb d_Checker_init_12 (by decide) ?_
  have hcq3 : 1 + 1 ≤ 8 := by decide
  have hsq3 : 1 + 1000 ≤ 2207 := by decide
  refine va_newa (atype := .byte) (ty := .byte) (a0 := (1000, .inl (fun _ => 0))) (n := 1000) (N' := 1000) hx hb (hts _ m_2503b19f) rfl hK hP hD hS hA (fun _ => rfl) (by decide +kernel) (by decide +kernel) (by decide +kernel) hcq3 hsq3 d_Checker_init_15 (fun q3 k4 H hK hP hD hS => ?_)
  have hP : va_P D xcl [(h0, .inr (4, [.null, .null, .null, .ref q1, .int 0, .int 0, .null, .int 0, .int 0, .int 0, .null, .null, .null, .null, .null, .null, .int 0])), (q1, .inl (k2, 1, .inl (fun _ => 0))), (q3, .inl (k4, 1000, .inl (fun _ => 0)))] H := hP
  have hD : va_D A [(h0, .inr (4, [.null, .null, .null, .ref q1, .int 0, .int 0, .null, .int 0, .int 0, .int 0, .null, .null, .null, .null, .null, .null, .int 0])), (q1, .inl (k2, 1, .inl (fun _ => 0))), (q3, .inl (k4, 1000, .inl (fun _ => 0)))] := hD
  have hK : va_K D xcl [(k2, .byte), (k4, .byte)] s := hK
  refine W.widen (k := 2) (n := 1001) (by omega) (by omega) ?_
  refine va_putF (D := D) (ci := 4) (v := .ref q3) (ty := .array .byte) (C := R_Checker) (T := F_Checker) (N := 17) hx hb hts fin_Checker t_Checker t_Checker_ok n_Checker hown hK hP hD hS 0 rfl rfl 6 (by decide) (hts _ m_c12a5435) (fun _ h9 => h9) rfl hin rfl (by decide +kernel) (by first | rfl | decide) (by first | rfl | decide) (Nat.le_of_ble_eq_true rfl) d_Checker_init_17 (fun H locs hP hD hS => ?_)
  have hP : va_P D xcl [(h0, .inr (4, [.null, .null, .null, .ref q1, .int 0, .int 0, .ref q3, .int 0, .int 0, .int 0, .null, .null, .null, .null, .null, .null, .int 0])), (q1, .inl (k2, 1, .inl (fun _ => 0))), (q3, .inl (k4, 1000, .inl (fun _ => 0)))] H := hP
  have hD : va_D A [(h0, .inr (4, [.null, .null, .null, .ref q1, .int 0, .int 0, .ref q3, .int 0, .int 0, .int 0, .null, .null, .null, .null, .null, .null, .int 0])), (q1, .inl (k2, 1, .inl (fun _ => 0))), (q3, .inl (k4, 1000, .inl (fun _ => 0)))] := hD
  refine lv_aload_n hx hb d_Checker_init_20 rfl (lv_at hl 0 rfl) ?_
  refine lv_sipush (v := 201) hx hb d_Checker_init_21 (by decide) ?_
  have hcq5 : 2 + 1 ≤ 8 := by decide
  have hsq5 : 1001 + 201 ≤ 2207 := by decide
  refine va_newa (atype := .int) (ty := .int) (a0 := (201, .inl (fun _ => 0))) (n := 201) (N' := 201) hx hb (hts _ m_d160d5ac) rfl hK hP hD hS hA (fun _ => rfl) (by decide +kernel) (by decide +kernel) (by decide +kernel) hcq5 hsq5 d_Checker_init_24 (fun q5 k6 H hK hP hD hS => ?_)
  have hP : va_P D xcl [(h0, .inr (4, [.null, .null, .null, .ref q1, .int 0, .int 0, .ref q3, .int 0, .int 0, .int 0, .null, .null, .null, .null, .null, .null, .int 0])), (q1, .inl (k2, 1, .inl (fun _ => 0))), (q3, .inl (k4, 1000, .inl (fun _ => 0))), (q5, .inl (k6, 201, .inl (fun _ => 0)))] H := hP
  have hD : va_D A [(h0, .inr (4, [.null, .null, .null, .ref q1, .int 0, .int 0, .ref q3, .int 0, .int 0, .int 0, .null, .null, .null, .null, .null, .null, .int 0])), (q1, .inl (k2, 1, .inl (fun _ => 0))), (q3, .inl (k4, 1000, .inl (fun _ => 0))), (q5, .inl (k6, 201, .inl (fun _ => 0)))] := hD
  have hK : va_K D xcl [(k2, .byte), (k4, .byte), (k6, .int)] s := hK
  refine W.widen (k := 3) (n := 1202) (by omega) (by omega) ?_
  refine va_putF (D := D) (ci := 4) (v := .ref q5) (ty := .array .int) (C := R_Checker) (T := F_Checker) (N := 17) hx hb hts fin_Checker t_Checker t_Checker_ok n_Checker hown hK hP hD hS 0 rfl rfl 10 (by decide) (hts _ m_934b59dc) (fun _ h9 => h9) rfl hin rfl (by decide +kernel) (by first | rfl | decide) (by first | rfl | decide) (Nat.le_of_ble_eq_true rfl) d_Checker_init_26 (fun H locs hP hD hS => ?_)
  have hP : va_P D xcl [(h0, .inr (4, [.null, .null, .null, .ref q1, .int 0, .int 0, .ref q3, .int 0, .int 0, .int 0, .ref q5, .null, .null, .null, .null, .null, .int 0])), (q1, .inl (k2, 1, .inl (fun _ => 0))), (q3, .inl (k4, 1000, .inl (fun _ => 0))), (q5, .inl (k6, 201, .inl (fun _ => 0)))] H := hP
  have hD : va_D A [(h0, .inr (4, [.null, .null, .null, .ref q1, .int 0, .int 0, .ref q3, .int 0, .int 0, .int 0, .ref q5, .null, .null, .null, .null, .null, .int 0])), (q1, .inl (k2, 1, .inl (fun _ => 0))), (q3, .inl (k4, 1000, .inl (fun _ => 0))), (q5, .inl (k6, 201, .inl (fun _ => 0)))] := hD
  refine lv_aload_n hx hb d_Checker_init_29 rfl (lv_at hl 0 rfl) ?_
  refine lv_sipush (v := 201) hx hb d_Checker_init_30 (by decide) ?_
  have hcq7 : 3 + 1 ≤ 8 := by decide
  have hsq7 : 1202 + 201 ≤ 2207 := by decide
  refine va_newa (atype := .int) (ty := .int) (a0 := (201, .inl (fun _ => 0))) (n := 201) (N' := 201) hx hb (hts _ m_d160d5ac) rfl hK hP hD hS hA (fun _ => rfl) (by decide +kernel) (by decide +kernel) (by decide +kernel) hcq7 hsq7 d_Checker_init_33 (fun q7 k8 H hK hP hD hS => ?_)
  have hP : va_P D xcl [(h0, .inr (4, [.null, .null, .null, .ref q1, .int 0, .int 0, .ref q3, .int 0, .int 0, .int 0, .ref q5, .null, .null, .null, .null, .null, .int 0])), (q1, .inl (k2, 1, .inl (fun _ => 0))), (q3, .inl (k4, 1000, .inl (fun _ => 0))), (q5, .inl (k6, 201, .inl (fun _ => 0))), (q7, .inl (k8, 201, .inl (fun _ => 0)))] H := hP
  have hD : va_D A [(h0, .inr (4, [.null, .null, .null, .ref q1, .int 0, .int 0, .ref q3, .int 0, .int 0, .int 0, .ref q5, .null, .null, .null, .null, .null, .int 0])), (q1, .inl (k2, 1, .inl (fun _ => 0))), (q3, .inl (k4, 1000, .inl (fun _ => 0))), (q5, .inl (k6, 201, .inl (fun _ => 0))), (q7, .inl (k8, 201, .inl (fun _ => 0)))] := hD
  have hK : va_K D xcl [(k2, .byte), (k4, .byte), (k6, .int), (k8, .int)] s := hK
  refine W.widen (k := 4) (n := 1403) (by omega) (by omega) ?_
  refine va_putF (D := D) (ci := 4) (v := .ref q7) (ty := .array .int) (C := R_Checker) (T := F_Checker) (N := 17) hx hb hts fin_Checker t_Checker t_Checker_ok n_Checker hown hK hP hD hS 0 rfl rfl 11 (by decide) (hts _ m_64d01396) (fun _ h9 => h9) rfl hin rfl (by decide +kernel) (by first | rfl | decide) (by first | rfl | decide) (Nat.le_of_ble_eq_true rfl) d_Checker_init_35 (fun H locs hP hD hS => ?_)
  have hP : va_P D xcl [(h0, .inr (4, [.null, .null, .null, .ref q1, .int 0, .int 0, .ref q3, .int 0, .int 0, .int 0, .ref q5, .ref q7, .null, .null, .null, .null, .int 0])), (q1, .inl (k2, 1, .inl (fun _ => 0))), (q3, .inl (k4, 1000, .inl (fun _ => 0))), (q5, .inl (k6, 201, .inl (fun _ => 0))), (q7, .inl (k8, 201, .inl (fun _ => 0)))] H := hP
  have hD : va_D A [(h0, .inr (4, [.null, .null, .null, .ref q1, .int 0, .int 0, .ref q3, .int 0, .int 0, .int 0, .ref q5, .ref q7, .null, .null, .null, .null, .int 0])), (q1, .inl (k2, 1, .inl (fun _ => 0))), (q3, .inl (k4, 1000, .inl (fun _ => 0))), (q5, .inl (k6, 201, .inl (fun _ => 0))), (q7, .inl (k8, 201, .inl (fun _ => 0)))] := hD
  refine lv_aload_n hx hb d_Checker_init_38 rfl (lv_at hl 0 rfl) ?_
  refine lv_sipush (v := 201) hx hb d_Checker_init_39 (by decide) ?_
  have hcq9 : 4 + 1 ≤ 8 := by decide
  have hsq9 : 1403 + 201 ≤ 2207 := by decide
  refine va_newa (atype := .int) (ty := .int) (a0 := (201, .inl (fun _ => 0))) (n := 201) (N' := 201) hx hb (hts _ m_d160d5ac) rfl hK hP hD hS hA (fun _ => rfl) (by decide +kernel) (by decide +kernel) (by decide +kernel) hcq9 hsq9 d_Checker_init_42 (fun q9 k10 H hK hP hD hS => ?_)
  have hP : va_P D xcl [(h0, .inr (4, [.null, .null, .null, .ref q1, .int 0, .int 0, .ref q3, .int 0, .int 0, .int 0, .ref q5, .ref q7, .null, .null, .null, .null, .int 0])), (q1, .inl (k2, 1, .inl (fun _ => 0))), (q3, .inl (k4, 1000, .inl (fun _ => 0))), (q5, .inl (k6, 201, .inl (fun _ => 0))), (q7, .inl (k8, 201, .inl (fun _ => 0))), (q9, .inl (k10, 201, .inl (fun _ => 0)))] H := hP
  have hD : va_D A [(h0, .inr (4, [.null, .null, .null, .ref q1, .int 0, .int 0, .ref q3, .int 0, .int 0, .int 0, .ref q5, .ref q7, .null, .null, .null, .null, .int 0])), (q1, .inl (k2, 1, .inl (fun _ => 0))), (q3, .inl (k4, 1000, .inl (fun _ => 0))), (q5, .inl (k6, 201, .inl (fun _ => 0))), (q7, .inl (k8, 201, .inl (fun _ => 0))), (q9, .inl (k10, 201, .inl (fun _ => 0)))] := hD
  have hK : va_K D xcl [(k2, .byte), (k4, .byte), (k6, .int), (k8, .int), (k10, .int)] s := hK
  refine W.widen (k := 5) (n := 1604) (by omega) (by omega) ?_
  refine va_putF (D := D) (ci := 4) (v := .ref q9) (ty := .array .int) (C := R_Checker) (T := F_Checker) (N := 17) hx hb hts fin_Checker t_Checker t_Checker_ok n_Checker hown hK hP hD hS 0 rfl rfl 12 (by decide) (hts _ m_8a464e71) (fun _ h9 => h9) rfl hin rfl (by decide +kernel) (by first | rfl | decide) (by first | rfl | decide) (Nat.le_of_ble_eq_true rfl) d_Checker_init_44 (fun H locs hP hD hS => ?_)
  have hP : va_P D xcl [(h0, .inr (4, [.null, .null, .null, .ref q1, .int 0, .int 0, .ref q3, .int 0, .int 0, .int 0, .ref q5, .ref q7, .ref q9, .null, .null, .null, .int 0])), (q1, .inl (k2, 1, .inl (fun _ => 0))), (q3, .inl (k4, 1000, .inl (fun _ => 0))), (q5, .inl (k6, 201, .inl (fun _ => 0))), (q7, .inl (k8, 201, .inl (fun _ => 0))), (q9, .inl (k10, 201, .inl (fun _ => 0)))] H := hP
  have hD : va_D A [(h0, .inr (4, [.null, .null, .null, .ref q1, .int 0, .int 0, .ref q3, .int 0, .int 0, .int 0, .ref q5, .ref q7, .ref q9, .null, .null, .null, .int 0])), (q1, .inl (k2, 1, .inl (fun _ => 0))), (q3, .inl (k4, 1000, .inl (fun _ => 0))), (q5, .inl (k6, 201, .inl (fun _ => 0))), (q7, .inl (k8, 201, .inl (fun _ => 0))), (q9, .inl (k10, 201, .inl (fun _ => 0)))] := hD
  refine lv_aload_n hx hb d_Checker_init_47 rfl (lv_at hl 0 rfl) ?_
  refine lv_sipush (v := 201) hx hb d_Checker_init_48 (by decide) ?_
  have hcq11 : 5 + 1 ≤ 8 := by decide
  have hsq11 : 1604 + 201 ≤ 2207 := by decide
  refine va_newa (atype := .int) (ty := .int) (a0 := (201, .inl (fun _ => 0))) (n := 201) (N' := 201) hx hb (hts _ m_d160d5ac) rfl hK hP hD hS hA (fun _ => rfl) (by decide +kernel) (by decide +kernel) (by decide +kernel) hcq11 hsq11 d_Checker_init_51 (fun q11 k12 H hK hP hD hS => ?_)
  have hP : va_P D xcl [(h0, .inr (4, [.null, .null, .null, .ref q1, .int 0, .int 0, .ref q3, .int 0, .int 0, .int 0, .ref q5, .ref q7, .ref q9, .null, .null, .null, .int 0])), (q1, .inl (k2, 1, .inl (fun _ => 0))), (q3, .inl (k4, 1000, .inl (fun _ => 0))), (q5, .inl (k6, 201, .inl (fun _ => 0))), (q7, .inl (k8, 201, .inl (fun _ => 0))), (q9, .inl (k10, 201, .inl (fun _ => 0))), (q11, .inl (k12, 201, .inl (fun _ => 0)))] H := hP
  have hD : va_D A [(h0, .inr (4, [.null, .null, .null, .ref q1, .int 0, .int 0, .ref q3, .int 0, .int 0, .int 0, .ref q5, .ref q7, .ref q9, .null, .null, .null, .int 0])), (q1, .inl (k2, 1, .inl (fun _ => 0))), (q3, .inl (k4, 1000, .inl (fun _ => 0))), (q5, .inl (k6, 201, .inl (fun _ => 0))), (q7, .inl (k8, 201, .inl (fun _ => 0))), (q9, .inl (k10, 201, .inl (fun _ => 0))), (q11, .inl (k12, 201, .inl (fun _ => 0)))] := hD
  have hK : va_K D xcl [(k2, .byte), (k4, .byte), (k6, .int), (k8, .int), (k10, .int), (k12, .int)] s := hK
  refine W.widen (k := 6) (n := 1805) (by omega) (by omega) ?_
  refine va_putF (D := D) (ci := 4) (v := .ref q11) (ty := .array .int) (C := R_Checker) (T := F_Checker) (N := 17) hx hb hts fin_Checker t_Checker t_Checker_ok n_Checker hown hK hP hD hS 0 rfl rfl 13 (by decide) (hts _ m_8413ec5e) (fun _ h9 => h9) rfl hin rfl (by decide +kernel) (by first | rfl | decide) (by first | rfl | decide) (Nat.le_of_ble_eq_true rfl) d_Checker_init_53 (fun H locs hP hD hS => ?_)
  have hP : va_P D xcl [(h0, .inr (4, [.null, .null, .null, .ref q1, .int 0, .int 0, .ref q3, .int 0, .int 0, .int 0, .ref q5, .ref q7, .ref q9, .ref q11, .null, .null, .int 0])), (q1, .inl (k2, 1, .inl (fun _ => 0))), (q3, .inl (k4, 1000, .inl (fun _ => 0))), (q5, .inl (k6, 201, .inl (fun _ => 0))), (q7, .inl (k8, 201, .inl (fun _ => 0))), (q9, .inl (k10, 201, .inl (fun _ => 0))), (q11, .inl (k12, 201, .inl (fun _ => 0)))] H := hP
  have hD : va_D A [(h0, .inr (4, [.null, .null, .null, .ref q1, .int 0, .int 0, .ref q3, .int 0, .int 0, .int 0, .ref q5, .ref q7, .ref q9, .ref q11, .null, .null, .int 0])), (q1, .inl (k2, 1, .inl (fun _ => 0))), (q3, .inl (k4, 1000, .inl (fun _ => 0))), (q5, .inl (k6, 201, .inl (fun _ => 0))), (q7, .inl (k8, 201, .inl (fun _ => 0))), (q9, .inl (k10, 201, .inl (fun _ => 0))), (q11, .inl (k12, 201, .inl (fun _ => 0)))] := hD
  refine lv_aload_n hx hb d_Checker_init_56 rfl (lv_at hl 0 rfl) ?_
  refine lv_sipush (v := 201) hx hb d_Checker_init_57 (by decide) ?_
  have hcq13 : 6 + 1 ≤ 8 := by decide
  have hsq13 : 1805 + 201 ≤ 2207 := by decide
  refine va_newa (atype := .int) (ty := .int) (a0 := (201, .inl (fun _ => 0))) (n := 201) (N' := 201) hx hb (hts _ m_d160d5ac) rfl hK hP hD hS hA (fun _ => rfl) (by decide +kernel) (by decide +kernel) (by decide +kernel) hcq13 hsq13 d_Checker_init_60 (fun q13 k14 H hK hP hD hS => ?_)
  have hP : va_P D xcl [(h0, .inr (4, [.null, .null, .null, .ref q1, .int 0, .int 0, .ref q3, .int 0, .int 0, .int 0, .ref q5, .ref q7, .ref q9, .ref q11, .null, .null, .int 0])), (q1, .inl (k2, 1, .inl (fun _ => 0))), (q3, .inl (k4, 1000, .inl (fun _ => 0))), (q5, .inl (k6, 201, .inl (fun _ => 0))), (q7, .inl (k8, 201, .inl (fun _ => 0))), (q9, .inl (k10, 201, .inl (fun _ => 0))), (q11, .inl (k12, 201, .inl (fun _ => 0))), (q13, .inl (k14, 201, .inl (fun _ => 0)))] H := hP
  have hD : va_D A [(h0, .inr (4, [.null, .null, .null, .ref q1, .int 0, .int 0, .ref q3, .int 0, .int 0, .int 0, .ref q5, .ref q7, .ref q9, .ref q11, .null, .null, .int 0])), (q1, .inl (k2, 1, .inl (fun _ => 0))), (q3, .inl (k4, 1000, .inl (fun _ => 0))), (q5, .inl (k6, 201, .inl (fun _ => 0))), (q7, .inl (k8, 201, .inl (fun _ => 0))), (q9, .inl (k10, 201, .inl (fun _ => 0))), (q11, .inl (k12, 201, .inl (fun _ => 0))), (q13, .inl (k14, 201, .inl (fun _ => 0)))] := hD
  have hK : va_K D xcl [(k2, .byte), (k4, .byte), (k6, .int), (k8, .int), (k10, .int), (k12, .int), (k14, .int)] s := hK
  refine W.widen (k := 7) (n := 2006) (by omega) (by omega) ?_
  refine va_putF (D := D) (ci := 4) (v := .ref q13) (ty := .array .int) (C := R_Checker) (T := F_Checker) (N := 17) hx hb hts fin_Checker t_Checker t_Checker_ok n_Checker hown hK hP hD hS 0 rfl rfl 14 (by decide) (hts _ m_a3869304) (fun _ h9 => h9) rfl hin rfl (by decide +kernel) (by first | rfl | decide) (by first | rfl | decide) (Nat.le_of_ble_eq_true rfl) d_Checker_init_62 (fun H locs hP hD hS => ?_)
  have hP : va_P D xcl [(h0, .inr (4, [.null, .null, .null, .ref q1, .int 0, .int 0, .ref q3, .int 0, .int 0, .int 0, .ref q5, .ref q7, .ref q9, .ref q11, .ref q13, .null, .int 0])), (q1, .inl (k2, 1, .inl (fun _ => 0))), (q3, .inl (k4, 1000, .inl (fun _ => 0))), (q5, .inl (k6, 201, .inl (fun _ => 0))), (q7, .inl (k8, 201, .inl (fun _ => 0))), (q9, .inl (k10, 201, .inl (fun _ => 0))), (q11, .inl (k12, 201, .inl (fun _ => 0))), (q13, .inl (k14, 201, .inl (fun _ => 0)))] H := hP
  have hD : va_D A [(h0, .inr (4, [.null, .null, .null, .ref q1, .int 0, .int 0, .ref q3, .int 0, .int 0, .int 0, .ref q5, .ref q7, .ref q9, .ref q11, .ref q13, .null, .int 0])), (q1, .inl (k2, 1, .inl (fun _ => 0))), (q3, .inl (k4, 1000, .inl (fun _ => 0))), (q5, .inl (k6, 201, .inl (fun _ => 0))), (q7, .inl (k8, 201, .inl (fun _ => 0))), (q9, .inl (k10, 201, .inl (fun _ => 0))), (q11, .inl (k12, 201, .inl (fun _ => 0))), (q13, .inl (k14, 201, .inl (fun _ => 0)))] := hD
  refine lv_aload_n hx hb d_Checker_init_65 rfl (lv_at hl 0 rfl) ?_
  refine lv_sipush (v := 201) hx hb d_Checker_init_66 (by decide) ?_
  have hcq15 : 7 + 1 ≤ 8 := by decide
  have hsq15 : 2006 + 201 ≤ 2207 := by decide
  refine va_newa (atype := .boolean) (ty := .boolean) (a0 := (201, .inl (fun _ => 0))) (n := 201) (N' := 201) hx hb (hts _ m_3be30871) rfl hK hP hD hS hA (fun _ => rfl) (by decide +kernel) (by decide +kernel) (by decide +kernel) hcq15 hsq15 d_Checker_init_69 (fun q15 k16 H hK hP hD hS => ?_)
  have hP : va_P D xcl [(h0, .inr (4, [.null, .null, .null, .ref q1, .int 0, .int 0, .ref q3, .int 0, .int 0, .int 0, .ref q5, .ref q7, .ref q9, .ref q11, .ref q13, .null, .int 0])), (q1, .inl (k2, 1, .inl (fun _ => 0))), (q3, .inl (k4, 1000, .inl (fun _ => 0))), (q5, .inl (k6, 201, .inl (fun _ => 0))), (q7, .inl (k8, 201, .inl (fun _ => 0))), (q9, .inl (k10, 201, .inl (fun _ => 0))), (q11, .inl (k12, 201, .inl (fun _ => 0))), (q13, .inl (k14, 201, .inl (fun _ => 0))), (q15, .inl (k16, 201, .inl (fun _ => 0)))] H := hP
  have hD : va_D A [(h0, .inr (4, [.null, .null, .null, .ref q1, .int 0, .int 0, .ref q3, .int 0, .int 0, .int 0, .ref q5, .ref q7, .ref q9, .ref q11, .ref q13, .null, .int 0])), (q1, .inl (k2, 1, .inl (fun _ => 0))), (q3, .inl (k4, 1000, .inl (fun _ => 0))), (q5, .inl (k6, 201, .inl (fun _ => 0))), (q7, .inl (k8, 201, .inl (fun _ => 0))), (q9, .inl (k10, 201, .inl (fun _ => 0))), (q11, .inl (k12, 201, .inl (fun _ => 0))), (q13, .inl (k14, 201, .inl (fun _ => 0))), (q15, .inl (k16, 201, .inl (fun _ => 0)))] := hD
  have hK : va_K D xcl [(k2, .byte), (k4, .byte), (k6, .int), (k8, .int), (k10, .int), (k12, .int), (k14, .int), (k16, .boolean)] s := hK
  refine W.widen (k := 8) (n := 2207) (by omega) (by omega) ?_
  refine va_putF (D := D) (ci := 4) (v := .ref q15) (ty := .array .boolean) (C := R_Checker) (T := F_Checker) (N := 17) hx hb hts fin_Checker t_Checker t_Checker_ok n_Checker hown hK hP hD hS 0 rfl rfl 15 (by decide) (hts _ m_b845fcd1) (fun _ h9 => h9) rfl hin rfl (by decide +kernel) (by first | rfl | decide) (by first | rfl | decide) (Nat.le_of_ble_eq_true rfl) d_Checker_init_71 (fun H locs hP hD hS => ?_)
  have hP : va_P D xcl [(h0, .inr (4, [.null, .null, .null, .ref q1, .int 0, .int 0, .ref q3, .int 0, .int 0, .int 0, .ref q5, .ref q7, .ref q9, .ref q11, .ref q13, .ref q15, .int 0])), (q1, .inl (k2, 1, .inl (fun _ => 0))), (q3, .inl (k4, 1000, .inl (fun _ => 0))), (q5, .inl (k6, 201, .inl (fun _ => 0))), (q7, .inl (k8, 201, .inl (fun _ => 0))), (q9, .inl (k10, 201, .inl (fun _ => 0))), (q11, .inl (k12, 201, .inl (fun _ => 0))), (q13, .inl (k14, 201, .inl (fun _ => 0))), (q15, .inl (k16, 201, .inl (fun _ => 0)))] H := hP
  have hD : va_D A [(h0, .inr (4, [.null, .null, .null, .ref q1, .int 0, .int 0, .ref q3, .int 0, .int 0, .int 0, .ref q5, .ref q7, .ref q9, .ref q11, .ref q13, .ref q15, .int 0])), (q1, .inl (k2, 1, .inl (fun _ => 0))), (q3, .inl (k4, 1000, .inl (fun _ => 0))), (q5, .inl (k6, 201, .inl (fun _ => 0))), (q7, .inl (k8, 201, .inl (fun _ => 0))), (q9, .inl (k10, 201, .inl (fun _ => 0))), (q11, .inl (k12, 201, .inl (fun _ => 0))), (q13, .inl (k14, 201, .inl (fun _ => 0))), (q15, .inl (k16, 201, .inl (fun _ => 0)))] := hD
  refine W.widen (k := 8) (n := 2207) (by decide) (by decide) ?_
  refine xt_mono xt_ofMQ ?_
  exact W.vret hx hb hr (fun t ht hW => ⟨(fun k => [q1, k2, q3, k4, q5, k6, q7, k8, q9, k10, q11, k12, q13, k14, q15, k16].getD k 0), Or.inl ⟨_, rfl, rfl⟩, by rw [ht]; exact hP.sub [0, 1, 2, 3, 4, 5, 6, 7, 8] rfl, va_K.moved hW.alike (hK.sub [0, 1, 2, 3, 4, 5, 6, 7] rfl), hD.sub [0, 1, 2, 3, 4, 5, 6, 7, 8] (by decide) rfl, hS.F ht⟩) hS.2.2 d_Checker_init_74 hlocks

