set_option maxHeartbeats 4000000 in
set_option maxRecDepth 100000 in
theorem c_Arrays_copyOf (l : Launch) (D : va_G) (tp kt : Nat) (f : Nat → Int32) (sz : Nat) : xt_Met l y_Arrays_copyOf [.code y_Arrays_copyOf b_Arrays_copyOf 3 (some (.array .byte))] ({ frames := 8, cells := 1, slots := 0, locals := 120 }) (xt_P D xcl [.ref tp, .int 0] [(tp, .inl (kt, 20, .inl f))] [(kt, .byte)] sz) (xt_Q (S := Nat → Nat) D xcl (va_A [(tp, .inl (kt, 20, .inl f))] sz) (fun v u => v = some (.ref (u 0))) (fun _ _ => False) (fun u => [(tp, .inl (kt, 20, .inl f)), ((u 0), .inl ((u 1), 0, .inl (va_cpy f (fun _ => 0) (0 : Int32).toNatClampNeg (0 : Int32).toNatClampNeg (0 : Int32).toNatClampNeg)))]) (fun u => [(kt, .byte), ((u 1), .byte)])) 1 0 (va_A [(tp, .inl (kt, 20, .inl f))] sz) := by
  refine xt_ofW (cc := b_Arrays_copyOf) (maxL := 3) (ret := (some (.array .byte))) (by decide) (List.mem_singleton.mpr rfl) ?_
  intro p e s m args below meth c s₁ B hml htab hv
  obtain ⟨rfl, hsz, hB, hP, hK, hD0⟩ := hv
  subst hsz
  have hx := B.exec
  have hb := B.bytes
  have hr := B.returns
  have hts := hB.1.at ([.ref tp, .int 0] : List Value).toArray
  have hown : s.vm.findClass "java/util/Arrays" = some m.cls := findClass_of_methodNamed B.named
  have hlocks := B.notSynchronized
  have hD := hD0.self (sz := s.heap.size)
  generalize hAe : va_A [(tp, .inl (kt, 20, .inl f))] s.heap.size = A at hB hD ⊢
  have hA : ∀ q : Nat, s.heap.size ≤ q → A q := fun q h => by rw [← hAe]; exact Or.inr h
  have hS : va_S A s.heap s.heap [] := va_S.rf
  have hl := lv_entry ([.ref tp, .int 0]) (n := 3) (Nat.le_of_ble_eq_true rfl)
  rw [lg_entry_eq]
  generalize (lg_sl ([.ref tp, .int 0]) ++ List.replicate (3 - (lg_sl ([.ref tp, .int 0])).length) Slot.unset).toArray = ls at hl ⊢
  have hl : lv_has ls 3 [(0, .ref tp), (1, .int 0)] := hl
  refine lv_iload_n hx hb d_Arrays_copyOf_0 rfl (lv_at hl 1 rfl) ?_
  refine lv_aload_n hx hb d_Arrays_copyOf_1 rfl (lv_at hl 0 rfl) ?_
  refine va_alen (v := 20) hx hb hK hP 0 0 rfl rfl (show Int32.ofNat 20 = 20 from by decide +kernel) d_Arrays_copyOf_2 ?_
  refine lv_icmp_ne (tgt := 14) hx hb d_Arrays_copyOf_3 rfl (fun _ => ?_) (fun h9 => absurd h9 (by decide))
  refine lv_iload_n hx hb d_Arrays_copyOf_14 rfl (lv_at hl 1 rfl) ?_
  have hcq1 : 0 + 1 ≤ 1 := by decide
  have hsq1 : 0 + 0 ≤ 0 := by decide
  refine va_newa (atype := .byte) (ty := .byte) (a0 := (0, .inl (fun _ => 0))) (n := 0) (N' := 0) hx hb (hts _ m_2503b19f) rfl hK hP hD hS hA (fun _ => rfl) (by decide +kernel) (by decide +kernel) (by decide +kernel) hcq1 hsq1 d_Arrays_copyOf_15 (fun q1 k2 H hK hP hD hS => ?_)
  have hP : va_P D xcl [(tp, .inl (kt, 20, .inl f)), (q1, .inl (k2, 0, .inl (fun _ => 0)))] H := hP
  have hD : va_D A [(tp, .inl (kt, 20, .inl f)), (q1, .inl (k2, 0, .inl (fun _ => 0)))] := hD
  have hK : va_K D xcl [(kt, .byte), (k2, .byte)] s := hK
  refine W.widen (k := 1) (n := 0) (by omega) (by omega) ?_
  refine lv_astore_n hx hb d_Arrays_copyOf_17 rfl hl (by decide) rfl (fun ls hl => ?_)
  have hl : lv_has ls 3 [(2, .ref q1), (0, .ref tp), (1, .int 0)] := hl
  refine lv_aload_n hx hb d_Arrays_copyOf_18 rfl (lv_at hl 1 rfl) ?_
  refine lv_iconst (v := 0) hx hb d_Arrays_copyOf_19 (by decide) ?_
  refine lv_aload_n hx hb d_Arrays_copyOf_20 rfl (lv_at hl 0 rfl) ?_
  refine lv_iconst (v := 0) hx hb d_Arrays_copyOf_21 (by decide) ?_
  refine lv_aload_n hx hb d_Arrays_copyOf_22 rfl (lv_at hl 1 rfl) ?_
  refine va_alen (v := 20) hx hb hK hP 0 0 rfl rfl (show Int32.ofNat 20 = 20 from by decide +kernel) d_Arrays_copyOf_23 ?_
  refine lv_iload_n hx hb d_Arrays_copyOf_24 rfl (lv_at hl 2 rfl) ?_
  refine va_mmin hx hb (hml.trans hl.1.symm) hown (hts _ m_450fc017) (hts _ m_79b26afc) (hts _ m_868a9286) (hts _ m_0fd793e2) (by decide) (Nat.le_of_ble_eq_true rfl) (by decide) (by decide) d_Arrays_copyOf_25 ?_
  refine xt_numi (y := 0) (by decide) ?_
  refine va_copyi (sp := 0) (dp := 0) (n := 0) hx hb (hml.trans hl.1.symm) hown (hts _ m_e30b3380) (hts _ m_a648c8f7) (hts _ m_410d49e2) (hts _ m_4260ffab) hK hP hD hS 0 1 0 1 rfl rfl rfl rfl rfl (by decide) (by decide) (by decide) (by decide) (by decide) (fun i hi => absurd hi (by rw [show (0 : Int32).toNatClampNeg = 0 from by decide]; omega)) (by decide) (Nat.le_of_ble_eq_true rfl) d_Arrays_copyOf_28 (fun H locs hP hD hS => ?_)
  have hP : va_P D xcl [(tp, .inl (kt, 20, .inl f)), (q1, .inl (k2, 0, .inl (va_cpy f (fun _ => 0) (0 : Int32).toNatClampNeg (0 : Int32).toNatClampNeg (0 : Int32).toNatClampNeg)))] H := hP
  have hD : va_D A [(tp, .inl (kt, 20, .inl f)), (q1, .inl (k2, 0, .inl (va_cpy f (fun _ => 0) (0 : Int32).toNatClampNeg (0 : Int32).toNatClampNeg (0 : Int32).toNatClampNeg)))] := hD
  refine lv_aload_n hx hb d_Arrays_copyOf_31 rfl (lv_at hl 0 rfl) ?_
  refine W.widen (k := 1) (n := 0) (by decide) (by decide) ?_
  refine xt_mono xt_ofMQ ?_
  exact W.aret hx hb hr (by first | exact Or.inl ⟨_, rfl⟩ | exact Or.inr ⟨_, rfl⟩) (by first | exact Or.inl rfl | exact Or.inr ⟨_, rfl⟩) (fun t ht hW => ⟨(fun k => [q1, k2].getD k 0), Or.inl ⟨_, rfl, rfl⟩, by rw [ht]; exact hP.sub [0, 1] rfl, va_K.moved hW.alike (hK.sub [0, 1] rfl), hD.sub [0, 1] (by decide) rfl, hS.F ht⟩) hS.2.2 d_Arrays_copyOf_32 hlocks

set_option maxHeartbeats 4000000 in
set_option maxRecDepth 100000 in
theorem c_H_refuseModuleBeyondLimit (l : Launch) (D : va_G) (h0 : Nat) (a0 a1 a2 a4 a5 a6 a7 a8 a9 a10 : Value) (sz : Nat) : xt_Met l y_H_refuseModuleBeyondLimit [.code y_H_refuseModuleBeyondLimit b_H_refuseModuleBeyondLimit 1 none] ({ frames := 8, cells := 0, slots := 0, locals := 120 }) (xt_P D xcl [.ref h0] [(h0, .inr (0, [a0, a1, a2, .int 0, a4, a5, a6, a7, a8, a9, a10]))] [] sz) (xt_Q (S := Nat → Nat) D xcl (va_A [(h0, .inr (0, [a0, a1, a2, .int 0, a4, a5, a6, a7, a8, a9, a10]))] sz) (fun v _ => v = none) (fun _ _ => False) (fun u => [(h0, .inr (0, [a0, a1, a2, .int 0, a4, a5, a6, a7, a8, a9, a10]))]) (fun u => [])) 0 0 (va_A [(h0, .inr (0, [a0, a1, a2, .int 0, a4, a5, a6, a7, a8, a9, a10]))] sz) := by
  refine xt_ofW (cc := b_H_refuseModuleBeyondLimit) (maxL := 1) (ret := none) (by decide) (List.mem_singleton.mpr rfl) ?_
  intro p e s m args below meth c s₁ B hml htab hv
  obtain ⟨rfl, hsz, hB, hP, hK, hD0⟩ := hv
  subst hsz
  have hx := B.exec
  have hb := B.bytes
  have hr := B.returns
  have hts := hB.1.at ([.ref h0] : List Value).toArray
  have hown : s.vm.findClass "StackHost" = some m.cls := findClass_of_methodNamed B.named
  have hlocks := B.notSynchronized
  have hD := hD0.self (sz := s.heap.size)
  generalize hAe : va_A [(h0, .inr (0, [a0, a1, a2, .int 0, a4, a5, a6, a7, a8, a9, a10]))] s.heap.size = A at hB hD ⊢
  have hA : ∀ q : Nat, s.heap.size ≤ q → A q := fun q h => by rw [← hAe]; exact Or.inr h
  have hS : va_S A s.heap s.heap [] := va_S.rf
  have hl := lv_entry ([.ref h0]) (n := 1) (Nat.le_of_ble_eq_true rfl)
  rw [lg_entry_eq]
  generalize (lg_sl ([.ref h0]) ++ List.replicate (1 - (lg_sl ([.ref h0])).length) Slot.unset).toArray = ls at hl ⊢
  have hl : lv_has ls 1 [(0, .ref h0)] := hl
  refine lv_aload_n hx hb d_H_refuseModuleBeyondLimit_0 rfl (lv_at hl 0 rfl) ?_
  refine va_get (D := D) (ci := 0) (v := .int 0) (C := R_H) (T := F_H) (N := 11) hx hb hts fin_H hown hK hP 0 rfl rfl 3 (by decide) (hts _ m_9075cfd3) (fun _ h9 => h9) rfl d_H_refuseModuleBeyondLimit_1 ?_
  refine lv_bipush (v := 64) hx hb d_H_refuseModuleBeyondLimit_4 (by decide) ?_
  refine lv_icmp_ne (tgt := 19) hx hb d_H_refuseModuleBeyondLimit_6 rfl (fun _ => ?_) (fun h9 => absurd h9 (by decide))
  refine W.widen (k := 0) (n := 0) (by decide) (by decide) ?_
  refine xt_mono xt_ofMQ ?_
  exact W.vret hx hb hr (fun t ht hW => ⟨(fun _ => 0), Or.inl ⟨_, rfl, rfl⟩, by rw [ht]; exact hP.sub [0] rfl, va_K.moved hW.alike (hK.sub [] rfl), hD.sub [0] (by decide) rfl, hS.F ht⟩) hS.2.2 d_H_refuseModuleBeyondLimit_19 hlocks

