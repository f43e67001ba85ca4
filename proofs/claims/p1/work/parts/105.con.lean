set_option maxHeartbeats 4000000 in
set_option maxRecDepth 100000 in
theorem c_H_fault_0 (l : Launch) (D : va_G) (h0 : Nat) (fc fp : Int32) (a0 a1 a2 a3 a4 a5 a6 a7 a8 : Value) (sz : Nat) : xt_Met l y_H_fault [.code y_H_fault b_H_fault 2 (some .int)] ({ frames := 8, cells := 0, slots := 0, locals := 120 }) (xt_P D xcl [.ref h0, .int 0] [(h0, .inr (0, [a0, a1, a2, a3, a4, a5, a6, a7, a8, .int fc, .int fp]))] [] sz) (xt_Q (S := Nat → Nat) D xcl (va_A [(h0, .inr (0, [a0, a1, a2, a3, a4, a5, a6, a7, a8, .int fc, .int fp]))] sz) (fun v u => v = some (.int fc)) (fun _ _ => False) (fun u => [(h0, .inr (0, [a0, a1, a2, a3, a4, a5, a6, a7, a8, .int fc, .int fp]))]) (fun u => [])) 0 0 (va_A [(h0, .inr (0, [a0, a1, a2, a3, a4, a5, a6, a7, a8, .int fc, .int fp]))] sz) := by
  refine xt_ofW (cc := b_H_fault) (maxL := 2) (ret := (some .int)) (by decide) (List.mem_singleton.mpr rfl) ?_
  intro p e s m args below meth c s₁ B hml htab hv
  obtain ⟨rfl, hsz, hB, hP, hK, hD0⟩ := hv
  subst hsz
  have hx := B.exec
  have hb := B.bytes
  have hr := B.returns
  have hts := hB.1.at ([.ref h0, .int 0] : List Value).toArray
  have hown : s.vm.findClass "StackHost" = some m.cls := findClass_of_methodNamed B.named
  have hlocks := B.notSynchronized
  have hD := hD0.self (sz := s.heap.size)
  generalize hAe : va_A [(h0, .inr (0, [a0, a1, a2, a3, a4, a5, a6, a7, a8, .int fc, .int fp]))] s.heap.size = A at hB hD ⊢
  have hA : ∀ q : Nat, s.heap.size ≤ q → A q := fun q h => by rw [← hAe]; exact Or.inr h
  have hS : va_S A s.heap s.heap [] := va_S.rf
  have hl := lv_entry ([.ref h0, .int 0]) (n := 2) (Nat.le_of_ble_eq_true rfl)
  rw [lg_entry_eq]
  generalize (lg_sl ([.ref h0, .int 0]) ++ List.replicate (2 - (lg_sl ([.ref h0, .int 0])).length) Slot.unset).toArray = ls at hl ⊢
  have hl : lv_has ls 2 [(0, .ref h0), (1, .int 0)] := hl
  refine lv_iload_n hx hb d_H_fault_0 rfl (lv_at hl 1 rfl) ?_
  refine lv_if_lt (tgt := 9) hx hb d_H_fault_1 rfl (fun h9 => absurd h9 (by decide)) (fun _ => ?_)
  refine lv_iload_n hx hb d_H_fault_4 rfl (lv_at hl 1 rfl) ?_
  refine lv_iconst (v := 1) hx hb d_H_fault_5 (by decide) ?_
  refine lv_icmp_le (tgt := 19) hx hb d_H_fault_6 rfl (fun _ => ?_) (fun h9 => absurd h9 (by decide))
  refine lv_iload_n hx hb d_H_fault_19 rfl (lv_at hl 1 rfl) ?_
  refine lv_if_ne (tgt := 30) hx hb d_H_fault_20 rfl (fun h9 => absurd h9 (by decide)) (fun _ => ?_)
  refine lv_aload_n hx hb d_H_fault_23 rfl (lv_at hl 0 rfl) ?_
  refine va_get (D := D) (ci := 0) (v := .int fc) (C := R_H) (T := F_H) (N := 11) hx hb hts fin_H hown hK hP 0 rfl rfl 9 (by decide) (hts _ m_149cae13) (fun _ h9 => h9) rfl d_H_fault_24 ?_
  refine lv_goto (tgt := 34) hx hb d_H_fault_27 rfl ?_
  refine W.widen (k := 0) (n := 0) (by decide) (by decide) ?_
  refine xt_mono xt_ofMQ ?_
  exact W.iret hx hb hr (fun t ht hW => ⟨(fun _ => 0), Or.inl ⟨_, rfl, rfl⟩, by rw [ht]; exact hP.sub [0] rfl, va_K.moved hW.alike (hK.sub [] rfl), hD.sub [0] (by decide) rfl, hS.F ht⟩) hS.2.2 d_H_fault_34 hlocks

set_option maxHeartbeats 4000000 in
set_option maxRecDepth 100000 in
theorem c_H_fault_1 (l : Launch) (D : va_G) (h0 : Nat) (fc fp : Int32) (a0 a1 a2 a3 a4 a5 a6 a7 a8 : Value) (sz : Nat) : xt_Met l y_H_fault [.code y_H_fault b_H_fault 2 (some .int)] ({ frames := 8, cells := 0, slots := 0, locals := 120 }) (xt_P D xcl [.ref h0, .int 1] [(h0, .inr (0, [a0, a1, a2, a3, a4, a5, a6, a7, a8, .int fc, .int fp]))] [] sz) (xt_Q (S := Nat → Nat) D xcl (va_A [(h0, .inr (0, [a0, a1, a2, a3, a4, a5, a6, a7, a8, .int fc, .int fp]))] sz) (fun v u => v = some (.int fp)) (fun _ _ => False) (fun u => [(h0, .inr (0, [a0, a1, a2, a3, a4, a5, a6, a7, a8, .int fc, .int fp]))]) (fun u => [])) 0 0 (va_A [(h0, .inr (0, [a0, a1, a2, a3, a4, a5, a6, a7, a8, .int fc, .int fp]))] sz) := by
  refine xt_ofW (cc := b_H_fault) (maxL := 2) (ret := (some .int)) (by decide) (List.mem_singleton.mpr rfl) ?_
  intro p e s m args below meth c s₁ B hml htab hv
  obtain ⟨rfl, hsz, hB, hP, hK, hD0⟩ := hv
  subst hsz
  have hx := B.exec
  have hb := B.bytes
  have hr := B.returns
  have hts := hB.1.at ([.ref h0, .int 1] : List Value).toArray
  have hown : s.vm.findClass "StackHost" = some m.cls := findClass_of_methodNamed B.named
  have hlocks := B.notSynchronized
  have hD := hD0.self (sz := s.heap.size)
  generalize hAe : va_A [(h0, .inr (0, [a0, a1, a2, a3, a4, a5, a6, a7, a8, .int fc, .int fp]))] s.heap.size = A at hB hD ⊢
  have hA : ∀ q : Nat, s.heap.size ≤ q → A q := fun q h => by rw [← hAe]; exact Or.inr h
  have hS : va_S A s.heap s.heap [] := va_S.rf
  have hl := lv_entry ([.ref h0, .int 1]) (n := 2) (Nat.le_of_ble_eq_true rfl)
  rw [lg_entry_eq]
  generalize (lg_sl ([.ref h0, .int 1]) ++ List.replicate (2 - (lg_sl ([.ref h0, .int 1])).length) Slot.unset).toArray = ls at hl ⊢
  have hl : lv_has ls 2 [(0, .ref h0), (1, .int 1)] := hl
  refine lv_iload_n hx hb d_H_fault_0 rfl (lv_at hl 1 rfl) ?_
  refine lv_if_lt (tgt := 9) hx hb d_H_fault_1 rfl (fun h9 => absurd h9 (by decide)) (fun _ => ?_)
  refine lv_iload_n hx hb d_H_fault_4 rfl (lv_at hl 1 rfl) ?_
  refine lv_iconst (v := 1) hx hb d_H_fault_5 (by decide) ?_
  refine lv_icmp_le (tgt := 19) hx hb d_H_fault_6 rfl (fun _ => ?_) (fun h9 => absurd h9 (by decide))
  refine lv_iload_n hx hb d_H_fault_19 rfl (lv_at hl 1 rfl) ?_
  refine lv_if_ne (tgt := 30) hx hb d_H_fault_20 rfl (fun _ => ?_) (fun h9 => absurd h9 (by decide))
  refine lv_aload_n hx hb d_H_fault_30 rfl (lv_at hl 0 rfl) ?_
  refine va_get (D := D) (ci := 0) (v := .int fp) (C := R_H) (T := F_H) (N := 11) hx hb hts fin_H hown hK hP 0 rfl rfl 10 (by decide) (hts _ m_f8008c10) (fun _ h9 => h9) rfl d_H_fault_31 ?_
  refine W.widen (k := 0) (n := 0) (by decide) (by decide) ?_
  refine xt_mono xt_ofMQ ?_
  exact W.iret hx hb hr (fun t ht hW => ⟨(fun _ => 0), Or.inl ⟨_, rfl, rfl⟩, by rw [ht]; exact hP.sub [0] rfl, va_K.moved hW.alike (hK.sub [] rfl), hD.sub [0] (by decide) rfl, hS.F ht⟩) hS.2.2 d_H_fault_34 hlocks

set_option maxHeartbeats 4000000 in
set_option maxRecDepth 100000 in
theorem c_H_fault_t (l : Launch) (hfl : l.flags = pinnedFlags ++ [noTraceFlag]) (D : va_G) (h0 : Nat) (fc fp w : Int32) (a0 a1 a2 a3 a4 a5 a6 a7 a8 : Value) (sz : Nat) (hw : w < 0 ∨ 1 < w) : xt_Met l y_H_fault [.code y_H_fault b_H_fault 2 (some .int)] ({ frames := 8, cells := 1, slots := 6, locals := 120 }) (xt_P D xcl [.ref h0, .int w] [(h0, .inr (0, [a0, a1, a2, a3, a4, a5, a6, a7, a8, .int fc, .int fp]))] [] sz) (xt_Q (S := Nat → Nat) D xcl (va_A [(h0, .inr (0, [a0, a1, a2, a3, a4, a5, a6, a7, a8, .int fc, .int fp]))] sz) (fun _ _ => False) (fun X _ => X = "java/lang/IndexOutOfBoundsException") (fun u => [(h0, .inr (0, [a0, a1, a2, a3, a4, a5, a6, a7, a8, .int fc, .int fp]))]) (fun u => [])) 1 6 (va_A [(h0, .inr (0, [a0, a1, a2, a3, a4, a5, a6, a7, a8, .int fc, .int fp]))] sz) := by
  refine xt_ofW (cc := b_H_fault) (maxL := 2) (ret := (some .int)) (by decide) (List.mem_singleton.mpr rfl) ?_
  intro p e s m args below meth c s₁ B hml htab hv
  obtain ⟨rfl, hsz, hB, hP, hK, hD0⟩ := hv
  subst hsz
  have hx := B.exec
  have hb := B.bytes
  have hr := B.returns
  have hts := hB.1.at ([.ref h0, .int w] : List Value).toArray
  have hown : s.vm.findClass "StackHost" = some m.cls := findClass_of_methodNamed B.named
  have hlocks := B.notSynchronized
  have hD := hD0.self (sz := s.heap.size)
  generalize hAe : va_A [(h0, .inr (0, [a0, a1, a2, a3, a4, a5, a6, a7, a8, .int fc, .int fp]))] s.heap.size = A at hB hD ⊢
  have hA : ∀ q : Nat, s.heap.size ≤ q → A q := fun q h => by rw [← hAe]; exact Or.inr h
  have hS : va_S A s.heap s.heap [] := va_S.rf
  have hl := lv_entry ([.ref h0, .int w]) (n := 2) (Nat.le_of_ble_eq_true rfl)
  rw [lg_entry_eq]
  generalize (lg_sl ([.ref h0, .int w]) ++ List.replicate (2 - (lg_sl ([.ref h0, .int w])).length) Slot.unset).toArray = ls at hl ⊢
  have hl : lv_has ls 2 [(0, .ref h0), (1, .int w)] := hl
  refine lv_iload_n hx hb d_H_fault_0 rfl (lv_at hl 1 rfl) ?_
  refine lv_if_lt (tgt := 9) hx hb d_H_fault_1 rfl (fun h1 => ?_) (fun h1 => ?_)
  · refine W.widen (k := 0) (n := 0) (by decide) (by decide) ?_
    exact xt_throw (names := ["java/lang/RuntimeException", "java/lang/Exception"]) hx hb (hml.trans hl.1.symm) hlocks hfl hown xsite_df35ce hB hS (by decide) (by decide) (by decide) (Nat.le_of_ble_eq_true rfl) htab d_H_fault_9 d_H_fault_12 (xt_l2) d_H_fault_13 d_H_fault_15 d_H_fault_18 hP hD hK (fun _ => 0) rfl rfl rfl
  · refine lv_iload_n hx hb d_H_fault_4 rfl (lv_at hl 1 rfl) ?_
    refine lv_iconst (v := 1) hx hb d_H_fault_5 (by decide) ?_
    refine lv_icmp_le (tgt := 19) hx hb d_H_fault_6 rfl (fun h9 => absurd h9 (by rcases hw with hw | hw; exact absurd hw ‹¬ w < 0›; exact Int32.not_le.mpr hw)) (fun _ => ?_)
    refine W.widen (k := 0) (n := 0) (by decide) (by decide) ?_
    exact xt_throw (names := ["java/lang/RuntimeException", "java/lang/Exception"]) hx hb (hml.trans hl.1.symm) hlocks hfl hown xsite_df35ce hB hS (by decide) (by decide) (by decide) (Nat.le_of_ble_eq_true rfl) htab d_H_fault_9 d_H_fault_12 (xt_l2) d_H_fault_13 d_H_fault_15 d_H_fault_18 hP hD hK (fun _ => 0) rfl rfl rfl

set_option maxHeartbeats 4000000 in
set_option maxRecDepth 100000 in
theorem c_H_wrong (l : Launch) (D : va_G) (h0 : Nat) (a0 a1 a2 a3 a4 a5 a6 a7 a8 a9 a10 : Value) (sz : Nat) : xt_Met l y_H_wrong [.code y_H_wrong b_H_wrong 1 (some .int)] ({ frames := 8, cells := 0, slots := 0, locals := 120 }) (xt_P D xcl [.ref h0] [(h0, .inr (0, [a0, a1, a2, a3, a4, a5, a6, a7, a8, a9, a10]))] [] sz) (xt_Q (S := Nat → Nat) D xcl (va_A [(h0, .inr (0, [a0, a1, a2, a3, a4, a5, a6, a7, a8, a9, a10]))] sz) (fun v u => v = some (.int 0)) (fun _ _ => False) (fun u => [(h0, .inr (0, [a0, a1, a2, a3, a4, a5, a6, a7, a8, a9, a10]))]) (fun u => [])) 0 0 (va_A [(h0, .inr (0, [a0, a1, a2, a3, a4, a5, a6, a7, a8, a9, a10]))] sz) := by
  refine xt_ofW (cc := b_H_wrong) (maxL := 1) (ret := (some .int)) (by decide) (List.mem_singleton.mpr rfl) ?_
  intro p e s m args below meth c s₁ B hml htab hv
  obtain ⟨rfl, hsz, hB, hP, hK, hD0⟩ := hv
  subst hsz
  have hx := B.exec
  have hb := B.bytes
  have hr := B.returns
  have hts := hB.1.at ([.ref h0] : List Value).toArray
  have hown : s.vm.findClass "StackHost" = some m.cls := findClass_of_methodNamed B.named
  have hlocks := B.notSynchronized
  have hD := hD0.self (sz := s.heap.size)
  generalize hAe : va_A [(h0, .inr (0, [a0, a1, a2, a3, a4, a5, a6, a7, a8, a9, a10]))] s.heap.size = A at hB hD ⊢
  have hA : ∀ q : Nat, s.heap.size ≤ q → A q := fun q h => by rw [← hAe]; exact Or.inr h
  have hS : va_S A s.heap s.heap [] := va_S.rf
  have hl := lv_entry ([.ref h0]) (n := 1) (Nat.le_of_ble_eq_true rfl)
  rw [lg_entry_eq]
  generalize (lg_sl ([.ref h0]) ++ List.replicate (1 - (lg_sl ([.ref h0])).length) Slot.unset).toArray = ls at hl ⊢
  have hl : lv_has ls 1 [(0, .ref h0)] := hl
  refine lv_iconst (v := 0) hx hb d_H_wrong_0 (by decide) ?_
  refine W.widen (k := 0) (n := 0) (by decide) (by decide) ?_
  refine xt_mono xt_ofMQ ?_
  exact W.iret hx hb hr (fun t ht hW => ⟨(fun _ => 0), Or.inl ⟨_, rfl, rfl⟩, by rw [ht]; exact hP.sub [0] rfl, va_K.moved hW.alike (hK.sub [] rfl), hD.sub [0] (by decide) rfl, hS.F ht⟩) hS.2.2 d_H_wrong_1 hlocks

set_option maxHeartbeats 4000000 in
set_option maxRecDepth 100000 in
theorem c_H_end_0 (l : Launch) (D : va_G) (h0 : Nat) (a0 a2 a3 a4 a5 a6 a7 a8 a9 a10 : Value) (sz : Nat) : xt_Met l y_H_end [.code y_H_end b_H_end 2 none] ({ frames := 8, cells := 0, slots := 0, locals := 120 }) (xt_P D xcl [.ref h0, .int 0] [(h0, .inr (0, [a0, .int 0, a2, a3, a4, a5, a6, a7, a8, a9, a10]))] [] sz) (xt_Q (S := Nat → Nat) D xcl (va_A [(h0, .inr (0, [a0, .int 0, a2, a3, a4, a5, a6, a7, a8, a9, a10]))] sz) (fun v _ => v = none) (fun _ _ => False) (fun u => [(h0, .inr (0, [a0, .int 0, a2, a3, a4, a5, a6, a7, a8, a9, a10]))]) (fun u => [])) 0 0 (va_A [(h0, .inr (0, [a0, .int 0, a2, a3, a4, a5, a6, a7, a8, a9, a10]))] sz) := by
  refine xt_ofW (cc := b_H_end) (maxL := 2) (ret := none) (by decide) (List.mem_singleton.mpr rfl) ?_
  intro p e s m args below meth c s₁ B hml htab hv
  obtain ⟨rfl, hsz, hB, hP, hK, hD0⟩ := hv
  subst hsz
  have hx := B.exec
  have hb := B.bytes
  have hr := B.returns
  have hts := hB.1.at ([.ref h0, .int 0] : List Value).toArray
  have hown : s.vm.findClass "StackHost" = some m.cls := findClass_of_methodNamed B.named
  have hlocks := B.notSynchronized
  have hD := hD0.self (sz := s.heap.size)
  generalize hAe : va_A [(h0, .inr (0, [a0, .int 0, a2, a3, a4, a5, a6, a7, a8, a9, a10]))] s.heap.size = A at hB hD ⊢
  have hA : ∀ q : Nat, s.heap.size ≤ q → A q := fun q h => by rw [← hAe]; exact Or.inr h
  have hS : va_S A s.heap s.heap [] := va_S.rf
  have hl := lv_entry ([.ref h0, .int 0]) (n := 2) (Nat.le_of_ble_eq_true rfl)
  rw [lg_entry_eq]
  generalize (lg_sl ([.ref h0, .int 0]) ++ List.replicate (2 - (lg_sl ([.ref h0, .int 0])).length) Slot.unset).toArray = ls at hl ⊢
  have hl : lv_has ls 2 [(0, .ref h0), (1, .int 0)] := hl
  refine lv_iload_n hx hb d_H_end_0 rfl (lv_at hl 1 rfl) ?_
  refine lv_if_lt (tgt := 12) hx hb d_H_end_1 rfl (fun h9 => absurd h9 (by decide)) (fun _ => ?_)
  refine lv_iload_n hx hb d_H_end_4 rfl (lv_at hl 1 rfl) ?_
  refine lv_aload_n hx hb d_H_end_5 rfl (lv_at hl 0 rfl) ?_
  refine va_get (D := D) (ci := 0) (v := .int 0) (C := R_H) (T := F_H) (N := 11) hx hb hts fin_H hown hK hP 0 rfl rfl 1 (by decide) (hts _ m_1ee8d2b8) (fun _ h9 => h9) rfl d_H_end_6 ?_
  refine lv_icmp_le (tgt := 22) hx hb d_H_end_9 rfl (fun _ => ?_) (fun h9 => absurd h9 (by decide))
  refine lv_aload_n hx hb d_H_end_22 rfl (lv_at hl 0 rfl) ?_
  refine lv_iload_n hx hb d_H_end_23 rfl (lv_at hl 1 rfl) ?_
  refine va_put (D := D) (ci := 0) (v := .int 0) (ty := .int) (C := R_H) (T := F_H) (N := 11) hx hb hts fin_H t_H t_H_ok n_H hown hK hP hD hS 0 rfl rfl 1 (by decide) (hts _ m_1ee8d2b8) (fun _ h9 => h9) rfl (by decide +kernel) (by first | rfl | decide) (by first | rfl | decide) (Nat.le_of_ble_eq_true rfl) d_H_end_24 (fun H locs hP hD hS => ?_)
  have hP : va_P D xcl [(h0, .inr (0, [a0, .int 0, a2, a3, a4, a5, a6, a7, a8, a9, a10]))] H := hP
  have hD : va_D A [(h0, .inr (0, [a0, .int 0, a2, a3, a4, a5, a6, a7, a8, a9, a10]))] := hD
  refine W.widen (k := 0) (n := 0) (by decide) (by decide) ?_
  refine xt_mono xt_ofMQ ?_
  exact W.vret hx hb hr (fun t ht hW => ⟨(fun _ => 0), Or.inl ⟨_, rfl, rfl⟩, by rw [ht]; exact hP.sub [0] rfl, va_K.moved hW.alike (hK.sub [] rfl), hD.sub [0] (by decide) rfl, hS.F ht⟩) hS.2.2 d_H_end_27 hlocks

set_option maxHeartbeats 4000000 in
set_option maxRecDepth 100000 in
theorem c_H_end_t (l : Launch) (hfl : l.flags = pinnedFlags ++ [noTraceFlag]) (D : va_G) (h0 : Nat) (ts n : Int32) (a0 a2 a3 a4 a5 a6 a7 a8 a9 a10 : Value) (sz : Nat) (hn : n < 0 ∨ ts < n) : xt_Met l y_H_end [.code y_H_end b_H_end 2 none] ({ frames := 8, cells := 1, slots := 6, locals := 120 }) (xt_P D xcl [.ref h0, .int n] [(h0, .inr (0, [a0, .int ts, a2, a3, a4, a5, a6, a7, a8, a9, a10]))] [] sz) (xt_Q (S := Nat → Nat) D xcl (va_A [(h0, .inr (0, [a0, .int ts, a2, a3, a4, a5, a6, a7, a8, a9, a10]))] sz) (fun _ _ => False) (fun X _ => X = "java/lang/IllegalArgumentException") (fun u => [(h0, .inr (0, [a0, .int ts, a2, a3, a4, a5, a6, a7, a8, a9, a10]))]) (fun u => [])) 1 6 (va_A [(h0, .inr (0, [a0, .int ts, a2, a3, a4, a5, a6, a7, a8, a9, a10]))] sz) := by
  refine xt_ofW (cc := b_H_end) (maxL := 2) (ret := none) (by decide) (List.mem_singleton.mpr rfl) ?_
  intro p e s m args below meth c s₁ B hml htab hv
  obtain ⟨rfl, hsz, hB, hP, hK, hD0⟩ := hv
  subst hsz
  have hx := B.exec
  have hb := B.bytes
  have hr := B.returns
  have hts := hB.1.at ([.ref h0, .int n] : List Value).toArray
  have hown : s.vm.findClass "StackHost" = some m.cls := findClass_of_methodNamed B.named
  have hlocks := B.notSynchronized
  have hD := hD0.self (sz := s.heap.size)
  generalize hAe : va_A [(h0, .inr (0, [a0, .int ts, a2, a3, a4, a5, a6, a7, a8, a9, a10]))] s.heap.size = A at hB hD ⊢
  have hA : ∀ q : Nat, s.heap.size ≤ q → A q := fun q h => by rw [← hAe]; exact Or.inr h
  have hS : va_S A s.heap s.heap [] := va_S.rf
  have hl := lv_entry ([.ref h0, .int n]) (n := 2) (Nat.le_of_ble_eq_true rfl)
  rw [lg_entry_eq]
  generalize (lg_sl ([.ref h0, .int n]) ++ List.replicate (2 - (lg_sl ([.ref h0, .int n])).length) Slot.unset).toArray = ls at hl ⊢
  have hl : lv_has ls 2 [(0, .ref h0), (1, .int n)] := hl
  refine lv_iload_n hx hb d_H_end_0 rfl (lv_at hl 1 rfl) ?_
  refine lv_if_lt (tgt := 12) hx hb d_H_end_1 rfl (fun h1 => ?_) (fun h1 => ?_)
  · refine W.widen (k := 0) (n := 0) (by decide) (by decide) ?_
    exact xt_throw (names := ["java/lang/RuntimeException", "java/lang/Exception"]) hx hb (hml.trans hl.1.symm) hlocks hfl hown xsite_83e14a hB hS (by decide) (by decide) (by decide) (Nat.le_of_ble_eq_true rfl) htab d_H_end_12 d_H_end_15 (xt_l2) d_H_end_16 d_H_end_18 d_H_end_21 hP hD hK (fun _ => 0) rfl rfl rfl
  · refine lv_iload_n hx hb d_H_end_4 rfl (lv_at hl 1 rfl) ?_
    refine lv_aload_n hx hb d_H_end_5 rfl (lv_at hl 0 rfl) ?_
    refine va_get (D := D) (ci := 0) (v := .int ts) (C := R_H) (T := F_H) (N := 11) hx hb hts fin_H hown hK hP 0 rfl rfl 1 (by decide) (hts _ m_1ee8d2b8) (fun _ h9 => h9) rfl d_H_end_6 ?_
    refine lv_icmp_le (tgt := 22) hx hb d_H_end_9 rfl (fun h9 => absurd h9 (by rcases hn with hn | hn; exact absurd hn ‹¬ n < 0›; exact Int32.not_le.mpr hn)) (fun _ => ?_)
    refine W.widen (k := 0) (n := 0) (by decide) (by decide) ?_
    exact xt_throw (names := ["java/lang/RuntimeException", "java/lang/Exception"]) hx hb (hml.trans hl.1.symm) hlocks hfl hown xsite_83e14a hB hS (by decide) (by decide) (by decide) (Nat.le_of_ble_eq_true rfl) htab d_H_end_12 d_H_end_15 (xt_l2) d_H_end_16 d_H_end_18 d_H_end_21 hP hD hK (fun _ => 0) rfl rfl rfl

set_option maxHeartbeats 4000000 in
set_option maxRecDepth 100000 in
theorem c_H_calls (l : Launch) (D : va_G) (h0 mm : Nat) (uw dp : Int32) (a0 a1 a2 a3 a4 a5 a6 a8 a9 a10 : Value) (b0 b1 b2 b5 b6 b7 b8 b9 b10 b11 b12 b13 b14 b15 b16 b17 : Value) (sz : Nat) : xt_Met l y_H_calls [.code y_H_calls b_H_calls 1 (some .int)] ({ frames := 8, cells := 0, slots := 0, locals := 120 }) (xt_P D xcl [.ref h0] [(h0, .inr (0, [a0, a1, a2, a3, a4, a5, a6, .ref mm, a8, a9, a10])), (mm, .inr (7, [b0, b1, b2, .int uw, .int dp, b5, b6, b7, b8, b9, b10, b11, b12, b13, b14, b15, b16, b17]))] [] sz) (xt_Q (S := Nat → Nat) D xcl (va_A [(h0, .inr (0, [a0, a1, a2, a3, a4, a5, a6, .ref mm, a8, a9, a10])), (mm, .inr (7, [b0, b1, b2, .int uw, .int dp, b5, b6, b7, b8, b9, b10, b11, b12, b13, b14, b15, b16, b17]))] sz) (fun v u => v = some (.int dp)) (fun _ _ => False) (fun u => [(h0, .inr (0, [a0, a1, a2, a3, a4, a5, a6, .ref mm, a8, a9, a10])), (mm, .inr (7, [b0, b1, b2, .int uw, .int dp, b5, b6, b7, b8, b9, b10, b11, b12, b13, b14, b15, b16, b17]))]) (fun u => [])) 0 0 (va_A [(h0, .inr (0, [a0, a1, a2, a3, a4, a5, a6, .ref mm, a8, a9, a10])), (mm, .inr (7, [b0, b1, b2, .int uw, .int dp, b5, b6, b7, b8, b9, b10, b11, b12, b13, b14, b15, b16, b17]))] sz) := by
  refine xt_ofW (cc := b_H_calls) (maxL := 1) (ret := (some .int)) (by decide) (List.mem_singleton.mpr rfl) ?_
  intro p e s m args below meth c s₁ B hml htab hv
  obtain ⟨rfl, hsz, hB, hP, hK, hD0⟩ := hv
  subst hsz
  have hx := B.exec
  have hb := B.bytes
  have hr := B.returns
  have hts := hB.1.at ([.ref h0] : List Value).toArray
  have hown : s.vm.findClass "StackHost" = some m.cls := findClass_of_methodNamed B.named
  have hlocks := B.notSynchronized
  have hD := hD0.self (sz := s.heap.size)
  generalize hAe : va_A [(h0, .inr (0, [a0, a1, a2, a3, a4, a5, a6, .ref mm, a8, a9, a10])), (mm, .inr (7, [b0, b1, b2, .int uw, .int dp, b5, b6, b7, b8, b9, b10, b11, b12, b13, b14, b15, b16, b17]))] s.heap.size = A at hB hD ⊢
  have hA : ∀ q : Nat, s.heap.size ≤ q → A q := fun q h => by rw [← hAe]; exact Or.inr h
  have hS : va_S A s.heap s.heap [] := va_S.rf
  have hl := lv_entry ([.ref h0]) (n := 1) (Nat.le_of_ble_eq_true rfl)
  rw [lg_entry_eq]
  generalize (lg_sl ([.ref h0]) ++ List.replicate (1 - (lg_sl ([.ref h0])).length) Slot.unset).toArray = ls at hl ⊢
  have hl : lv_has ls 1 [(0, .ref h0)] := hl
  refine lv_aload_n hx hb d_H_calls_0 rfl (lv_at hl 0 rfl) ?_
  refine va_get (D := D) (ci := 0) (v := .ref mm) (C := R_H) (T := F_H) (N := 11) hx hb hts fin_H hown hK hP 0 rfl rfl 7 (by decide) (hts _ m_ab10058e) (fun _ h9 => h9) rfl d_H_calls_1 ?_
  refine va_get (D := D) (ci := 7) (v := .int dp) (C := R_Machine) (T := F_Machine) (N := 18) hx hb hts fin_Machine hown hK hP 1 rfl rfl 4 (by decide) (hts _ m_bae63374) (fun _ h9 => h9) rfl d_H_calls_4 ?_
  refine W.widen (k := 0) (n := 0) (by decide) (by decide) ?_
  refine xt_mono xt_ofMQ ?_
  exact W.iret hx hb hr (fun t ht hW => ⟨(fun _ => 0), Or.inl ⟨_, rfl, rfl⟩, by rw [ht]; exact hP.sub [0, 1] rfl, va_K.moved hW.alike (hK.sub [] rfl), hD.sub [0, 1] (by decide) rfl, hS.F ht⟩) hS.2.2 d_H_calls_7 hlocks

set_option maxHeartbeats 4000000 in
set_option maxRecDepth 100000 in
theorem c_Machine_giveUp (l : Launch) (D : va_G) (mm : Nat) (uw dp : Int32) (b0 b1 b2 b5 b6 b7 b8 b9 b10 b11 b12 b13 b14 b15 b16 b17 : Value) (sz : Nat) : xt_Met l y_Machine_giveUp [.code y_Machine_giveUp b_Machine_giveUp 2 (some .int)] ({ frames := 8, cells := 0, slots := 0, locals := 120 }) (xt_P D xcl [.ref mm] [(mm, .inr (7, [b0, b1, b2, .int uw, .int dp, b5, b6, b7, b8, b9, b10, b11, b12, b13, b14, b15, b16, b17]))] [] sz) (xt_Q (S := Nat → Nat) D xcl (va_A [(mm, .inr (7, [b0, b1, b2, .int uw, .int dp, b5, b6, b7, b8, b9, b10, b11, b12, b13, b14, b15, b16, b17]))] sz) (fun v u => v = some (.int dp)) (fun _ _ => False) (fun u => [(mm, .inr (7, [b0, b1, b2, .int 0, .int 0, b5, b6, b7, b8, b9, b10, b11, b12, b13, b14, b15, b16, b17]))]) (fun u => [])) 0 0 (va_A [(mm, .inr (7, [b0, b1, b2, .int uw, .int dp, b5, b6, b7, b8, b9, b10, b11, b12, b13, b14, b15, b16, b17]))] sz) := by
  refine xt_ofW (cc := b_Machine_giveUp) (maxL := 2) (ret := (some .int)) (by decide) (List.mem_singleton.mpr rfl) ?_
  intro p e s m args below meth c s₁ B hml htab hv
  obtain ⟨rfl, hsz, hB, hP, hK, hD0⟩ := hv
  subst hsz
  have hx := B.exec
  have hb := B.bytes
  have hr := B.returns
  have hts := hB.1.at ([.ref mm] : List Value).toArray
  have hown : s.vm.findClass "StackHost$Machine" = some m.cls := findClass_of_methodNamed B.named
  have hlocks := B.notSynchronized
  have hD := hD0.self (sz := s.heap.size)
  generalize hAe : va_A [(mm, .inr (7, [b0, b1, b2, .int uw, .int dp, b5, b6, b7, b8, b9, b10, b11, b12, b13, b14, b15, b16, b17]))] s.heap.size = A at hB hD ⊢
  have hA : ∀ q : Nat, s.heap.size ≤ q → A q := fun q h => by rw [← hAe]; exact Or.inr h
  have hS : va_S A s.heap s.heap [] := va_S.rf
  have hl := lv_entry ([.ref mm]) (n := 2) (Nat.le_of_ble_eq_true rfl)
  rw [lg_entry_eq]
  generalize (lg_sl ([.ref mm]) ++ List.replicate (2 - (lg_sl ([.ref mm])).length) Slot.unset).toArray = ls at hl ⊢
  have hl : lv_has ls 2 [(0, .ref mm)] := hl
  refine lv_aload_n hx hb d_Machine_giveUp_0 rfl (lv_at hl 0 rfl) ?_
  refine va_get (D := D) (ci := 7) (v := .int dp) (C := R_Machine) (T := F_Machine) (N := 18) hx hb hts fin_Machine hown hK hP 0 rfl rfl 4 (by decide) (hts _ m_61f414b6) (fun _ h9 => h9) rfl d_Machine_giveUp_1 ?_
  refine lv_istore_n hx hb d_Machine_giveUp_4 rfl hl (by decide) rfl (fun ls hl => ?_)
  have hl : lv_has ls 2 [(1, .int dp), (0, .ref mm)] := hl
  refine lv_aload_n hx hb d_Machine_giveUp_5 rfl (lv_at hl 1 rfl) ?_
  refine lv_iconst (v := 0) hx hb d_Machine_giveUp_6 (by decide) ?_
  refine va_put (D := D) (ci := 7) (v := .int 0) (ty := .boolean) (C := R_Machine) (T := F_Machine) (N := 18) hx hb hts fin_Machine t_Machine t_Machine_ok n_Machine hown hK hP hD hS 0 rfl rfl 3 (by decide) (hts _ m_87cf9501) (fun _ h9 => h9) rfl (by decide +kernel) (by first | rfl | decide) (by first | rfl | decide) (Nat.le_of_ble_eq_true rfl) d_Machine_giveUp_7 (fun H locs hP hD hS => ?_)
  have hP : va_P D xcl [(mm, .inr (7, [b0, b1, b2, .int 0, .int dp, b5, b6, b7, b8, b9, b10, b11, b12, b13, b14, b15, b16, b17]))] H := hP
  have hD : va_D A [(mm, .inr (7, [b0, b1, b2, .int 0, .int dp, b5, b6, b7, b8, b9, b10, b11, b12, b13, b14, b15, b16, b17]))] := hD
  refine lv_aload_n hx hb d_Machine_giveUp_10 rfl (lv_at hl 1 rfl) ?_
  refine lv_iconst (v := 0) hx hb d_Machine_giveUp_11 (by decide) ?_
  refine va_put (D := D) (ci := 7) (v := .int 0) (ty := .int) (C := R_Machine) (T := F_Machine) (N := 18) hx hb hts fin_Machine t_Machine t_Machine_ok n_Machine hown hK hP hD hS 0 rfl rfl 4 (by decide) (hts _ m_61f414b6) (fun _ h9 => h9) rfl (by decide +kernel) (by first | rfl | decide) (by first | rfl | decide) (Nat.le_of_ble_eq_true rfl) d_Machine_giveUp_12 (fun H locs hP hD hS => ?_)
  have hP : va_P D xcl [(mm, .inr (7, [b0, b1, b2, .int 0, .int 0, b5, b6, b7, b8, b9, b10, b11, b12, b13, b14, b15, b16, b17]))] H := hP
  have hD : va_D A [(mm, .inr (7, [b0, b1, b2, .int 0, .int 0, b5, b6, b7, b8, b9, b10, b11, b12, b13, b14, b15, b16, b17]))] := hD
  refine lv_iload_n hx hb d_Machine_giveUp_15 rfl (lv_at hl 0 rfl) ?_
  refine W.widen (k := 0) (n := 0) (by decide) (by decide) ?_
  refine xt_mono xt_ofMQ ?_
  exact W.iret hx hb hr (fun t ht hW => ⟨(fun _ => 0), Or.inl ⟨_, rfl, rfl⟩, by rw [ht]; exact hP.sub [0] rfl, va_K.moved hW.alike (hK.sub [] rfl), hD.sub [0] (by decide) rfl, hS.F ht⟩) hS.2.2 d_Machine_giveUp_16 hlocks

set_option maxHeartbeats 4000000 in
set_option maxRecDepth 100000 in
theorem c_H_stop (l : Launch) (D : va_G) (h0 mm : Nat) (uw dp : Int32) (a0 a1 a2 a3 a4 a5 a6 a8 a9 a10 : Value) (b0 b1 b2 b5 b6 b7 b8 b9 b10 b11 b12 b13 b14 b15 b16 b17 : Value) (sz : Nat) : xt_Met l y_H_stop [.code y_H_stop b_H_stop 1 (some .int)] ({ frames := 9, cells := 0, slots := 0, locals := 220 }) (xt_P D xcl [.ref h0] [(h0, .inr (0, [a0, a1, a2, a3, a4, a5, a6, .ref mm, a8, a9, a10])), (mm, .inr (7, [b0, b1, b2, .int uw, .int dp, b5, b6, b7, b8, b9, b10, b11, b12, b13, b14, b15, b16, b17]))] [] sz) (xt_Q (S := Nat → Nat) D xcl (va_A [(h0, .inr (0, [a0, a1, a2, a3, a4, a5, a6, .ref mm, a8, a9, a10])), (mm, .inr (7, [b0, b1, b2, .int uw, .int dp, b5, b6, b7, b8, b9, b10, b11, b12, b13, b14, b15, b16, b17]))] sz) (fun v u => v = some (.int dp)) (fun _ _ => False) (fun u => [(h0, .inr (0, [a0, a1, a2, a3, a4, a5, a6, .ref mm, a8, a9, a10])), (mm, .inr (7, [b0, b1, b2, .int 0, .int 0, b5, b6, b7, b8, b9, b10, b11, b12, b13, b14, b15, b16, b17]))]) (fun u => [])) 0 0 (va_A [(h0, .inr (0, [a0, a1, a2, a3, a4, a5, a6, .ref mm, a8, a9, a10])), (mm, .inr (7, [b0, b1, b2, .int uw, .int dp, b5, b6, b7, b8, b9, b10, b11, b12, b13, b14, b15, b16, b17]))] sz) := by
  refine xt_ofW (cc := b_H_stop) (maxL := 1) (ret := (some .int)) (by decide) (List.mem_singleton.mpr rfl) ?_
  intro p e s m args below meth c s₁ B hml htab hv
  obtain ⟨rfl, hsz, hB, hP, hK, hD0⟩ := hv
  subst hsz
  have hx := B.exec
  have hb := B.bytes
  have hr := B.returns
  have hts := hB.1.at ([.ref h0] : List Value).toArray
  have hown : s.vm.findClass "StackHost" = some m.cls := findClass_of_methodNamed B.named
  have hlocks := B.notSynchronized
  have hD := hD0.self (sz := s.heap.size)
  generalize hAe : va_A [(h0, .inr (0, [a0, a1, a2, a3, a4, a5, a6, .ref mm, a8, a9, a10])), (mm, .inr (7, [b0, b1, b2, .int uw, .int dp, b5, b6, b7, b8, b9, b10, b11, b12, b13, b14, b15, b16, b17]))] s.heap.size = A at hB hD ⊢
  have hA : ∀ q : Nat, s.heap.size ≤ q → A q := fun q h => by rw [← hAe]; exact Or.inr h
  have hS : va_S A s.heap s.heap [] := va_S.rf
  have hl := lv_entry ([.ref h0]) (n := 1) (Nat.le_of_ble_eq_true rfl)
  rw [lg_entry_eq]
  generalize (lg_sl ([.ref h0]) ++ List.replicate (1 - (lg_sl ([.ref h0])).length) Slot.unset).toArray = ls at hl ⊢
  have hl : lv_has ls 1 [(0, .ref h0)] := hl
  refine lv_aload_n hx hb d_H_stop_0 rfl (lv_at hl 0 rfl) ?_
  refine va_get (D := D) (ci := 0) (v := .ref mm) (C := R_H) (T := F_H) (N := 11) hx hb hts fin_H hown hK hP 0 rfl rfl 7 (by decide) (hts _ m_ab10058e) (fun _ h9 => h9) rfl d_H_stop_1 ?_
  refine xt_call (D := D) (cl := xcl) (wr := [(h0, .inr (0, [a0, a1, a2, a3, a4, a5, a6, .ref mm, a8, a9, a10]))]) (fun T hT X => by
    obtain ⟨cb, r1, r2, r3⟩ := va_recv hK hP (ci := 7) (q0 := 1) rfl rfl
    exact xt_invV X hx hown (hts _ m_aa970225) (hts _ m_da215f51) (hts _ m_ee99946d) (xt_sigOf (hts _ m_eebcd01f)) nm_Machine_giveUp (by rw [hT]; exact r1) r2 r3 (g := F0 m 4 ls [.ref mm]) rfl (argsL := []) (rest := []) rfl rfl (by rw [hb]; exact d_H_stop_4)) (c_Machine_giveUp l D mm uw dp (b0) (b1) (b2) (b5) (b6) (b7) (b8) (b9) (b10) (b11) (b12) (b13) (b14) (b15) (b16) (b17) s.heap.size) (hml.trans hl.1.symm) (by rw [hb]; exact d_H_stop_4) (Nat.le_of_ble_eq_true rfl) rfl rfl (by decide) (by decide) (by decide) (by decide) (xt_w1 hB m_eebcd01f) (xt_cdOf hB m_eebcd01f) (hts _ m_73451f9b) hB hK hP hD hS hA [1] [0] [] rfl rfl rfl (by decide) (by decide) (by decide) (fun v2 u1 H locs hp hP hD hK hS => ?_) (fun XX9 ax9 u1 H locs hp hex hP hD hK hS => ?_)
  · obtain rfl : v2 = some (.int dp) := hp
    have hP : va_P D xcl [(h0, .inr (0, [a0, a1, a2, a3, a4, a5, a6, .ref mm, a8, a9, a10])), (mm, .inr (7, [b0, b1, b2, .int 0, .int 0, b5, b6, b7, b8, b9, b10, b11, b12, b13, b14, b15, b16, b17]))] H := hP
    have hD : va_D A [(h0, .inr (0, [a0, a1, a2, a3, a4, a5, a6, .ref mm, a8, a9, a10])), (mm, .inr (7, [b0, b1, b2, .int 0, .int 0, b5, b6, b7, b8, b9, b10, b11, b12, b13, b14, b15, b16, b17]))] := hD
    have hK : va_K D xcl [] s := hK
    refine W.eq (g2 := F0 m 7 ls [.int dp]) rfl ?_
    refine W.widen (k := 0) (n := 0) (by omega) (by omega) ?_
    refine W.widen (k := 0) (n := 0) (by decide) (by decide) ?_
    refine xt_mono xt_ofMQ ?_
    exact W.iret hx hb hr (fun t ht hW => ⟨(fun _ => 0), Or.inl ⟨_, rfl, rfl⟩, by rw [ht]; exact hP.sub [0, 1] rfl, va_K.moved hW.alike (hK.sub [] rfl), hD.sub [0, 1] (by decide) rfl, hS.F ht⟩) hS.2.2 d_H_stop_7 hlocks
  · exact False.elim hp

set_option maxHeartbeats 4000000 in
set_option maxRecDepth 100000 in
theorem c_H_result (l : Launch) (D : va_G) (h0 mm : Nat) (lr : Int64) (a0 a1 a2 a3 a4 a5 a6 a8 a9 a10 : Value) (b0 b1 b2 b3 b4 b6 b7 b8 b9 b10 b11 b12 b13 b14 b15 b16 b17 : Value) (sz : Nat) : xt_Met l y_H_result [.code y_H_result b_H_result 1 (some .long)] ({ frames := 8, cells := 0, slots := 0, locals := 120 }) (xt_P D xcl [.ref h0] [(h0, .inr (0, [a0, a1, a2, a3, a4, a5, a6, .ref mm, a8, a9, a10])), (mm, .inr (7, [b0, b1, b2, b3, b4, .long lr, b6, b7, b8, b9, b10, b11, b12, b13, b14, b15, b16, b17]))] [] sz) (xt_Q (S := Nat → Nat) D xcl (va_A [(h0, .inr (0, [a0, a1, a2, a3, a4, a5, a6, .ref mm, a8, a9, a10])), (mm, .inr (7, [b0, b1, b2, b3, b4, .long lr, b6, b7, b8, b9, b10, b11, b12, b13, b14, b15, b16, b17]))] sz) (fun v u => v = some (.long lr)) (fun _ _ => False) (fun u => [(h0, .inr (0, [a0, a1, a2, a3, a4, a5, a6, .ref mm, a8, a9, a10])), (mm, .inr (7, [b0, b1, b2, b3, b4, .long lr, b6, b7, b8, b9, b10, b11, b12, b13, b14, b15, b16, b17]))]) (fun u => [])) 0 0 (va_A [(h0, .inr (0, [a0, a1, a2, a3, a4, a5, a6, .ref mm, a8, a9, a10])), (mm, .inr (7, [b0, b1, b2, b3, b4, .long lr, b6, b7, b8, b9, b10, b11, b12, b13, b14, b15, b16, b17]))] sz) := by
  refine xt_ofW (cc := b_H_result) (maxL := 1) (ret := (some .long)) (by decide) (List.mem_singleton.mpr rfl) ?_
  intro p e s m args below meth c s₁ B hml htab hv
  obtain ⟨rfl, hsz, hB, hP, hK, hD0⟩ := hv
  subst hsz
  have hx := B.exec
  have hb := B.bytes
  have hr := B.returns
  have hts := hB.1.at ([.ref h0] : List Value).toArray
  have hown : s.vm.findClass "StackHost" = some m.cls := findClass_of_methodNamed B.named
  have hlocks := B.notSynchronized
  have hD := hD0.self (sz := s.heap.size)
  generalize hAe : va_A [(h0, .inr (0, [a0, a1, a2, a3, a4, a5, a6, .ref mm, a8, a9, a10])), (mm, .inr (7, [b0, b1, b2, b3, b4, .long lr, b6, b7, b8, b9, b10, b11, b12, b13, b14, b15, b16, b17]))] s.heap.size = A at hB hD ⊢
  have hA : ∀ q : Nat, s.heap.size ≤ q → A q := fun q h => by rw [← hAe]; exact Or.inr h
  have hS : va_S A s.heap s.heap [] := va_S.rf
  have hl := lv_entry ([.ref h0]) (n := 1) (Nat.le_of_ble_eq_true rfl)
  rw [lg_entry_eq]
  generalize (lg_sl ([.ref h0]) ++ List.replicate (1 - (lg_sl ([.ref h0])).length) Slot.unset).toArray = ls at hl ⊢
  have hl : lv_has ls 1 [(0, .ref h0)] := hl
  refine lv_aload_n hx hb d_H_result_0 rfl (lv_at hl 0 rfl) ?_
  refine va_get (D := D) (ci := 0) (v := .ref mm) (C := R_H) (T := F_H) (N := 11) hx hb hts fin_H hown hK hP 0 rfl rfl 7 (by decide) (hts _ m_ab10058e) (fun _ h9 => h9) rfl d_H_result_1 ?_
  refine va_get (D := D) (ci := 7) (v := .long lr) (C := R_Machine) (T := F_Machine) (N := 18) hx hb hts fin_Machine hown hK hP 1 rfl rfl 5 (by decide) (hts _ m_bf3f69c6) (fun _ h9 => h9) rfl d_H_result_4 ?_
  refine W.widen (k := 0) (n := 0) (by decide) (by decide) ?_
  refine xt_mono xt_ofMQ ?_
  exact W.lret hx hb hr (fun t ht hW => ⟨(fun _ => 0), Or.inl ⟨_, rfl, rfl⟩, by rw [ht]; exact hP.sub [0, 1] rfl, va_K.moved hW.alike (hK.sub [] rfl), hD.sub [0, 1] (by decide) rfl, hS.F ht⟩) hS.2.2 d_H_result_7 hlocks

set_option maxHeartbeats 4000000 in
set_option maxRecDepth 100000 in
theorem c_H_outs (l : Launch) (D : va_G) (h0 ww ro : Nat) (sz1 : Int32) (a0 a1 a2 a3 a4 a5 a7 a8 a9 a10 : Value) (b0 b1 b2 b3 b4 b5 b7 b8 b9 b10 b11 b12 b13 b14 b15 : Value) (c0 c2 : Value) (sz : Nat) : xt_Met l y_H_outs [.code y_H_outs b_H_outs 1 (some .int)] ({ frames := 8, cells := 0, slots := 0, locals := 120 }) (xt_P D xcl [.ref h0] [(h0, .inr (0, [a0, a1, a2, a3, a4, a5, .ref ww, a7, a8, a9, a10])), (ww, .inr (6, [b0, b1, b2, b3, b4, b5, .ref ro, b7, b8, b9, b10, b11, b12, b13, b14, b15])), (ro, .inr (1, [c0, .int sz1, c2]))] [] sz) (xt_Q (S := Nat → Nat) D xcl (va_A [(h0, .inr (0, [a0, a1, a2, a3, a4, a5, .ref ww, a7, a8, a9, a10])), (ww, .inr (6, [b0, b1, b2, b3, b4, b5, .ref ro, b7, b8, b9, b10, b11, b12, b13, b14, b15])), (ro, .inr (1, [c0, .int sz1, c2]))] sz) (fun v u => v = some (.int sz1)) (fun _ _ => False) (fun u => [(h0, .inr (0, [a0, a1, a2, a3, a4, a5, .ref ww, a7, a8, a9, a10])), (ww, .inr (6, [b0, b1, b2, b3, b4, b5, .ref ro, b7, b8, b9, b10, b11, b12, b13, b14, b15])), (ro, .inr (1, [c0, .int sz1, c2]))]) (fun u => [])) 0 0 (va_A [(h0, .inr (0, [a0, a1, a2, a3, a4, a5, .ref ww, a7, a8, a9, a10])), (ww, .inr (6, [b0, b1, b2, b3, b4, b5, .ref ro, b7, b8, b9, b10, b11, b12, b13, b14, b15])), (ro, .inr (1, [c0, .int sz1, c2]))] sz) := by
  refine xt_ofW (cc := b_H_outs) (maxL := 1) (ret := (some .int)) (by decide) (List.mem_singleton.mpr rfl) ?_
  intro p e s m args below meth c s₁ B hml htab hv
  obtain ⟨rfl, hsz, hB, hP, hK, hD0⟩ := hv
  subst hsz
  have hx := B.exec
  have hb := B.bytes
  have hr := B.returns
  have hts := hB.1.at ([.ref h0] : List Value).toArray
  have hown : s.vm.findClass "StackHost" = some m.cls := findClass_of_methodNamed B.named
  have hlocks := B.notSynchronized
  have hD := hD0.self (sz := s.heap.size)
  generalize hAe : va_A [(h0, .inr (0, [a0, a1, a2, a3, a4, a5, .ref ww, a7, a8, a9, a10])), (ww, .inr (6, [b0, b1, b2, b3, b4, b5, .ref ro, b7, b8, b9, b10, b11, b12, b13, b14, b15])), (ro, .inr (1, [c0, .int sz1, c2]))] s.heap.size = A at hB hD ⊢
  have hA : ∀ q : Nat, s.heap.size ≤ q → A q := fun q h => by rw [← hAe]; exact Or.inr h
  have hS : va_S A s.heap s.heap [] := va_S.rf
  have hl := lv_entry ([.ref h0]) (n := 1) (Nat.le_of_ble_eq_true rfl)
  rw [lg_entry_eq]
  generalize (lg_sl ([.ref h0]) ++ List.replicate (1 - (lg_sl ([.ref h0])).length) Slot.unset).toArray = ls at hl ⊢
  have hl : lv_has ls 1 [(0, .ref h0)] := hl
  refine lv_aload_n hx hb d_H_outs_0 rfl (lv_at hl 0 rfl) ?_
  refine va_get (D := D) (ci := 0) (v := .ref ww) (C := R_H) (T := F_H) (N := 11) hx hb hts fin_H hown hK hP 0 rfl rfl 6 (by decide) (hts _ m_3ac6c4ed) (fun _ h9 => h9) rfl d_H_outs_1 ?_
  refine va_get (D := D) (ci := 6) (v := .ref ro) (C := R_World) (T := F_World) (N := 16) hx hb hts fin_World hown hK hP 1 rfl rfl 6 (by decide) (hts _ m_6985478d) (fun _ h9 => h9) rfl d_H_outs_4 ?_
  refine va_get (D := D) (ci := 1) (v := .int sz1) (C := R_Row) (T := F_Row) (N := 3) hx hb hts fin_Row hown hK hP 2 rfl rfl 1 (by decide) (hts _ m_d32f0086) (fun _ h9 => h9) rfl d_H_outs_7 ?_
  refine W.widen (k := 0) (n := 0) (by decide) (by decide) ?_
  refine xt_mono xt_ofMQ ?_
  exact W.iret hx hb hr (fun t ht hW => ⟨(fun _ => 0), Or.inl ⟨_, rfl, rfl⟩, by rw [ht]; exact hP.sub [0, 1, 2] rfl, va_K.moved hW.alike (hK.sub [] rfl), hD.sub [0, 1, 2] (by decide) rfl, hS.F ht⟩) hS.2.2 d_H_outs_10 hlocks

set_option maxHeartbeats 4000000 in
set_option maxRecDepth 100000 in
theorem c_H_clear (l : Launch) (D : va_G) (h0 ww ro : Nat) (sz1 : Int32) (a0 a1 a2 a3 a4 a5 a7 a8 a9 a10 : Value) (b0 b1 b2 b3 b4 b5 b7 b8 b9 b10 b11 b12 b13 b14 b15 : Value) (c0 c2 : Value) (sz : Nat) : xt_Met l y_H_clear [.code y_H_clear b_H_clear 2 (some .int)] ({ frames := 8, cells := 0, slots := 0, locals := 120 }) (xt_P D xcl [.ref h0] [(h0, .inr (0, [a0, a1, a2, a3, a4, a5, .ref ww, a7, a8, a9, a10])), (ww, .inr (6, [b0, b1, b2, b3, b4, b5, .ref ro, b7, b8, b9, b10, b11, b12, b13, b14, b15])), (ro, .inr (1, [c0, .int sz1, c2]))] [] sz) (xt_Q (S := Nat → Nat) D xcl (va_A [(h0, .inr (0, [a0, a1, a2, a3, a4, a5, .ref ww, a7, a8, a9, a10])), (ww, .inr (6, [b0, b1, b2, b3, b4, b5, .ref ro, b7, b8, b9, b10, b11, b12, b13, b14, b15])), (ro, .inr (1, [c0, .int sz1, c2]))] sz) (fun v u => v = some (.int sz1)) (fun _ _ => False) (fun u => [(h0, .inr (0, [a0, a1, a2, a3, a4, a5, .ref ww, a7, a8, a9, a10])), (ww, .inr (6, [b0, b1, b2, b3, b4, b5, .ref ro, b7, b8, b9, b10, b11, b12, b13, b14, b15])), (ro, .inr (1, [c0, .int 0, c2]))]) (fun u => [])) 0 0 (va_A [(h0, .inr (0, [a0, a1, a2, a3, a4, a5, .ref ww, a7, a8, a9, a10])), (ww, .inr (6, [b0, b1, b2, b3, b4, b5, .ref ro, b7, b8, b9, b10, b11, b12, b13, b14, b15])), (ro, .inr (1, [c0, .int sz1, c2]))] sz) := by
  refine xt_ofW (cc := b_H_clear) (maxL := 2) (ret := (some .int)) (by decide) (List.mem_singleton.mpr rfl) ?_
  intro p e s m args below meth c s₁ B hml htab hv
  obtain ⟨rfl, hsz, hB, hP, hK, hD0⟩ := hv
  subst hsz
  have hx := B.exec
  have hb := B.bytes
  have hr := B.returns
  have hts := hB.1.at ([.ref h0] : List Value).toArray
  have hown : s.vm.findClass "StackHost" = some m.cls := findClass_of_methodNamed B.named
  have hlocks := B.notSynchronized
  have hD := hD0.self (sz := s.heap.size)
  generalize hAe : va_A [(h0, .inr (0, [a0, a1, a2, a3, a4, a5, .ref ww, a7, a8, a9, a10])), (ww, .inr (6, [b0, b1, b2, b3, b4, b5, .ref ro, b7, b8, b9, b10, b11, b12, b13, b14, b15])), (ro, .inr (1, [c0, .int sz1, c2]))] s.heap.size = A at hB hD ⊢
  have hA : ∀ q : Nat, s.heap.size ≤ q → A q := fun q h => by rw [← hAe]; exact Or.inr h
  have hS : va_S A s.heap s.heap [] := va_S.rf
  have hl := lv_entry ([.ref h0]) (n := 2) (Nat.le_of_ble_eq_true rfl)
  rw [lg_entry_eq]
  generalize (lg_sl ([.ref h0]) ++ List.replicate (2 - (lg_sl ([.ref h0])).length) Slot.unset).toArray = ls at hl ⊢
  have hl : lv_has ls 2 [(0, .ref h0)] := hl
  refine lv_aload_n hx hb d_H_clear_0 rfl (lv_at hl 0 rfl) ?_
  refine va_get (D := D) (ci := 0) (v := .ref ww) (C := R_H) (T := F_H) (N := 11) hx hb hts fin_H hown hK hP 0 rfl rfl 6 (by decide) (hts _ m_3ac6c4ed) (fun _ h9 => h9) rfl d_H_clear_1 ?_
  refine va_get (D := D) (ci := 6) (v := .ref ro) (C := R_World) (T := F_World) (N := 16) hx hb hts fin_World hown hK hP 1 rfl rfl 6 (by decide) (hts _ m_6985478d) (fun _ h9 => h9) rfl d_H_clear_4 ?_
  refine va_get (D := D) (ci := 1) (v := .int sz1) (C := R_Row) (T := F_Row) (N := 3) hx hb hts fin_Row hown hK hP 2 rfl rfl 1 (by decide) (hts _ m_d32f0086) (fun _ h9 => h9) rfl d_H_clear_7 ?_
  refine lv_istore_n hx hb d_H_clear_10 rfl hl (by decide) rfl (fun ls hl => ?_)
  have hl : lv_has ls 2 [(1, .int sz1), (0, .ref h0)] := hl
  refine lv_aload_n hx hb d_H_clear_11 rfl (lv_at hl 1 rfl) ?_
  refine va_get (D := D) (ci := 0) (v := .ref ww) (C := R_H) (T := F_H) (N := 11) hx hb hts fin_H hown hK hP 0 rfl rfl 6 (by decide) (hts _ m_3ac6c4ed) (fun _ h9 => h9) rfl d_H_clear_12 ?_
  refine va_get (D := D) (ci := 6) (v := .ref ro) (C := R_World) (T := F_World) (N := 16) hx hb hts fin_World hown hK hP 1 rfl rfl 6 (by decide) (hts _ m_6985478d) (fun _ h9 => h9) rfl d_H_clear_15 ?_
  refine lv_iconst (v := 0) hx hb d_H_clear_18 (by decide) ?_
  refine va_put (D := D) (ci := 1) (v := .int 0) (ty := .int) (C := R_Row) (T := F_Row) (N := 3) hx hb hts fin_Row t_Row t_Row_ok n_Row hown hK hP hD hS 2 rfl rfl 1 (by decide) (hts _ m_d32f0086) (fun _ h9 => h9) rfl (by decide +kernel) (by first | rfl | decide) (by first | rfl | decide) (Nat.le_of_ble_eq_true rfl) d_H_clear_19 (fun H locs hP hD hS => ?_)
  have hP : va_P D xcl [(h0, .inr (0, [a0, a1, a2, a3, a4, a5, .ref ww, a7, a8, a9, a10])), (ww, .inr (6, [b0, b1, b2, b3, b4, b5, .ref ro, b7, b8, b9, b10, b11, b12, b13, b14, b15])), (ro, .inr (1, [c0, .int 0, c2]))] H := hP
  have hD : va_D A [(h0, .inr (0, [a0, a1, a2, a3, a4, a5, .ref ww, a7, a8, a9, a10])), (ww, .inr (6, [b0, b1, b2, b3, b4, b5, .ref ro, b7, b8, b9, b10, b11, b12, b13, b14, b15])), (ro, .inr (1, [c0, .int 0, c2]))] := hD
  refine lv_iload_n hx hb d_H_clear_22 rfl (lv_at hl 0 rfl) ?_
  refine W.widen (k := 0) (n := 0) (by decide) (by decide) ?_
  refine xt_mono xt_ofMQ ?_
  exact W.iret hx hb hr (fun t ht hW => ⟨(fun _ => 0), Or.inl ⟨_, rfl, rfl⟩, by rw [ht]; exact hP.sub [0, 1, 2] rfl, va_K.moved hW.alike (hK.sub [] rfl), hD.sub [0, 1, 2] (by decide) rfl, hS.F ht⟩) hS.2.2 d_H_clear_23 hlocks

set_option maxHeartbeats 4000000 in
set_option maxRecDepth 100000 in
theorem c_H_out (l : Launch) (hfl : l.flags = pinnedFlags ++ [noTraceFlag]) (D : va_G) (h0 ww ro : Nat) (k : Int32) (a0 a1 a2 a3 a4 a5 a7 a8 a9 a10 : Value) (b0 b1 b2 b3 b4 b5 b7 b8 b9 b10 b11 b12 b13 b14 b15 : Value) (c0 c2 : Value) (sz : Nat) : xt_Met l y_H_out [.code y_H_out b_H_out 2 (some .long)] ({ frames := 8, cells := 1, slots := 6, locals := 120 }) (xt_P D xcl [.ref h0, .int k] [(h0, .inr (0, [a0, a1, a2, a3, a4, a5, .ref ww, a7, a8, a9, a10])), (ww, .inr (6, [b0, b1, b2, b3, b4, b5, .ref ro, b7, b8, b9, b10, b11, b12, b13, b14, b15])), (ro, .inr (1, [c0, .int 0, c2]))] [] sz) (xt_Q (S := Nat → Nat) D xcl (va_A [(h0, .inr (0, [a0, a1, a2, a3, a4, a5, .ref ww, a7, a8, a9, a10])), (ww, .inr (6, [b0, b1, b2, b3, b4, b5, .ref ro, b7, b8, b9, b10, b11, b12, b13, b14, b15])), (ro, .inr (1, [c0, .int 0, c2]))] sz) (fun _ _ => False) (fun X _ => X = "java/lang/IndexOutOfBoundsException") (fun u => [(h0, .inr (0, [a0, a1, a2, a3, a4, a5, .ref ww, a7, a8, a9, a10])), (ww, .inr (6, [b0, b1, b2, b3, b4, b5, .ref ro, b7, b8, b9, b10, b11, b12, b13, b14, b15])), (ro, .inr (1, [c0, .int 0, c2]))]) (fun u => [])) 1 6 (va_A [(h0, .inr (0, [a0, a1, a2, a3, a4, a5, .ref ww, a7, a8, a9, a10])), (ww, .inr (6, [b0, b1, b2, b3, b4, b5, .ref ro, b7, b8, b9, b10, b11, b12, b13, b14, b15])), (ro, .inr (1, [c0, .int 0, c2]))] sz) := by
  refine xt_ofW (cc := b_H_out) (maxL := 2) (ret := (some .long)) (by decide) (List.mem_singleton.mpr rfl) ?_
  intro p e s m args below meth c s₁ B hml htab hv
  obtain ⟨rfl, hsz, hB, hP, hK, hD0⟩ := hv
  subst hsz
  have hx := B.exec
  have hb := B.bytes
  have hr := B.returns
  have hts := hB.1.at ([.ref h0, .int k] : List Value).toArray
  have hown : s.vm.findClass "StackHost" = some m.cls := findClass_of_methodNamed B.named
  have hlocks := B.notSynchronized
  have hD := hD0.self (sz := s.heap.size)
  generalize hAe : va_A [(h0, .inr (0, [a0, a1, a2, a3, a4, a5, .ref ww, a7, a8, a9, a10])), (ww, .inr (6, [b0, b1, b2, b3, b4, b5, .ref ro, b7, b8, b9, b10, b11, b12, b13, b14, b15])), (ro, .inr (1, [c0, .int 0, c2]))] s.heap.size = A at hB hD ⊢
  have hA : ∀ q : Nat, s.heap.size ≤ q → A q := fun q h => by rw [← hAe]; exact Or.inr h
  have hS : va_S A s.heap s.heap [] := va_S.rf
  have hl := lv_entry ([.ref h0, .int k]) (n := 2) (Nat.le_of_ble_eq_true rfl)
  rw [lg_entry_eq]
  generalize (lg_sl ([.ref h0, .int k]) ++ List.replicate (2 - (lg_sl ([.ref h0, .int k])).length) Slot.unset).toArray = ls at hl ⊢
  have hl : lv_has ls 2 [(0, .ref h0), (1, .int k)] := hl
  refine lv_iload_n hx hb d_H_out_0 rfl (lv_at hl 1 rfl) ?_
  refine lv_if_lt (tgt := 18) hx hb d_H_out_1 rfl (fun h1 => ?_) (fun h1 => ?_)
  · refine W.widen (k := 0) (n := 0) (by decide) (by decide) ?_
    exact xt_throw (names := ["java/lang/RuntimeException", "java/lang/Exception"]) hx hb (hml.trans hl.1.symm) hlocks hfl hown xsite_43a97d hB hS (by decide) (by decide) (by decide) (Nat.le_of_ble_eq_true rfl) htab d_H_out_18 d_H_out_21 (xt_l3) d_H_out_22 d_H_out_25 d_H_out_28 hP hD hK (fun _ => 0) rfl rfl rfl
  · refine lv_iload_n hx hb d_H_out_4 rfl (lv_at hl 1 rfl) ?_
    refine lv_aload_n hx hb d_H_out_5 rfl (lv_at hl 0 rfl) ?_
    refine va_get (D := D) (ci := 0) (v := .ref ww) (C := R_H) (T := F_H) (N := 11) hx hb hts fin_H hown hK hP 0 rfl rfl 6 (by decide) (hts _ m_3ac6c4ed) (fun _ h9 => h9) rfl d_H_out_6 ?_
    refine va_get (D := D) (ci := 6) (v := .ref ro) (C := R_World) (T := F_World) (N := 16) hx hb hts fin_World hown hK hP 1 rfl rfl 6 (by decide) (hts _ m_6985478d) (fun _ h9 => h9) rfl d_H_out_9 ?_
    refine va_get (D := D) (ci := 1) (v := .int 0) (C := R_Row) (T := F_Row) (N := 3) hx hb hts fin_Row hown hK hP 2 rfl rfl 1 (by decide) (hts _ m_d32f0086) (fun _ h9 => h9) rfl d_H_out_12 ?_
    refine lv_icmp_lt (tgt := 29) hx hb d_H_out_15 rfl (fun h2 => ?_) (fun h2 => ?_)
    · exact absurd h2 h1
    · refine W.widen (k := 0) (n := 0) (by decide) (by decide) ?_
      exact xt_throw (names := ["java/lang/RuntimeException", "java/lang/Exception"]) hx hb (hml.trans hl.1.symm) hlocks hfl hown xsite_43a97d hB hS (by decide) (by decide) (by decide) (Nat.le_of_ble_eq_true rfl) htab d_H_out_18 d_H_out_21 (xt_l3) d_H_out_22 d_H_out_25 d_H_out_28 hP hD hK (fun _ => 0) rfl rfl rfl

set_option maxHeartbeats 4000000 in
set_option maxRecDepth 100000 in
theorem c_H_moduleNumbered (l : Launch) (hfl : l.flags = pinnedFlags ++ [noTraceFlag]) (D : va_G) (h0 : Nat) (i : Int32) (a0 a1 a2 a4 a5 a6 a7 a8 a9 a10 : Value) (sz : Nat) : xt_Met l y_H_moduleNumbered [.code y_H_moduleNumbered b_H_moduleNumbered 2 (some (.object "StackHost$StackModule"))] ({ frames := 8, cells := 1, slots := 6, locals := 120 }) (xt_P D xcl [.ref h0, .int i] [(h0, .inr (0, [a0, a1, a2, .int 0, a4, a5, a6, a7, a8, a9, a10]))] [] sz) (xt_Q (S := Nat → Nat) D xcl (va_A [(h0, .inr (0, [a0, a1, a2, .int 0, a4, a5, a6, a7, a8, a9, a10]))] sz) (fun _ _ => False) (fun X _ => X = "java/lang/IndexOutOfBoundsException") (fun u => [(h0, .inr (0, [a0, a1, a2, .int 0, a4, a5, a6, a7, a8, a9, a10]))]) (fun u => [])) 1 6 (va_A [(h0, .inr (0, [a0, a1, a2, .int 0, a4, a5, a6, a7, a8, a9, a10]))] sz) := by
  refine xt_ofW (cc := b_H_moduleNumbered) (maxL := 2) (ret := (some (.object "StackHost$StackModule"))) (by decide) (List.mem_singleton.mpr rfl) ?_
  intro p e s m args below meth c s₁ B hml htab hv
  obtain ⟨rfl, hsz, hB, hP, hK, hD0⟩ := hv
  subst hsz
  have hx := B.exec
  have hb := B.bytes
  have hr := B.returns
  have hts := hB.1.at ([.ref h0, .int i] : List Value).toArray
  have hown : s.vm.findClass "StackHost" = some m.cls := findClass_of_methodNamed B.named
  have hlocks := B.notSynchronized
  have hD := hD0.self (sz := s.heap.size)
  generalize hAe : va_A [(h0, .inr (0, [a0, a1, a2, .int 0, a4, a5, a6, a7, a8, a9, a10]))] s.heap.size = A at hB hD ⊢
  have hA : ∀ q : Nat, s.heap.size ≤ q → A q := fun q h => by rw [← hAe]; exact Or.inr h
  have hS : va_S A s.heap s.heap [] := va_S.rf
  have hl := lv_entry ([.ref h0, .int i]) (n := 2) (Nat.le_of_ble_eq_true rfl)
  rw [lg_entry_eq]
  generalize (lg_sl ([.ref h0, .int i]) ++ List.replicate (2 - (lg_sl ([.ref h0, .int i])).length) Slot.unset).toArray = ls at hl ⊢
  have hl : lv_has ls 2 [(0, .ref h0), (1, .int i)] := hl
  refine lv_iload_n hx hb d_H_moduleNumbered_0 rfl (lv_at hl 1 rfl) ?_
  refine lv_if_lt (tgt := 12) hx hb d_H_moduleNumbered_1 rfl (fun h1 => ?_) (fun h1 => ?_)
  · refine W.widen (k := 0) (n := 0) (by decide) (by decide) ?_
    exact xt_throw (names := ["java/lang/RuntimeException", "java/lang/Exception"]) hx hb (hml.trans hl.1.symm) hlocks hfl hown xsite_d670f4 hB hS (by decide) (by decide) (by decide) (Nat.le_of_ble_eq_true rfl) htab d_H_moduleNumbered_12 d_H_moduleNumbered_15 (xt_l2) d_H_moduleNumbered_16 d_H_moduleNumbered_18 d_H_moduleNumbered_21 hP hD hK (fun _ => 0) rfl rfl rfl
  · refine lv_iload_n hx hb d_H_moduleNumbered_4 rfl (lv_at hl 1 rfl) ?_
    refine lv_aload_n hx hb d_H_moduleNumbered_5 rfl (lv_at hl 0 rfl) ?_
    refine va_get (D := D) (ci := 0) (v := .int 0) (C := R_H) (T := F_H) (N := 11) hx hb hts fin_H hown hK hP 0 rfl rfl 3 (by decide) (hts _ m_9075cfd3) (fun _ h9 => h9) rfl d_H_moduleNumbered_6 ?_
    refine lv_icmp_lt (tgt := 22) hx hb d_H_moduleNumbered_9 rfl (fun h2 => ?_) (fun h2 => ?_)
    · exact absurd h2 h1
    · refine W.widen (k := 0) (n := 0) (by decide) (by decide) ?_
      exact xt_throw (names := ["java/lang/RuntimeException", "java/lang/Exception"]) hx hb (hml.trans hl.1.symm) hlocks hfl hown xsite_d670f4 hB hS (by decide) (by decide) (by decide) (Nat.le_of_ble_eq_true rfl) htab d_H_moduleNumbered_12 d_H_moduleNumbered_15 (xt_l2) d_H_moduleNumbered_16 d_H_moduleNumbered_18 d_H_moduleNumbered_21 hP hD hK (fun _ => 0) rfl rfl rfl

set_option maxHeartbeats 4000000 in
set_option maxRecDepth 100000 in
theorem c_H_module (l : Launch) (hfl : l.flags = pinnedFlags ++ [noTraceFlag]) (D : va_G) (h0 : Nat) (i w : Int32) (a0 a1 a2 a4 a5 a6 a7 a8 a9 a10 : Value) (sz : Nat) : xt_Met l y_H_module [.code y_H_module b_H_module 4 (some .int)] ({ frames := 9, cells := 1, slots := 6, locals := 220 }) (xt_P D xcl [.ref h0, .int i, .int w] [(h0, .inr (0, [a0, a1, a2, .int 0, a4, a5, a6, a7, a8, a9, a10]))] [] sz) (xt_Q (S := Nat → Nat) D xcl (va_A [(h0, .inr (0, [a0, a1, a2, .int 0, a4, a5, a6, a7, a8, a9, a10]))] sz) (fun _ _ => False) (fun X _ => X = "java/lang/IndexOutOfBoundsException") (fun u => [(h0, .inr (0, [a0, a1, a2, .int 0, a4, a5, a6, a7, a8, a9, a10]))]) (fun u => [])) 1 6 (va_A [(h0, .inr (0, [a0, a1, a2, .int 0, a4, a5, a6, a7, a8, a9, a10]))] sz) := by
  refine xt_ofW (cc := b_H_module) (maxL := 4) (ret := (some .int)) (by decide) (List.mem_singleton.mpr rfl) ?_
  intro p e s m args below meth c s₁ B hml htab hv
  obtain ⟨rfl, hsz, hB, hP, hK, hD0⟩ := hv
  subst hsz
  have hx := B.exec
  have hb := B.bytes
  have hr := B.returns
  have hts := hB.1.at ([.ref h0, .int i, .int w] : List Value).toArray
  have hown : s.vm.findClass "StackHost" = some m.cls := findClass_of_methodNamed B.named
  have hlocks := B.notSynchronized
  have hD := hD0.self (sz := s.heap.size)
  generalize hAe : va_A [(h0, .inr (0, [a0, a1, a2, .int 0, a4, a5, a6, a7, a8, a9, a10]))] s.heap.size = A at hB hD ⊢
  have hA : ∀ q : Nat, s.heap.size ≤ q → A q := fun q h => by rw [← hAe]; exact Or.inr h
  have hS : va_S A s.heap s.heap [] := va_S.rf
  have hl := lv_entry ([.ref h0, .int i, .int w]) (n := 4) (Nat.le_of_ble_eq_true rfl)
  rw [lg_entry_eq]
  generalize (lg_sl ([.ref h0, .int i, .int w]) ++ List.replicate (4 - (lg_sl ([.ref h0, .int i, .int w])).length) Slot.unset).toArray = ls at hl ⊢
  have hl : lv_has ls 4 [(0, .ref h0), (1, .int i), (2, .int w)] := hl
  refine lv_aload_n hx hb d_H_module_0 rfl (lv_at hl 0 rfl) ?_
  refine lv_iload_n hx hb d_H_module_1 rfl (lv_at hl 1 rfl) ?_
  refine xt_call (D := D) (cl := xcl) (wr := []) (fun T hT X => by
    obtain ⟨cb, r1, r2, r3⟩ := va_recv hK hP (ci := 0) (q0 := 0) rfl rfl
    exact xt_invV X hx hown (hts _ m_abdd1028) (hts _ m_38480b8a) (hts _ m_1e19a5c0) (xt_sigOf (hts _ m_3c5d4c65)) nm_H_moduleNumbered (by rw [hT]; exact r1) r2 r3 (g := F0 m 2 ls [.int i, .ref h0]) rfl (argsL := [.int i]) (rest := []) rfl rfl (by rw [hb]; exact d_H_module_2)) (c_H_moduleNumbered l hfl D h0 i (a0) (a1) (a2) (a4) (a5) (a6) (a7) (a8) (a9) (a10) s.heap.size) (hml.trans hl.1.symm) (by rw [hb]; exact d_H_module_2) (Nat.le_of_ble_eq_true rfl) rfl rfl (by decide) (by decide) (by decide) (by decide) (xt_w1 hB m_3c5d4c65) (xt_cdOf hB m_3c5d4c65) (hts _ m_ba0734f5) hB hK hP hD hS hA [0] [] [] rfl rfl rfl (by decide) (by decide) (by decide) (fun v2 u1 H locs hp hP hD hK hS => ?_) (fun XX9 ax9 u1 H locs hp hex hP hD hK hS => ?_)
  · exact False.elim hp
  · have hp : XX9 = "java/lang/IndexOutOfBoundsException" := hp
    subst hp
    have hP : va_P D xcl [(h0, .inr (0, [a0, a1, a2, .int 0, a4, a5, a6, a7, a8, a9, a10]))] H := hP
    have hD : va_D A [(h0, .inr (0, [a0, a1, a2, .int 0, a4, a5, a6, a7, a8, a9, a10]))] := hD
    have hK : va_K D xcl [] s := hK
    refine xt_widenT (k := 1) (n := 6) (by decide) (by decide) ?_
    exact xt_pass hlocks (fun x hx9 => by rw [htab] at hx9; first | cases hx9 | (simp [tableOf] at hx9; rcases hx9 with rfl | rfl <;> decide)) hP hD hK hS hex (fun _ => 0) rfl [0] [] rfl (by decide) rfl

set_option maxHeartbeats 4000000 in
set_option maxRecDepth 100000 in
theorem c_H_room (l : Launch) (hfl : l.flags = pinnedFlags ++ [noTraceFlag]) (D : va_G) (h0 : Nat) (i w : Int32) (a0 a1 a2 a4 a5 a6 a7 a8 a9 a10 : Value) (sz : Nat) : xt_Met l y_H_room [.code y_H_room b_H_room 4 (some .int)] ({ frames := 9, cells := 1, slots := 6, locals := 220 }) (xt_P D xcl [.ref h0, .int i, .int w] [(h0, .inr (0, [a0, a1, a2, .int 0, a4, a5, a6, a7, a8, a9, a10]))] [] sz) (xt_Q (S := Nat → Nat) D xcl (va_A [(h0, .inr (0, [a0, a1, a2, .int 0, a4, a5, a6, a7, a8, a9, a10]))] sz) (fun _ _ => False) (fun X _ => X = "java/lang/IndexOutOfBoundsException") (fun u => [(h0, .inr (0, [a0, a1, a2, .int 0, a4, a5, a6, a7, a8, a9, a10]))]) (fun u => [])) 1 6 (va_A [(h0, .inr (0, [a0, a1, a2, .int 0, a4, a5, a6, a7, a8, a9, a10]))] sz) := by
  refine xt_ofW (cc := b_H_room) (maxL := 4) (ret := (some .int)) (by decide) (List.mem_singleton.mpr rfl) ?_
  intro p e s m args below meth c s₁ B hml htab hv
  obtain ⟨rfl, hsz, hB, hP, hK, hD0⟩ := hv
  subst hsz
  have hx := B.exec
  have hb := B.bytes
  have hr := B.returns
  have hts := hB.1.at ([.ref h0, .int i, .int w] : List Value).toArray
  have hown : s.vm.findClass "StackHost" = some m.cls := findClass_of_methodNamed B.named
  have hlocks := B.notSynchronized
  have hD := hD0.self (sz := s.heap.size)
  generalize hAe : va_A [(h0, .inr (0, [a0, a1, a2, .int 0, a4, a5, a6, a7, a8, a9, a10]))] s.heap.size = A at hB hD ⊢
  have hA : ∀ q : Nat, s.heap.size ≤ q → A q := fun q h => by rw [← hAe]; exact Or.inr h
  have hS : va_S A s.heap s.heap [] := va_S.rf
  have hl := lv_entry ([.ref h0, .int i, .int w]) (n := 4) (Nat.le_of_ble_eq_true rfl)
  rw [lg_entry_eq]
  generalize (lg_sl ([.ref h0, .int i, .int w]) ++ List.replicate (4 - (lg_sl ([.ref h0, .int i, .int w])).length) Slot.unset).toArray = ls at hl ⊢
  have hl : lv_has ls 4 [(0, .ref h0), (1, .int i), (2, .int w)] := hl
  refine lv_aload_n hx hb d_H_room_0 rfl (lv_at hl 0 rfl) ?_
  refine lv_iload_n hx hb d_H_room_1 rfl (lv_at hl 1 rfl) ?_
  refine xt_call (D := D) (cl := xcl) (wr := []) (fun T hT X => by
    obtain ⟨cb, r1, r2, r3⟩ := va_recv hK hP (ci := 0) (q0 := 0) rfl rfl
    exact xt_invV X hx hown (hts _ m_abdd1028) (hts _ m_38480b8a) (hts _ m_1e19a5c0) (xt_sigOf (hts _ m_3c5d4c65)) nm_H_moduleNumbered (by rw [hT]; exact r1) r2 r3 (g := F0 m 2 ls [.int i, .ref h0]) rfl (argsL := [.int i]) (rest := []) rfl rfl (by rw [hb]; exact d_H_room_2)) (c_H_moduleNumbered l hfl D h0 i (a0) (a1) (a2) (a4) (a5) (a6) (a7) (a8) (a9) (a10) s.heap.size) (hml.trans hl.1.symm) (by rw [hb]; exact d_H_room_2) (Nat.le_of_ble_eq_true rfl) rfl rfl (by decide) (by decide) (by decide) (by decide) (xt_w1 hB m_3c5d4c65) (xt_cdOf hB m_3c5d4c65) (hts _ m_ba0734f5) hB hK hP hD hS hA [0] [] [] rfl rfl rfl (by decide) (by decide) (by decide) (fun v2 u1 H locs hp hP hD hK hS => ?_) (fun XX9 ax9 u1 H locs hp hex hP hD hK hS => ?_)
  · exact False.elim hp
  · have hp : XX9 = "java/lang/IndexOutOfBoundsException" := hp
    subst hp
    have hP : va_P D xcl [(h0, .inr (0, [a0, a1, a2, .int 0, a4, a5, a6, a7, a8, a9, a10]))] H := hP
    have hD : va_D A [(h0, .inr (0, [a0, a1, a2, .int 0, a4, a5, a6, a7, a8, a9, a10]))] := hD
    have hK : va_K D xcl [] s := hK
    refine xt_widenT (k := 1) (n := 6) (by decide) (by decide) ?_
    exact xt_pass hlocks (fun x hx9 => by rw [htab] at hx9; first | cases hx9 | (simp [tableOf] at hx9; rcases hx9 with rfl | rfl <;> decide)) hP hD hK hS hex (fun _ => 0) rfl [0] [] rfl (by decide) rfl

set_option maxHeartbeats 4000000 in
set_option maxRecDepth 100000 in
theorem c_H_instantiate (l : Launch) (hfl : l.flags = pinnedFlags ++ [noTraceFlag]) (D : va_G) (h0 : Nat) (i : Int32) (a0 a1 a2 a4 a5 a6 a7 a8 a9 a10 : Value) (sz : Nat) : xt_Met l y_H_instantiate [.code y_H_instantiate b_H_instantiate 4 (some .int)] ({ frames := 9, cells := 1, slots := 6, locals := 220 }) (xt_P D xcl [.ref h0, .int i] [(h0, .inr (0, [a0, a1, a2, .int 0, a4, a5, a6, a7, a8, a9, a10]))] [] sz) (xt_Q (S := Nat → Nat) D xcl (va_A [(h0, .inr (0, [a0, a1, a2, .int 0, a4, a5, a6, a7, a8, a9, a10]))] sz) (fun _ _ => False) (fun X _ => X = "java/lang/IndexOutOfBoundsException") (fun u => [(h0, .inr (0, [a0, a1, a2, .int 0, a4, a5, a6, a7, a8, a9, a10]))]) (fun u => [])) 1 6 (va_A [(h0, .inr (0, [a0, a1, a2, .int 0, a4, a5, a6, a7, a8, a9, a10]))] sz) := by
  refine xt_ofW (cc := b_H_instantiate) (maxL := 4) (ret := (some .int)) (by decide) (List.mem_singleton.mpr rfl) ?_
  intro p e s m args below meth c s₁ B hml htab hv
  obtain ⟨rfl, hsz, hB, hP, hK, hD0⟩ := hv
  subst hsz
  have hx := B.exec
  have hb := B.bytes
  have hr := B.returns
  have hts := hB.1.at ([.ref h0, .int i] : List Value).toArray
  have hown : s.vm.findClass "StackHost" = some m.cls := findClass_of_methodNamed B.named
  have hlocks := B.notSynchronized
  have hD := hD0.self (sz := s.heap.size)
  generalize hAe : va_A [(h0, .inr (0, [a0, a1, a2, .int 0, a4, a5, a6, a7, a8, a9, a10]))] s.heap.size = A at hB hD ⊢
  have hA : ∀ q : Nat, s.heap.size ≤ q → A q := fun q h => by rw [← hAe]; exact Or.inr h
  have hS : va_S A s.heap s.heap [] := va_S.rf
  have hl := lv_entry ([.ref h0, .int i]) (n := 4) (Nat.le_of_ble_eq_true rfl)
  rw [lg_entry_eq]
  generalize (lg_sl ([.ref h0, .int i]) ++ List.replicate (4 - (lg_sl ([.ref h0, .int i])).length) Slot.unset).toArray = ls at hl ⊢
  have hl : lv_has ls 4 [(0, .ref h0), (1, .int i)] := hl
  refine lv_aload_n hx hb d_H_instantiate_0 rfl (lv_at hl 0 rfl) ?_
  refine lv_iload_n hx hb d_H_instantiate_1 rfl (lv_at hl 1 rfl) ?_
  refine xt_call (D := D) (cl := xcl) (wr := []) (fun T hT X => by
    obtain ⟨cb, r1, r2, r3⟩ := va_recv hK hP (ci := 0) (q0 := 0) rfl rfl
    exact xt_invV X hx hown (hts _ m_abdd1028) (hts _ m_38480b8a) (hts _ m_1e19a5c0) (xt_sigOf (hts _ m_3c5d4c65)) nm_H_moduleNumbered (by rw [hT]; exact r1) r2 r3 (g := F0 m 2 ls [.int i, .ref h0]) rfl (argsL := [.int i]) (rest := []) rfl rfl (by rw [hb]; exact d_H_instantiate_2)) (c_H_moduleNumbered l hfl D h0 i (a0) (a1) (a2) (a4) (a5) (a6) (a7) (a8) (a9) (a10) s.heap.size) (hml.trans hl.1.symm) (by rw [hb]; exact d_H_instantiate_2) (Nat.le_of_ble_eq_true rfl) rfl rfl (by decide) (by decide) (by decide) (by decide) (xt_w1 hB m_3c5d4c65) (xt_cdOf hB m_3c5d4c65) (hts _ m_ba0734f5) hB hK hP hD hS hA [0] [] [] rfl rfl rfl (by decide) (by decide) (by decide) (fun v2 u1 H locs hp hP hD hK hS => ?_) (fun XX9 ax9 u1 H locs hp hex hP hD hK hS => ?_)
  · exact False.elim hp
  · have hp : XX9 = "java/lang/IndexOutOfBoundsException" := hp
    subst hp
    have hP : va_P D xcl [(h0, .inr (0, [a0, a1, a2, .int 0, a4, a5, a6, a7, a8, a9, a10]))] H := hP
    have hD : va_D A [(h0, .inr (0, [a0, a1, a2, .int 0, a4, a5, a6, a7, a8, a9, a10]))] := hD
    have hK : va_K D xcl [] s := hK
    refine xt_widenT (k := 1) (n := 6) (by decide) (by decide) ?_
    exact xt_pass hlocks (fun x hx9 => by rw [htab] at hx9; first | cases hx9 | (simp [tableOf] at hx9; rcases hx9 with rfl | rfl <;> decide)) hP hD hK hS hex (fun _ => 0) rfl [0] [] rfl (by decide) rfl

set_option maxHeartbeats 4000000 in
set_option maxRecDepth 100000 in
theorem c_H_instanceNumbered (l : Launch) (hfl : l.flags = pinnedFlags ++ [noTraceFlag]) (D : va_G) (h0 ww : Nat) (i : Int32) (a0 a1 a2 a3 a4 a5 a7 a8 a9 a10 : Value) (b0 b2 b3 b4 b5 b6 b7 b8 b9 b10 b11 b12 b13 b14 b15 : Value) (sz : Nat) : xt_Met l y_H_instanceNumbered [.code y_H_instanceNumbered b_H_instanceNumbered 2 (some (.object "StackHost$Instance"))] ({ frames := 8, cells := 1, slots := 6, locals := 120 }) (xt_P D xcl [.ref h0, .int i] [(h0, .inr (0, [a0, a1, a2, a3, a4, a5, .ref ww, a7, a8, a9, a10])), (ww, .inr (6, [b0, .int 0, b2, b3, b4, b5, b6, b7, b8, b9, b10, b11, b12, b13, b14, b15]))] [] sz) (xt_Q (S := Nat → Nat) D xcl (va_A [(h0, .inr (0, [a0, a1, a2, a3, a4, a5, .ref ww, a7, a8, a9, a10])), (ww, .inr (6, [b0, .int 0, b2, b3, b4, b5, b6, b7, b8, b9, b10, b11, b12, b13, b14, b15]))] sz) (fun _ _ => False) (fun X _ => X = "java/lang/IndexOutOfBoundsException") (fun u => [(h0, .inr (0, [a0, a1, a2, a3, a4, a5, .ref ww, a7, a8, a9, a10])), (ww, .inr (6, [b0, .int 0, b2, b3, b4, b5, b6, b7, b8, b9, b10, b11, b12, b13, b14, b15]))]) (fun u => [])) 1 6 (va_A [(h0, .inr (0, [a0, a1, a2, a3, a4, a5, .ref ww, a7, a8, a9, a10])), (ww, .inr (6, [b0, .int 0, b2, b3, b4, b5, b6, b7, b8, b9, b10, b11, b12, b13, b14, b15]))] sz) := by
  refine xt_ofW (cc := b_H_instanceNumbered) (maxL := 2) (ret := (some (.object "StackHost$Instance"))) (by decide) (List.mem_singleton.mpr rfl) ?_
  intro p e s m args below meth c s₁ B hml htab hv
  obtain ⟨rfl, hsz, hB, hP, hK, hD0⟩ := hv
  subst hsz
  have hx := B.exec
  have hb := B.bytes
  have hr := B.returns
  have hts := hB.1.at ([.ref h0, .int i] : List Value).toArray
  have hown : s.vm.findClass "StackHost" = some m.cls := findClass_of_methodNamed B.named
  have hlocks := B.notSynchronized
  have hD := hD0.self (sz := s.heap.size)
  generalize hAe : va_A [(h0, .inr (0, [a0, a1, a2, a3, a4, a5, .ref ww, a7, a8, a9, a10])), (ww, .inr (6, [b0, .int 0, b2, b3, b4, b5, b6, b7, b8, b9, b10, b11, b12, b13, b14, b15]))] s.heap.size = A at hB hD ⊢
  have hA : ∀ q : Nat, s.heap.size ≤ q → A q := fun q h => by rw [← hAe]; exact Or.inr h
  have hS : va_S A s.heap s.heap [] := va_S.rf
  have hl := lv_entry ([.ref h0, .int i]) (n := 2) (Nat.le_of_ble_eq_true rfl)
  rw [lg_entry_eq]
  generalize (lg_sl ([.ref h0, .int i]) ++ List.replicate (2 - (lg_sl ([.ref h0, .int i])).length) Slot.unset).toArray = ls at hl ⊢
  have hl : lv_has ls 2 [(0, .ref h0), (1, .int i)] := hl
  refine lv_iload_n hx hb d_H_instanceNumbered_0 rfl (lv_at hl 1 rfl) ?_
  refine lv_if_lt (tgt := 15) hx hb d_H_instanceNumbered_1 rfl (fun h1 => ?_) (fun h1 => ?_)
  · refine W.widen (k := 0) (n := 0) (by decide) (by decide) ?_
    exact xt_throw (names := ["java/lang/RuntimeException", "java/lang/Exception"]) hx hb (hml.trans hl.1.symm) hlocks hfl hown xsite_206374 hB hS (by decide) (by decide) (by decide) (Nat.le_of_ble_eq_true rfl) htab d_H_instanceNumbered_15 d_H_instanceNumbered_18 (xt_l2) d_H_instanceNumbered_19 d_H_instanceNumbered_21 d_H_instanceNumbered_24 hP hD hK (fun _ => 0) rfl rfl rfl
  · refine lv_iload_n hx hb d_H_instanceNumbered_4 rfl (lv_at hl 1 rfl) ?_
    refine lv_aload_n hx hb d_H_instanceNumbered_5 rfl (lv_at hl 0 rfl) ?_
    refine va_get (D := D) (ci := 0) (v := .ref ww) (C := R_H) (T := F_H) (N := 11) hx hb hts fin_H hown hK hP 0 rfl rfl 6 (by decide) (hts _ m_3ac6c4ed) (fun _ h9 => h9) rfl d_H_instanceNumbered_6 ?_
    refine va_get (D := D) (ci := 6) (v := .int 0) (C := R_World) (T := F_World) (N := 16) hx hb hts fin_World hown hK hP 1 rfl rfl 1 (by decide) (hts _ m_c2325a2f) (fun _ h9 => h9) rfl d_H_instanceNumbered_9 ?_
    refine lv_icmp_lt (tgt := 25) hx hb d_H_instanceNumbered_12 rfl (fun h2 => ?_) (fun h2 => ?_)
    · exact absurd h2 h1
    · refine W.widen (k := 0) (n := 0) (by decide) (by decide) ?_
      exact xt_throw (names := ["java/lang/RuntimeException", "java/lang/Exception"]) hx hb (hml.trans hl.1.symm) hlocks hfl hown xsite_206374 hB hS (by decide) (by decide) (by decide) (Nat.le_of_ble_eq_true rfl) htab d_H_instanceNumbered_15 d_H_instanceNumbered_18 (xt_l2) d_H_instanceNumbered_19 d_H_instanceNumbered_21 d_H_instanceNumbered_24 hP hD hK (fun _ => 0) rfl rfl rfl

set_option maxHeartbeats 4000000 in
set_option maxRecDepth 100000 in
theorem c_H_name (l : Launch) (hfl : l.flags = pinnedFlags ++ [noTraceFlag]) (D : va_G) (h0 ww : Nat) (i : Int32) (a0 a1 a2 a3 a4 a5 a7 a8 a9 a10 : Value) (b0 b2 b3 b4 b5 b6 b7 b8 b9 b10 b11 b12 b13 b14 b15 : Value) (sz : Nat) : xt_Met l y_H_name [.code y_H_name b_H_name 3 none] ({ frames := 9, cells := 1, slots := 6, locals := 220 }) (xt_P D xcl [.ref h0, .int i] [(h0, .inr (0, [a0, a1, a2, a3, a4, a5, .ref ww, a7, a8, a9, a10])), (ww, .inr (6, [b0, .int 0, b2, b3, b4, b5, b6, b7, b8, b9, b10, b11, b12, b13, b14, b15]))] [] sz) (xt_Q (S := Nat → Nat) D xcl (va_A [(h0, .inr (0, [a0, a1, a2, a3, a4, a5, .ref ww, a7, a8, a9, a10])), (ww, .inr (6, [b0, .int 0, b2, b3, b4, b5, b6, b7, b8, b9, b10, b11, b12, b13, b14, b15]))] sz) (fun _ _ => False) (fun X _ => X = "java/lang/IndexOutOfBoundsException") (fun u => [(h0, .inr (0, [a0, a1, a2, a3, a4, a5, .ref ww, a7, a8, a9, a10])), (ww, .inr (6, [b0, .int 0, b2, b3, b4, b5, b6, b7, b8, b9, b10, b11, b12, b13, b14, b15]))]) (fun u => [])) 1 6 (va_A [(h0, .inr (0, [a0, a1, a2, a3, a4, a5, .ref ww, a7, a8, a9, a10])), (ww, .inr (6, [b0, .int 0, b2, b3, b4, b5, b6, b7, b8, b9, b10, b11, b12, b13, b14, b15]))] sz) := by
  refine xt_ofW (cc := b_H_name) (maxL := 3) (ret := none) (by decide) (List.mem_singleton.mpr rfl) ?_
  intro p e s m args below meth c s₁ B hml htab hv
  obtain ⟨rfl, hsz, hB, hP, hK, hD0⟩ := hv
  subst hsz
  have hx := B.exec
  have hb := B.bytes
  have hr := B.returns
  have hts := hB.1.at ([.ref h0, .int i] : List Value).toArray
  have hown : s.vm.findClass "StackHost" = some m.cls := findClass_of_methodNamed B.named
  have hlocks := B.notSynchronized
  have hD := hD0.self (sz := s.heap.size)
  generalize hAe : va_A [(h0, .inr (0, [a0, a1, a2, a3, a4, a5, .ref ww, a7, a8, a9, a10])), (ww, .inr (6, [b0, .int 0, b2, b3, b4, b5, b6, b7, b8, b9, b10, b11, b12, b13, b14, b15]))] s.heap.size = A at hB hD ⊢
  have hA : ∀ q : Nat, s.heap.size ≤ q → A q := fun q h => by rw [← hAe]; exact Or.inr h
  have hS : va_S A s.heap s.heap [] := va_S.rf
  have hl := lv_entry ([.ref h0, .int i]) (n := 3) (Nat.le_of_ble_eq_true rfl)
  rw [lg_entry_eq]
  generalize (lg_sl ([.ref h0, .int i]) ++ List.replicate (3 - (lg_sl ([.ref h0, .int i])).length) Slot.unset).toArray = ls at hl ⊢
  have hl : lv_has ls 3 [(0, .ref h0), (1, .int i)] := hl
  refine lv_aload_n hx hb d_H_name_0 rfl (lv_at hl 0 rfl) ?_
  refine lv_iload_n hx hb d_H_name_1 rfl (lv_at hl 1 rfl) ?_
  refine xt_call (D := D) (cl := xcl) (wr := []) (fun T hT X => by
    obtain ⟨cb, r1, r2, r3⟩ := va_recv hK hP (ci := 0) (q0 := 0) rfl rfl
    exact xt_invV X hx hown (hts _ m_63e9a525) (hts _ m_93abae91) (hts _ m_f44e4f6a) (xt_sigOf (hts _ m_925de4f3)) nm_H_instanceNumbered (by rw [hT]; exact r1) r2 r3 (g := F0 m 2 ls [.int i, .ref h0]) rfl (argsL := [.int i]) (rest := []) rfl rfl (by rw [hb]; exact d_H_name_2)) (c_H_instanceNumbered l hfl D h0 ww i (a0) (a1) (a2) (a3) (a4) (a5) (a7) (a8) (a9) (a10) (b0) (b2) (b3) (b4) (b5) (b6) (b7) (b8) (b9) (b10) (b11) (b12) (b13) (b14) (b15) s.heap.size) (hml.trans hl.1.symm) (by rw [hb]; exact d_H_name_2) (Nat.le_of_ble_eq_true rfl) rfl rfl (by decide) (by decide) (by decide) (by decide) (xt_w1 hB m_925de4f3) (xt_cdOf hB m_925de4f3) (hts _ m_ba0734f5) hB hK hP hD hS hA [0, 1] [] [] rfl rfl rfl (by decide) (by decide) (by decide) (fun v2 u1 H locs hp hP hD hK hS => ?_) (fun XX9 ax9 u1 H locs hp hex hP hD hK hS => ?_)
  · exact False.elim hp
  · have hp : XX9 = "java/lang/IndexOutOfBoundsException" := hp
    subst hp
    have hP : va_P D xcl [(h0, .inr (0, [a0, a1, a2, a3, a4, a5, .ref ww, a7, a8, a9, a10])), (ww, .inr (6, [b0, .int 0, b2, b3, b4, b5, b6, b7, b8, b9, b10, b11, b12, b13, b14, b15]))] H := hP
    have hD : va_D A [(h0, .inr (0, [a0, a1, a2, a3, a4, a5, .ref ww, a7, a8, a9, a10])), (ww, .inr (6, [b0, .int 0, b2, b3, b4, b5, b6, b7, b8, b9, b10, b11, b12, b13, b14, b15]))] := hD
    have hK : va_K D xcl [] s := hK
    refine xt_widenT (k := 1) (n := 6) (by decide) (by decide) ?_
    exact xt_pass hlocks (fun x hx9 => by rw [htab] at hx9; first | cases hx9 | (simp [tableOf] at hx9; rcases hx9 with rfl | rfl <;> decide)) hP hD hK hS hex (fun _ => 0) rfl [0, 1] [] rfl (by decide) rfl

set_option maxHeartbeats 4000000 in
set_option maxRecDepth 100000 in
theorem c_H_find (l : Launch) (hfl : l.flags = pinnedFlags ++ [noTraceFlag]) (D : va_G) (h0 ww : Nat) (i : Int32) (a0 a1 a2 a3 a4 a5 a7 a8 a9 a10 : Value) (b0 b2 b3 b4 b5 b6 b7 b8 b9 b10 b11 b12 b13 b14 b15 : Value) (sz : Nat) : xt_Met l y_H_find [.code y_H_find b_H_find 4 (some .int)] ({ frames := 9, cells := 1, slots := 6, locals := 220 }) (xt_P D xcl [.ref h0, .int i] [(h0, .inr (0, [a0, a1, a2, a3, a4, a5, .ref ww, a7, a8, a9, a10])), (ww, .inr (6, [b0, .int 0, b2, b3, b4, b5, b6, b7, b8, b9, b10, b11, b12, b13, b14, b15]))] [] sz) (xt_Q (S := Nat → Nat) D xcl (va_A [(h0, .inr (0, [a0, a1, a2, a3, a4, a5, .ref ww, a7, a8, a9, a10])), (ww, .inr (6, [b0, .int 0, b2, b3, b4, b5, b6, b7, b8, b9, b10, b11, b12, b13, b14, b15]))] sz) (fun _ _ => False) (fun X _ => X = "java/lang/IndexOutOfBoundsException") (fun u => [(h0, .inr (0, [a0, a1, a2, a3, a4, a5, .ref ww, a7, a8, a9, a10])), (ww, .inr (6, [b0, .int 0, b2, b3, b4, b5, b6, b7, b8, b9, b10, b11, b12, b13, b14, b15]))]) (fun u => [])) 1 6 (va_A [(h0, .inr (0, [a0, a1, a2, a3, a4, a5, .ref ww, a7, a8, a9, a10])), (ww, .inr (6, [b0, .int 0, b2, b3, b4, b5, b6, b7, b8, b9, b10, b11, b12, b13, b14, b15]))] sz) := by
  refine xt_ofW (cc := b_H_find) (maxL := 4) (ret := (some .int)) (by decide) (List.mem_singleton.mpr rfl) ?_
  intro p e s m args below meth c s₁ B hml htab hv
  obtain ⟨rfl, hsz, hB, hP, hK, hD0⟩ := hv
  subst hsz
  have hx := B.exec
  have hb := B.bytes
  have hr := B.returns
  have hts := hB.1.at ([.ref h0, .int i] : List Value).toArray
  have hown : s.vm.findClass "StackHost" = some m.cls := findClass_of_methodNamed B.named
  have hlocks := B.notSynchronized
  have hD := hD0.self (sz := s.heap.size)
  generalize hAe : va_A [(h0, .inr (0, [a0, a1, a2, a3, a4, a5, .ref ww, a7, a8, a9, a10])), (ww, .inr (6, [b0, .int 0, b2, b3, b4, b5, b6, b7, b8, b9, b10, b11, b12, b13, b14, b15]))] s.heap.size = A at hB hD ⊢
  have hA : ∀ q : Nat, s.heap.size ≤ q → A q := fun q h => by rw [← hAe]; exact Or.inr h
  have hS : va_S A s.heap s.heap [] := va_S.rf
  have hl := lv_entry ([.ref h0, .int i]) (n := 4) (Nat.le_of_ble_eq_true rfl)
  rw [lg_entry_eq]
  generalize (lg_sl ([.ref h0, .int i]) ++ List.replicate (4 - (lg_sl ([.ref h0, .int i])).length) Slot.unset).toArray = ls at hl ⊢
  have hl : lv_has ls 4 [(0, .ref h0), (1, .int i)] := hl
  refine lv_aload_n hx hb d_H_find_0 rfl (lv_at hl 0 rfl) ?_
  refine lv_iload_n hx hb d_H_find_1 rfl (lv_at hl 1 rfl) ?_
  refine xt_call (D := D) (cl := xcl) (wr := []) (fun T hT X => by
    obtain ⟨cb, r1, r2, r3⟩ := va_recv hK hP (ci := 0) (q0 := 0) rfl rfl
    exact xt_invV X hx hown (hts _ m_63e9a525) (hts _ m_93abae91) (hts _ m_f44e4f6a) (xt_sigOf (hts _ m_925de4f3)) nm_H_instanceNumbered (by rw [hT]; exact r1) r2 r3 (g := F0 m 2 ls [.int i, .ref h0]) rfl (argsL := [.int i]) (rest := []) rfl rfl (by rw [hb]; exact d_H_find_2)) (c_H_instanceNumbered l hfl D h0 ww i (a0) (a1) (a2) (a3) (a4) (a5) (a7) (a8) (a9) (a10) (b0) (b2) (b3) (b4) (b5) (b6) (b7) (b8) (b9) (b10) (b11) (b12) (b13) (b14) (b15) s.heap.size) (hml.trans hl.1.symm) (by rw [hb]; exact d_H_find_2) (Nat.le_of_ble_eq_true rfl) rfl rfl (by decide) (by decide) (by decide) (by decide) (xt_w1 hB m_925de4f3) (xt_cdOf hB m_925de4f3) (hts _ m_ba0734f5) hB hK hP hD hS hA [0, 1] [] [] rfl rfl rfl (by decide) (by decide) (by decide) (fun v2 u1 H locs hp hP hD hK hS => ?_) (fun XX9 ax9 u1 H locs hp hex hP hD hK hS => ?_)
  · exact False.elim hp
  · have hp : XX9 = "java/lang/IndexOutOfBoundsException" := hp
    subst hp
    have hP : va_P D xcl [(h0, .inr (0, [a0, a1, a2, a3, a4, a5, .ref ww, a7, a8, a9, a10])), (ww, .inr (6, [b0, .int 0, b2, b3, b4, b5, b6, b7, b8, b9, b10, b11, b12, b13, b14, b15]))] H := hP
    have hD : va_D A [(h0, .inr (0, [a0, a1, a2, a3, a4, a5, .ref ww, a7, a8, a9, a10])), (ww, .inr (6, [b0, .int 0, b2, b3, b4, b5, b6, b7, b8, b9, b10, b11, b12, b13, b14, b15]))] := hD
    have hK : va_K D xcl [] s := hK
    refine xt_widenT (k := 1) (n := 6) (by decide) (by decide) ?_
    exact xt_pass hlocks (fun x hx9 => by rw [htab] at hx9; first | cases hx9 | (simp [tableOf] at hx9; rcases hx9 with rfl | rfl <;> decide)) hP hD hK hS hex (fun _ => 0) rfl [0, 1] [] rfl (by decide) rfl

set_option maxHeartbeats 4000000 in
set_option maxRecDepth 100000 in
theorem c_H_exported (l : Launch) (hfl : l.flags = pinnedFlags ++ [noTraceFlag]) (D : va_G) (h0 ww : Nat) (i k w : Int32) (a0 a1 a2 a3 a4 a5 a7 a8 a9 a10 : Value) (b0 b2 b3 b4 b5 b6 b7 b8 b9 b10 b11 b12 b13 b14 b15 : Value) (sz : Nat) : xt_Met l y_H_exported [.code y_H_exported b_H_exported 7 (some .int)] ({ frames := 9, cells := 1, slots := 6, locals := 220 }) (xt_P D xcl [.ref h0, .int i, .int k, .int w] [(h0, .inr (0, [a0, a1, a2, a3, a4, a5, .ref ww, a7, a8, a9, a10])), (ww, .inr (6, [b0, .int 0, b2, b3, b4, b5, b6, b7, b8, b9, b10, b11, b12, b13, b14, b15]))] [] sz) (xt_Q (S := Nat → Nat) D xcl (va_A [(h0, .inr (0, [a0, a1, a2, a3, a4, a5, .ref ww, a7, a8, a9, a10])), (ww, .inr (6, [b0, .int 0, b2, b3, b4, b5, b6, b7, b8, b9, b10, b11, b12, b13, b14, b15]))] sz) (fun _ _ => False) (fun X _ => X = "java/lang/IndexOutOfBoundsException") (fun u => [(h0, .inr (0, [a0, a1, a2, a3, a4, a5, .ref ww, a7, a8, a9, a10])), (ww, .inr (6, [b0, .int 0, b2, b3, b4, b5, b6, b7, b8, b9, b10, b11, b12, b13, b14, b15]))]) (fun u => [])) 1 6 (va_A [(h0, .inr (0, [a0, a1, a2, a3, a4, a5, .ref ww, a7, a8, a9, a10])), (ww, .inr (6, [b0, .int 0, b2, b3, b4, b5, b6, b7, b8, b9, b10, b11, b12, b13, b14, b15]))] sz) := by
  refine xt_ofW (cc := b_H_exported) (maxL := 7) (ret := (some .int)) (by decide) (List.mem_singleton.mpr rfl) ?_
  intro p e s m args below meth c s₁ B hml htab hv
  obtain ⟨rfl, hsz, hB, hP, hK, hD0⟩ := hv
  subst hsz
  have hx := B.exec
  have hb := B.bytes
  have hr := B.returns
  have hts := hB.1.at ([.ref h0, .int i, .int k, .int w] : List Value).toArray
  have hown : s.vm.findClass "StackHost" = some m.cls := findClass_of_methodNamed B.named
  have hlocks := B.notSynchronized
  have hD := hD0.self (sz := s.heap.size)
  generalize hAe : va_A [(h0, .inr (0, [a0, a1, a2, a3, a4, a5, .ref ww, a7, a8, a9, a10])), (ww, .inr (6, [b0, .int 0, b2, b3, b4, b5, b6, b7, b8, b9, b10, b11, b12, b13, b14, b15]))] s.heap.size = A at hB hD ⊢
  have hA : ∀ q : Nat, s.heap.size ≤ q → A q := fun q h => by rw [← hAe]; exact Or.inr h
  have hS : va_S A s.heap s.heap [] := va_S.rf
  have hl := lv_entry ([.ref h0, .int i, .int k, .int w]) (n := 7) (Nat.le_of_ble_eq_true rfl)
  rw [lg_entry_eq]
  generalize (lg_sl ([.ref h0, .int i, .int k, .int w]) ++ List.replicate (7 - (lg_sl ([.ref h0, .int i, .int k, .int w])).length) Slot.unset).toArray = ls at hl ⊢
  have hl : lv_has ls 7 [(0, .ref h0), (1, .int i), (2, .int k), (3, .int w)] := hl
  refine lv_aload_n hx hb d_H_exported_0 rfl (lv_at hl 0 rfl) ?_
  refine lv_iload_n hx hb d_H_exported_1 rfl (lv_at hl 1 rfl) ?_
  refine xt_call (D := D) (cl := xcl) (wr := []) (fun T hT X => by
    obtain ⟨cb, r1, r2, r3⟩ := va_recv hK hP (ci := 0) (q0 := 0) rfl rfl
    exact xt_invV X hx hown (hts _ m_63e9a525) (hts _ m_93abae91) (hts _ m_f44e4f6a) (xt_sigOf (hts _ m_925de4f3)) nm_H_instanceNumbered (by rw [hT]; exact r1) r2 r3 (g := F0 m 2 ls [.int i, .ref h0]) rfl (argsL := [.int i]) (rest := []) rfl rfl (by rw [hb]; exact d_H_exported_2)) (c_H_instanceNumbered l hfl D h0 ww i (a0) (a1) (a2) (a3) (a4) (a5) (a7) (a8) (a9) (a10) (b0) (b2) (b3) (b4) (b5) (b6) (b7) (b8) (b9) (b10) (b11) (b12) (b13) (b14) (b15) s.heap.size) (hml.trans hl.1.symm) (by rw [hb]; exact d_H_exported_2) (Nat.le_of_ble_eq_true rfl) rfl rfl (by decide) (by decide) (by decide) (by decide) (xt_w1 hB m_925de4f3) (xt_cdOf hB m_925de4f3) (hts _ m_ba0734f5) hB hK hP hD hS hA [0, 1] [] [] rfl rfl rfl (by decide) (by decide) (by decide) (fun v2 u1 H locs hp hP hD hK hS => ?_) (fun XX9 ax9 u1 H locs hp hex hP hD hK hS => ?_)
  · exact False.elim hp
  · have hp : XX9 = "java/lang/IndexOutOfBoundsException" := hp
    subst hp
    have hP : va_P D xcl [(h0, .inr (0, [a0, a1, a2, a3, a4, a5, .ref ww, a7, a8, a9, a10])), (ww, .inr (6, [b0, .int 0, b2, b3, b4, b5, b6, b7, b8, b9, b10, b11, b12, b13, b14, b15]))] H := hP
    have hD : va_D A [(h0, .inr (0, [a0, a1, a2, a3, a4, a5, .ref ww, a7, a8, a9, a10])), (ww, .inr (6, [b0, .int 0, b2, b3, b4, b5, b6, b7, b8, b9, b10, b11, b12, b13, b14, b15]))] := hD
    have hK : va_K D xcl [] s := hK
    refine xt_widenT (k := 1) (n := 6) (by decide) (by decide) ?_
    exact xt_pass hlocks (fun x hx9 => by rw [htab] at hx9; first | cases hx9 | (simp [tableOf] at hx9; rcases hx9 with rfl | rfl <;> decide)) hP hD hK hS hex (fun _ => 0) rfl [0, 1] [] rfl (by decide) rfl

set_option maxHeartbeats 4000000 in
set_option maxRecDepth 100000 in
theorem c_H_invoke (l : Launch) (hfl : l.flags = pinnedFlags ++ [noTraceFlag]) (D : va_G) (h0 ww : Nat) (i k : Int32) (a0 a1 a2 a3 a4 a5 a7 a8 a9 a10 : Value) (b0 b2 b3 b4 b5 b6 b7 b8 b9 b10 b11 b12 b13 b14 b15 : Value) (sz : Nat) : xt_Met l y_H_invoke [.code y_H_invoke b_H_invoke 6 none] ({ frames := 9, cells := 1, slots := 6, locals := 220 }) (xt_P D xcl [.ref h0, .int i, .int k] [(h0, .inr (0, [a0, a1, a2, a3, a4, a5, .ref ww, a7, a8, a9, a10])), (ww, .inr (6, [b0, .int 0, b2, b3, b4, b5, b6, b7, b8, b9, b10, b11, b12, b13, b14, b15]))] [] sz) (xt_Q (S := Nat → Nat) D xcl (va_A [(h0, .inr (0, [a0, a1, a2, a3, a4, a5, .ref ww, a7, a8, a9, a10])), (ww, .inr (6, [b0, .int 0, b2, b3, b4, b5, b6, b7, b8, b9, b10, b11, b12, b13, b14, b15]))] sz) (fun _ _ => False) (fun X _ => X = "java/lang/IndexOutOfBoundsException") (fun u => [(h0, .inr (0, [a0, a1, a2, a3, a4, a5, .ref ww, a7, a8, a9, a10])), (ww, .inr (6, [b0, .int 0, b2, b3, b4, b5, b6, b7, b8, b9, b10, b11, b12, b13, b14, b15]))]) (fun u => [])) 1 6 (va_A [(h0, .inr (0, [a0, a1, a2, a3, a4, a5, .ref ww, a7, a8, a9, a10])), (ww, .inr (6, [b0, .int 0, b2, b3, b4, b5, b6, b7, b8, b9, b10, b11, b12, b13, b14, b15]))] sz) := by
  refine xt_ofW (cc := b_H_invoke) (maxL := 6) (ret := none) (by decide) (List.mem_singleton.mpr rfl) ?_
  intro p e s m args below meth c s₁ B hml htab hv
  obtain ⟨rfl, hsz, hB, hP, hK, hD0⟩ := hv
  subst hsz
  have hx := B.exec
  have hb := B.bytes
  have hr := B.returns
  have hts := hB.1.at ([.ref h0, .int i, .int k] : List Value).toArray
  have hown : s.vm.findClass "StackHost" = some m.cls := findClass_of_methodNamed B.named
  have hlocks := B.notSynchronized
  have hD := hD0.self (sz := s.heap.size)
  generalize hAe : va_A [(h0, .inr (0, [a0, a1, a2, a3, a4, a5, .ref ww, a7, a8, a9, a10])), (ww, .inr (6, [b0, .int 0, b2, b3, b4, b5, b6, b7, b8, b9, b10, b11, b12, b13, b14, b15]))] s.heap.size = A at hB hD ⊢
  have hA : ∀ q : Nat, s.heap.size ≤ q → A q := fun q h => by rw [← hAe]; exact Or.inr h
  have hS : va_S A s.heap s.heap [] := va_S.rf
  have hl := lv_entry ([.ref h0, .int i, .int k]) (n := 6) (Nat.le_of_ble_eq_true rfl)
  rw [lg_entry_eq]
  generalize (lg_sl ([.ref h0, .int i, .int k]) ++ List.replicate (6 - (lg_sl ([.ref h0, .int i, .int k])).length) Slot.unset).toArray = ls at hl ⊢
  have hl : lv_has ls 6 [(0, .ref h0), (1, .int i), (2, .int k)] := hl
  refine lv_aload_n hx hb d_H_invoke_0 rfl (lv_at hl 0 rfl) ?_
  refine lv_iload_n hx hb d_H_invoke_1 rfl (lv_at hl 1 rfl) ?_
  refine xt_call (D := D) (cl := xcl) (wr := []) (fun T hT X => by
    obtain ⟨cb, r1, r2, r3⟩ := va_recv hK hP (ci := 0) (q0 := 0) rfl rfl
    exact xt_invV X hx hown (hts _ m_63e9a525) (hts _ m_93abae91) (hts _ m_f44e4f6a) (xt_sigOf (hts _ m_925de4f3)) nm_H_instanceNumbered (by rw [hT]; exact r1) r2 r3 (g := F0 m 2 ls [.int i, .ref h0]) rfl (argsL := [.int i]) (rest := []) rfl rfl (by rw [hb]; exact d_H_invoke_2)) (c_H_instanceNumbered l hfl D h0 ww i (a0) (a1) (a2) (a3) (a4) (a5) (a7) (a8) (a9) (a10) (b0) (b2) (b3) (b4) (b5) (b6) (b7) (b8) (b9) (b10) (b11) (b12) (b13) (b14) (b15) s.heap.size) (hml.trans hl.1.symm) (by rw [hb]; exact d_H_invoke_2) (Nat.le_of_ble_eq_true rfl) rfl rfl (by decide) (by decide) (by decide) (by decide) (xt_w1 hB m_925de4f3) (xt_cdOf hB m_925de4f3) (hts _ m_ba0734f5) hB hK hP hD hS hA [0, 1] [] [] rfl rfl rfl (by decide) (by decide) (by decide) (fun v2 u1 H locs hp hP hD hK hS => ?_) (fun XX9 ax9 u1 H locs hp hex hP hD hK hS => ?_)
  · exact False.elim hp
  · have hp : XX9 = "java/lang/IndexOutOfBoundsException" := hp
    subst hp
    have hP : va_P D xcl [(h0, .inr (0, [a0, a1, a2, a3, a4, a5, .ref ww, a7, a8, a9, a10])), (ww, .inr (6, [b0, .int 0, b2, b3, b4, b5, b6, b7, b8, b9, b10, b11, b12, b13, b14, b15]))] H := hP
    have hD : va_D A [(h0, .inr (0, [a0, a1, a2, a3, a4, a5, .ref ww, a7, a8, a9, a10])), (ww, .inr (6, [b0, .int 0, b2, b3, b4, b5, b6, b7, b8, b9, b10, b11, b12, b13, b14, b15]))] := hD
    have hK : va_K D xcl [] s := hK
    refine xt_widenT (k := 1) (n := 6) (by decide) (by decide) ?_
    exact xt_pass hlocks (fun x hx9 => by rw [htab] at hx9; first | cases hx9 | (simp [tableOf] at hx9; rcases hx9 with rfl | rfl <;> decide)) hP hD hK hS hex (fun _ => 0) rfl [0, 1] [] rfl (by decide) rfl

set_option maxHeartbeats 4000000 in
set_option maxRecDepth 100000 in
theorem c_H_pages (l : Launch) (hfl : l.flags = pinnedFlags ++ [noTraceFlag]) (D : va_G) (h0 ww : Nat) (i : Int32) (a0 a1 a2 a3 a4 a5 a7 a8 a9 a10 : Value) (b0 b2 b3 b4 b5 b6 b7 b8 b9 b10 b11 b12 b13 b14 b15 : Value) (sz : Nat) : xt_Met l y_H_pages [.code y_H_pages b_H_pages 3 (some .int)] ({ frames := 9, cells := 1, slots := 6, locals := 220 }) (xt_P D xcl [.ref h0, .int i] [(h0, .inr (0, [a0, a1, a2, a3, a4, a5, .ref ww, a7, a8, a9, a10])), (ww, .inr (6, [b0, .int 0, b2, b3, b4, b5, b6, b7, b8, b9, b10, b11, b12, b13, b14, b15]))] [] sz) (xt_Q (S := Nat → Nat) D xcl (va_A [(h0, .inr (0, [a0, a1, a2, a3, a4, a5, .ref ww, a7, a8, a9, a10])), (ww, .inr (6, [b0, .int 0, b2, b3, b4, b5, b6, b7, b8, b9, b10, b11, b12, b13, b14, b15]))] sz) (fun _ _ => False) (fun X _ => X = "java/lang/IndexOutOfBoundsException") (fun u => [(h0, .inr (0, [a0, a1, a2, a3, a4, a5, .ref ww, a7, a8, a9, a10])), (ww, .inr (6, [b0, .int 0, b2, b3, b4, b5, b6, b7, b8, b9, b10, b11, b12, b13, b14, b15]))]) (fun u => [])) 1 6 (va_A [(h0, .inr (0, [a0, a1, a2, a3, a4, a5, .ref ww, a7, a8, a9, a10])), (ww, .inr (6, [b0, .int 0, b2, b3, b4, b5, b6, b7, b8, b9, b10, b11, b12, b13, b14, b15]))] sz) := by
  refine xt_ofW (cc := b_H_pages) (maxL := 3) (ret := (some .int)) (by decide) (List.mem_singleton.mpr rfl) ?_
  intro p e s m args below meth c s₁ B hml htab hv
  obtain ⟨rfl, hsz, hB, hP, hK, hD0⟩ := hv
  subst hsz
  have hx := B.exec
  have hb := B.bytes
  have hr := B.returns
  have hts := hB.1.at ([.ref h0, .int i] : List Value).toArray
  have hown : s.vm.findClass "StackHost" = some m.cls := findClass_of_methodNamed B.named
  have hlocks := B.notSynchronized
  have hD := hD0.self (sz := s.heap.size)
  generalize hAe : va_A [(h0, .inr (0, [a0, a1, a2, a3, a4, a5, .ref ww, a7, a8, a9, a10])), (ww, .inr (6, [b0, .int 0, b2, b3, b4, b5, b6, b7, b8, b9, b10, b11, b12, b13, b14, b15]))] s.heap.size = A at hB hD ⊢
  have hA : ∀ q : Nat, s.heap.size ≤ q → A q := fun q h => by rw [← hAe]; exact Or.inr h
  have hS : va_S A s.heap s.heap [] := va_S.rf
  have hl := lv_entry ([.ref h0, .int i]) (n := 3) (Nat.le_of_ble_eq_true rfl)
  rw [lg_entry_eq]
  generalize (lg_sl ([.ref h0, .int i]) ++ List.replicate (3 - (lg_sl ([.ref h0, .int i])).length) Slot.unset).toArray = ls at hl ⊢
  have hl : lv_has ls 3 [(0, .ref h0), (1, .int i)] := hl
  refine lv_aload_n hx hb d_H_pages_0 rfl (lv_at hl 0 rfl) ?_
  refine lv_iload_n hx hb d_H_pages_1 rfl (lv_at hl 1 rfl) ?_
  refine xt_call (D := D) (cl := xcl) (wr := []) (fun T hT X => by
    obtain ⟨cb, r1, r2, r3⟩ := va_recv hK hP (ci := 0) (q0 := 0) rfl rfl
    exact xt_invV X hx hown (hts _ m_63e9a525) (hts _ m_93abae91) (hts _ m_f44e4f6a) (xt_sigOf (hts _ m_925de4f3)) nm_H_instanceNumbered (by rw [hT]; exact r1) r2 r3 (g := F0 m 2 ls [.int i, .ref h0]) rfl (argsL := [.int i]) (rest := []) rfl rfl (by rw [hb]; exact d_H_pages_2)) (c_H_instanceNumbered l hfl D h0 ww i (a0) (a1) (a2) (a3) (a4) (a5) (a7) (a8) (a9) (a10) (b0) (b2) (b3) (b4) (b5) (b6) (b7) (b8) (b9) (b10) (b11) (b12) (b13) (b14) (b15) s.heap.size) (hml.trans hl.1.symm) (by rw [hb]; exact d_H_pages_2) (Nat.le_of_ble_eq_true rfl) rfl rfl (by decide) (by decide) (by decide) (by decide) (xt_w1 hB m_925de4f3) (xt_cdOf hB m_925de4f3) (hts _ m_ba0734f5) hB hK hP hD hS hA [0, 1] [] [] rfl rfl rfl (by decide) (by decide) (by decide) (fun v2 u1 H locs hp hP hD hK hS => ?_) (fun XX9 ax9 u1 H locs hp hex hP hD hK hS => ?_)
  · exact False.elim hp
  · have hp : XX9 = "java/lang/IndexOutOfBoundsException" := hp
    subst hp
    have hP : va_P D xcl [(h0, .inr (0, [a0, a1, a2, a3, a4, a5, .ref ww, a7, a8, a9, a10])), (ww, .inr (6, [b0, .int 0, b2, b3, b4, b5, b6, b7, b8, b9, b10, b11, b12, b13, b14, b15]))] H := hP
    have hD : va_D A [(h0, .inr (0, [a0, a1, a2, a3, a4, a5, .ref ww, a7, a8, a9, a10])), (ww, .inr (6, [b0, .int 0, b2, b3, b4, b5, b6, b7, b8, b9, b10, b11, b12, b13, b14, b15]))] := hD
    have hK : va_K D xcl [] s := hK
    refine xt_widenT (k := 1) (n := 6) (by decide) (by decide) ?_
    exact xt_pass hlocks (fun x hx9 => by rw [htab] at hx9; first | cases hx9 | (simp [tableOf] at hx9; rcases hx9 with rfl | rfl <;> decide)) hP hD hK hS hex (fun _ => 0) rfl [0, 1] [] rfl (by decide) rfl

