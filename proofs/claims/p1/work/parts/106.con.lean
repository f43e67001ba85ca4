set_option maxHeartbeats 4000000 in
set_option maxRecDepth 100000 in
theorem c_H_memoryWith (l : Launch) (hfl : l.flags = pinnedFlags ++ [noTraceFlag]) (D : va_G) (h0 ww : Nat) (i k : Int32) (a0 a1 a2 a3 a4 a5 a7 a8 a9 a10 : Value) (b0 b2 b3 b4 b5 b6 b7 b8 b9 b10 b11 b12 b13 b14 b15 : Value) (sz : Nat) : xt_Met l y_H_memoryWith [.code y_H_memoryWith b_H_memoryWith 4 (some (.object "StackHost$Memory"))] ({ frames := 9, cells := 1, slots := 6, locals := 220 }) (xt_P D xcl [.ref h0, .int i, .int k] [(h0, .inr (0, [a0, a1, a2, a3, a4, a5, .ref ww, a7, a8, a9, a10])), (ww, .inr (6, [b0, .int 0, b2, b3, b4, b5, b6, b7, b8, b9, b10, b11, b12, b13, b14, b15]))] [] sz) (xt_Q (S := Nat → Nat) D xcl (va_A [(h0, .inr (0, [a0, a1, a2, a3, a4, a5, .ref ww, a7, a8, a9, a10])), (ww, .inr (6, [b0, .int 0, b2, b3, b4, b5, b6, b7, b8, b9, b10, b11, b12, b13, b14, b15]))] sz) (fun _ _ => False) (fun X _ => X = "java/lang/IndexOutOfBoundsException") (fun u => [(h0, .inr (0, [a0, a1, a2, a3, a4, a5, .ref ww, a7, a8, a9, a10])), (ww, .inr (6, [b0, .int 0, b2, b3, b4, b5, b6, b7, b8, b9, b10, b11, b12, b13, b14, b15]))]) (fun u => [])) 1 6 (va_A [(h0, .inr (0, [a0, a1, a2, a3, a4, a5, .ref ww, a7, a8, a9, a10])), (ww, .inr (6, [b0, .int 0, b2, b3, b4, b5, b6, b7, b8, b9, b10, b11, b12, b13, b14, b15]))] sz) := by
  refine xt_ofW (cc := b_H_memoryWith) (maxL := 4) (ret := (some (.object "StackHost$Memory"))) (by decide) (List.mem_singleton.mpr rfl) ?_
  intro p e s m args below meth c s₁ B hml htab hv
  obtain ⟨rfl, hsz, hB, hP, hK, hD0⟩ := hv
  subst hsz
  have hx := B.exec
  have hb := B.bytes
  have hr := B.returns
  have hts := hB.1.at ([.ref h0, .int i, .int k] : List Value).toArray
  have hown : s.vm.findClass "StackHost" = some m.cls := findClass_of_methodNamed B.named
  have hlocks := B.notSynchronized
  have hD := hD0.self (sz := s.heap.size)
  generalize hAe : va_A [(h0, .inr (0, [a0, a1, a2, a3, a4, a5, .ref ww, a7, a8, a9, a10])), (ww, .inr (6, [b0, .int 0, b2, b3, b4, b5, b6, b7, b8, b9, b10, b11, b12, b13, b14, b15]))] s.heap.size = A at hB hD ⊢
  have hA : ∀ q : Nat, s.heap.size ≤ q → A q := fun q h => by rw [← hAe]; exact Or.inr h
  have hS : va_S A s.heap s.heap [] := va_S.rf
  have hl := lv_entry ([.ref h0, .int i, .int k]) (n := 4) (Nat.le_of_ble_eq_true rfl)
  rw [lg_entry_eq]
  generalize (lg_sl ([.ref h0, .int i, .int k]) ++ List.replicate (4 - (lg_sl ([.ref h0, .int i, .int k])).length) Slot.unset).toArray = ls at hl ⊢
  have hl : lv_has ls 4 [(0, .ref h0), (1, .int i), (2, .int k)] := hl
  refine lv_aload_n hx hb d_H_memoryWith_0 rfl (lv_at hl 0 rfl) ?_
  refine lv_iload_n hx hb d_H_memoryWith_1 rfl (lv_at hl 1 rfl) ?_
  refine xt_call (D := D) (cl := xcl) (wr := []) (fun T hT X => by
    obtain ⟨cb, r1, r2, r3⟩ := va_recv hK hP (ci := 0) (q0 := 0) rfl rfl
    exact xt_invV X hx hown (hts _ m_63e9a525) (hts _ m_93abae91) (hts _ m_f44e4f6a) (xt_sigOf (hts _ m_925de4f3)) nm_H_instanceNumbered (by rw [hT]; exact r1) r2 r3 (g := F0 m 2 ls [.int i, .ref h0]) rfl (argsL := [.int i]) (rest := []) rfl rfl (by rw [hb]; exact d_H_memoryWith_2)) (c_H_instanceNumbered l hfl D h0 ww i (a0) (a1) (a2) (a3) (a4) (a5) (a7) (a8) (a9) (a10) (b0) (b2) (b3) (b4) (b5) (b6) (b7) (b8) (b9) (b10) (b11) (b12) (b13) (b14) (b15) s.heap.size) (hml.trans hl.1.symm) (by rw [hb]; exact d_H_memoryWith_2) (Nat.le_of_ble_eq_true rfl) rfl rfl (by decide) (by decide) (by decide) (by decide) (xt_w1 hB m_925de4f3) (xt_cdOf hB m_925de4f3) (hts _ m_ba0734f5) hB hK hP hD hS hA [0, 1] [] [] rfl rfl rfl (by decide) (by decide) (by decide) (fun v2 u1 H locs hp hP hD hK hS => ?_) (fun XX9 ax9 u1 H locs hp hex hP hD hK hS => ?_)
  · exact False.elim hp
  · have hp : XX9 = "java/lang/IndexOutOfBoundsException" := hp
    subst hp
    have hP : va_P D xcl [(h0, .inr (0, [a0, a1, a2, a3, a4, a5, .ref ww, a7, a8, a9, a10])), (ww, .inr (6, [b0, .int 0, b2, b3, b4, b5, b6, b7, b8, b9, b10, b11, b12, b13, b14, b15]))] H := hP
    have hD : va_D A [(h0, .inr (0, [a0, a1, a2, a3, a4, a5, .ref ww, a7, a8, a9, a10])), (ww, .inr (6, [b0, .int 0, b2, b3, b4, b5, b6, b7, b8, b9, b10, b11, b12, b13, b14, b15]))] := hD
    have hK : va_K D xcl [] s := hK
    refine xt_widenT (k := 1) (n := 6) (by decide) (by decide) ?_
    exact xt_pass hlocks (fun x hx9 => by rw [htab] at hx9; first | cases hx9 | (simp [tableOf] at hx9; rcases hx9 with rfl | rfl <;> decide)) hP hD hK hS hex (fun _ => 0) rfl [0, 1] [] rfl (by decide) rfl

set_option maxHeartbeats 4000000 in
set_option maxRecDepth 100000 in
theorem c_H_peek (l : Launch) (hfl : l.flags = pinnedFlags ++ [noTraceFlag]) (D : va_G) (h0 ww : Nat) (i k : Int32) (a0 a1 a2 a3 a4 a5 a7 a8 a9 a10 : Value) (b0 b2 b3 b4 b5 b6 b7 b8 b9 b10 b11 b12 b13 b14 b15 : Value) (sz : Nat) : xt_Met l y_H_peek [.code y_H_peek b_H_peek 4 (some .int)] ({ frames := 10, cells := 1, slots := 6, locals := 320 }) (xt_P D xcl [.ref h0, .int i, .int k] [(h0, .inr (0, [a0, a1, a2, a3, a4, a5, .ref ww, a7, a8, a9, a10])), (ww, .inr (6, [b0, .int 0, b2, b3, b4, b5, b6, b7, b8, b9, b10, b11, b12, b13, b14, b15]))] [] sz) (xt_Q (S := Nat → Nat) D xcl (va_A [(h0, .inr (0, [a0, a1, a2, a3, a4, a5, .ref ww, a7, a8, a9, a10])), (ww, .inr (6, [b0, .int 0, b2, b3, b4, b5, b6, b7, b8, b9, b10, b11, b12, b13, b14, b15]))] sz) (fun _ _ => False) (fun X _ => X = "java/lang/IndexOutOfBoundsException") (fun u => [(h0, .inr (0, [a0, a1, a2, a3, a4, a5, .ref ww, a7, a8, a9, a10])), (ww, .inr (6, [b0, .int 0, b2, b3, b4, b5, b6, b7, b8, b9, b10, b11, b12, b13, b14, b15]))]) (fun u => [])) 1 6 (va_A [(h0, .inr (0, [a0, a1, a2, a3, a4, a5, .ref ww, a7, a8, a9, a10])), (ww, .inr (6, [b0, .int 0, b2, b3, b4, b5, b6, b7, b8, b9, b10, b11, b12, b13, b14, b15]))] sz) := by
  refine xt_ofW (cc := b_H_peek) (maxL := 4) (ret := (some .int)) (by decide) (List.mem_singleton.mpr rfl) ?_
  intro p e s m args below meth c s₁ B hml htab hv
  obtain ⟨rfl, hsz, hB, hP, hK, hD0⟩ := hv
  subst hsz
  have hx := B.exec
  have hb := B.bytes
  have hr := B.returns
  have hts := hB.1.at ([.ref h0, .int i, .int k] : List Value).toArray
  have hown : s.vm.findClass "StackHost" = some m.cls := findClass_of_methodNamed B.named
  have hlocks := B.notSynchronized
  have hD := hD0.self (sz := s.heap.size)
  generalize hAe : va_A [(h0, .inr (0, [a0, a1, a2, a3, a4, a5, .ref ww, a7, a8, a9, a10])), (ww, .inr (6, [b0, .int 0, b2, b3, b4, b5, b6, b7, b8, b9, b10, b11, b12, b13, b14, b15]))] s.heap.size = A at hB hD ⊢
  have hA : ∀ q : Nat, s.heap.size ≤ q → A q := fun q h => by rw [← hAe]; exact Or.inr h
  have hS : va_S A s.heap s.heap [] := va_S.rf
  have hl := lv_entry ([.ref h0, .int i, .int k]) (n := 4) (Nat.le_of_ble_eq_true rfl)
  rw [lg_entry_eq]
  generalize (lg_sl ([.ref h0, .int i, .int k]) ++ List.replicate (4 - (lg_sl ([.ref h0, .int i, .int k])).length) Slot.unset).toArray = ls at hl ⊢
  have hl : lv_has ls 4 [(0, .ref h0), (1, .int i), (2, .int k)] := hl
  refine lv_aload_n hx hb d_H_peek_0 rfl (lv_at hl 0 rfl) ?_
  refine lv_iload_n hx hb d_H_peek_1 rfl (lv_at hl 1 rfl) ?_
  refine lv_iload_n hx hb d_H_peek_2 rfl (lv_at hl 2 rfl) ?_
  refine xt_call (D := D) (cl := xcl) (wr := []) (fun T hT X => by
    obtain ⟨cb, r1, r2, r3⟩ := va_recv hK hP (ci := 0) (q0 := 0) rfl rfl
    exact xt_invV X hx hown (hts _ m_4a194adb) (hts _ m_98d394c7) (hts _ m_31edfe3b) (xt_sigOf (hts _ m_8546755b)) nm_H_memoryWith (by rw [hT]; exact r1) r2 r3 (g := F0 m 3 ls [.int k, .int i, .ref h0]) rfl (argsL := [.int i, .int k]) (rest := []) rfl rfl (by rw [hb]; exact d_H_peek_3)) (c_H_memoryWith l hfl D h0 ww i k (a0) (a1) (a2) (a3) (a4) (a5) (a7) (a8) (a9) (a10) (b0) (b2) (b3) (b4) (b5) (b6) (b7) (b8) (b9) (b10) (b11) (b12) (b13) (b14) (b15) s.heap.size) (hml.trans hl.1.symm) (by rw [hb]; exact d_H_peek_3) (Nat.le_of_ble_eq_true rfl) rfl rfl (by decide) (by decide) (by decide) (by decide) (xt_w1 hB m_8546755b) (xt_cdOf hB m_8546755b) (hts _ m_ba0734f5) hB hK hP hD hS hA [0, 1] [] [] rfl rfl rfl (by decide) (by decide) (by decide) (fun v2 u1 H locs hp hP hD hK hS => ?_) (fun XX9 ax9 u1 H locs hp hex hP hD hK hS => ?_)
  · exact False.elim hp
  · have hp : XX9 = "java/lang/IndexOutOfBoundsException" := hp
    subst hp
    have hP : va_P D xcl [(h0, .inr (0, [a0, a1, a2, a3, a4, a5, .ref ww, a7, a8, a9, a10])), (ww, .inr (6, [b0, .int 0, b2, b3, b4, b5, b6, b7, b8, b9, b10, b11, b12, b13, b14, b15]))] H := hP
    have hD : va_D A [(h0, .inr (0, [a0, a1, a2, a3, a4, a5, .ref ww, a7, a8, a9, a10])), (ww, .inr (6, [b0, .int 0, b2, b3, b4, b5, b6, b7, b8, b9, b10, b11, b12, b13, b14, b15]))] := hD
    have hK : va_K D xcl [] s := hK
    refine xt_widenT (k := 1) (n := 6) (by decide) (by decide) ?_
    exact xt_pass hlocks (fun x hx9 => by rw [htab] at hx9; first | cases hx9 | (simp [tableOf] at hx9; rcases hx9 with rfl | rfl <;> decide)) hP hD hK hS hex (fun _ => 0) rfl [0, 1] [] rfl (by decide) rfl

set_option maxHeartbeats 4000000 in
set_option maxRecDepth 100000 in
theorem c_H_poke (l : Launch) (hfl : l.flags = pinnedFlags ++ [noTraceFlag]) (D : va_G) (h0 ww : Nat) (i k w : Int32) (a0 a1 a2 a3 a4 a5 a7 a8 a9 a10 : Value) (b0 b2 b3 b4 b5 b6 b7 b8 b9 b10 b11 b12 b13 b14 b15 : Value) (sz : Nat) : xt_Met l y_H_poke [.code y_H_poke b_H_poke 5 none] ({ frames := 10, cells := 1, slots := 6, locals := 320 }) (xt_P D xcl [.ref h0, .int i, .int k, .int w] [(h0, .inr (0, [a0, a1, a2, a3, a4, a5, .ref ww, a7, a8, a9, a10])), (ww, .inr (6, [b0, .int 0, b2, b3, b4, b5, b6, b7, b8, b9, b10, b11, b12, b13, b14, b15]))] [] sz) (xt_Q (S := Nat → Nat) D xcl (va_A [(h0, .inr (0, [a0, a1, a2, a3, a4, a5, .ref ww, a7, a8, a9, a10])), (ww, .inr (6, [b0, .int 0, b2, b3, b4, b5, b6, b7, b8, b9, b10, b11, b12, b13, b14, b15]))] sz) (fun _ _ => False) (fun X _ => X = "java/lang/IndexOutOfBoundsException") (fun u => [(h0, .inr (0, [a0, a1, a2, a3, a4, a5, .ref ww, a7, a8, a9, a10])), (ww, .inr (6, [b0, .int 0, b2, b3, b4, b5, b6, b7, b8, b9, b10, b11, b12, b13, b14, b15]))]) (fun u => [])) 1 6 (va_A [(h0, .inr (0, [a0, a1, a2, a3, a4, a5, .ref ww, a7, a8, a9, a10])), (ww, .inr (6, [b0, .int 0, b2, b3, b4, b5, b6, b7, b8, b9, b10, b11, b12, b13, b14, b15]))] sz) := by
  refine xt_ofW (cc := b_H_poke) (maxL := 5) (ret := none) (by decide) (List.mem_singleton.mpr rfl) ?_
  intro p e s m args below meth c s₁ B hml htab hv
  obtain ⟨rfl, hsz, hB, hP, hK, hD0⟩ := hv
  subst hsz
  have hx := B.exec
  have hb := B.bytes
  have hr := B.returns
  have hts := hB.1.at ([.ref h0, .int i, .int k, .int w] : List Value).toArray
  have hown : s.vm.findClass "StackHost" = some m.cls := findClass_of_methodNamed B.named
  have hlocks := B.notSynchronized
  have hD := hD0.self (sz := s.heap.size)
  generalize hAe : va_A [(h0, .inr (0, [a0, a1, a2, a3, a4, a5, .ref ww, a7, a8, a9, a10])), (ww, .inr (6, [b0, .int 0, b2, b3, b4, b5, b6, b7, b8, b9, b10, b11, b12, b13, b14, b15]))] s.heap.size = A at hB hD ⊢
  have hA : ∀ q : Nat, s.heap.size ≤ q → A q := fun q h => by rw [← hAe]; exact Or.inr h
  have hS : va_S A s.heap s.heap [] := va_S.rf
  have hl := lv_entry ([.ref h0, .int i, .int k, .int w]) (n := 5) (Nat.le_of_ble_eq_true rfl)
  rw [lg_entry_eq]
  generalize (lg_sl ([.ref h0, .int i, .int k, .int w]) ++ List.replicate (5 - (lg_sl ([.ref h0, .int i, .int k, .int w])).length) Slot.unset).toArray = ls at hl ⊢
  have hl : lv_has ls 5 [(0, .ref h0), (1, .int i), (2, .int k), (3, .int w)] := hl
  refine lv_aload_n hx hb d_H_poke_0 rfl (lv_at hl 0 rfl) ?_
  refine lv_iload_n hx hb d_H_poke_1 rfl (lv_at hl 1 rfl) ?_
  refine lv_iload_n hx hb d_H_poke_2 rfl (lv_at hl 2 rfl) ?_
  refine xt_call (D := D) (cl := xcl) (wr := []) (fun T hT X => by
    obtain ⟨cb, r1, r2, r3⟩ := va_recv hK hP (ci := 0) (q0 := 0) rfl rfl
    exact xt_invV X hx hown (hts _ m_4a194adb) (hts _ m_98d394c7) (hts _ m_31edfe3b) (xt_sigOf (hts _ m_8546755b)) nm_H_memoryWith (by rw [hT]; exact r1) r2 r3 (g := F0 m 3 ls [.int k, .int i, .ref h0]) rfl (argsL := [.int i, .int k]) (rest := []) rfl rfl (by rw [hb]; exact d_H_poke_3)) (c_H_memoryWith l hfl D h0 ww i k (a0) (a1) (a2) (a3) (a4) (a5) (a7) (a8) (a9) (a10) (b0) (b2) (b3) (b4) (b5) (b6) (b7) (b8) (b9) (b10) (b11) (b12) (b13) (b14) (b15) s.heap.size) (hml.trans hl.1.symm) (by rw [hb]; exact d_H_poke_3) (Nat.le_of_ble_eq_true rfl) rfl rfl (by decide) (by decide) (by decide) (by decide) (xt_w1 hB m_8546755b) (xt_cdOf hB m_8546755b) (hts _ m_ba0734f5) hB hK hP hD hS hA [0, 1] [] [] rfl rfl rfl (by decide) (by decide) (by decide) (fun v2 u1 H locs hp hP hD hK hS => ?_) (fun XX9 ax9 u1 H locs hp hex hP hD hK hS => ?_)
  · exact False.elim hp
  · have hp : XX9 = "java/lang/IndexOutOfBoundsException" := hp
    subst hp
    have hP : va_P D xcl [(h0, .inr (0, [a0, a1, a2, a3, a4, a5, .ref ww, a7, a8, a9, a10])), (ww, .inr (6, [b0, .int 0, b2, b3, b4, b5, b6, b7, b8, b9, b10, b11, b12, b13, b14, b15]))] H := hP
    have hD : va_D A [(h0, .inr (0, [a0, a1, a2, a3, a4, a5, .ref ww, a7, a8, a9, a10])), (ww, .inr (6, [b0, .int 0, b2, b3, b4, b5, b6, b7, b8, b9, b10, b11, b12, b13, b14, b15]))] := hD
    have hK : va_K D xcl [] s := hK
    refine xt_widenT (k := 1) (n := 6) (by decide) (by decide) ?_
    exact xt_pass hlocks (fun x hx9 => by rw [htab] at hx9; first | cases hx9 | (simp [tableOf] at hx9; rcases hx9 with rfl | rfl <;> decide)) hP hD hK hS hex (fun _ => 0) rfl [0, 1] [] rfl (by decide) rfl

set_option maxHeartbeats 4000000 in
set_option maxRecDepth 100000 in
theorem c_H_variable (l : Launch) (hfl : l.flags = pinnedFlags ++ [noTraceFlag]) (D : va_G) (h0 ww : Nat) (i k : Int32) (a0 a1 a2 a3 a4 a5 a7 a8 a9 a10 : Value) (b0 b2 b3 b4 b5 b6 b7 b8 b9 b10 b11 b12 b13 b14 b15 : Value) (sz : Nat) : xt_Met l y_H_variable [.code y_H_variable b_H_variable 4 (some .long)] ({ frames := 9, cells := 1, slots := 6, locals := 220 }) (xt_P D xcl [.ref h0, .int i, .int k] [(h0, .inr (0, [a0, a1, a2, a3, a4, a5, .ref ww, a7, a8, a9, a10])), (ww, .inr (6, [b0, .int 0, b2, b3, b4, b5, b6, b7, b8, b9, b10, b11, b12, b13, b14, b15]))] [] sz) (xt_Q (S := Nat → Nat) D xcl (va_A [(h0, .inr (0, [a0, a1, a2, a3, a4, a5, .ref ww, a7, a8, a9, a10])), (ww, .inr (6, [b0, .int 0, b2, b3, b4, b5, b6, b7, b8, b9, b10, b11, b12, b13, b14, b15]))] sz) (fun _ _ => False) (fun X _ => X = "java/lang/IndexOutOfBoundsException") (fun u => [(h0, .inr (0, [a0, a1, a2, a3, a4, a5, .ref ww, a7, a8, a9, a10])), (ww, .inr (6, [b0, .int 0, b2, b3, b4, b5, b6, b7, b8, b9, b10, b11, b12, b13, b14, b15]))]) (fun u => [])) 1 6 (va_A [(h0, .inr (0, [a0, a1, a2, a3, a4, a5, .ref ww, a7, a8, a9, a10])), (ww, .inr (6, [b0, .int 0, b2, b3, b4, b5, b6, b7, b8, b9, b10, b11, b12, b13, b14, b15]))] sz) := by
  refine xt_ofW (cc := b_H_variable) (maxL := 4) (ret := (some .long)) (by decide) (List.mem_singleton.mpr rfl) ?_
  intro p e s m args below meth c s₁ B hml htab hv
  obtain ⟨rfl, hsz, hB, hP, hK, hD0⟩ := hv
  subst hsz
  have hx := B.exec
  have hb := B.bytes
  have hr := B.returns
  have hts := hB.1.at ([.ref h0, .int i, .int k] : List Value).toArray
  have hown : s.vm.findClass "StackHost" = some m.cls := findClass_of_methodNamed B.named
  have hlocks := B.notSynchronized
  have hD := hD0.self (sz := s.heap.size)
  generalize hAe : va_A [(h0, .inr (0, [a0, a1, a2, a3, a4, a5, .ref ww, a7, a8, a9, a10])), (ww, .inr (6, [b0, .int 0, b2, b3, b4, b5, b6, b7, b8, b9, b10, b11, b12, b13, b14, b15]))] s.heap.size = A at hB hD ⊢
  have hA : ∀ q : Nat, s.heap.size ≤ q → A q := fun q h => by rw [← hAe]; exact Or.inr h
  have hS : va_S A s.heap s.heap [] := va_S.rf
  have hl := lv_entry ([.ref h0, .int i, .int k]) (n := 4) (Nat.le_of_ble_eq_true rfl)
  rw [lg_entry_eq]
  generalize (lg_sl ([.ref h0, .int i, .int k]) ++ List.replicate (4 - (lg_sl ([.ref h0, .int i, .int k])).length) Slot.unset).toArray = ls at hl ⊢
  have hl : lv_has ls 4 [(0, .ref h0), (1, .int i), (2, .int k)] := hl
  refine lv_aload_n hx hb d_H_variable_0 rfl (lv_at hl 0 rfl) ?_
  refine lv_iload_n hx hb d_H_variable_1 rfl (lv_at hl 1 rfl) ?_
  refine xt_call (D := D) (cl := xcl) (wr := []) (fun T hT X => by
    obtain ⟨cb, r1, r2, r3⟩ := va_recv hK hP (ci := 0) (q0 := 0) rfl rfl
    exact xt_invV X hx hown (hts _ m_63e9a525) (hts _ m_93abae91) (hts _ m_f44e4f6a) (xt_sigOf (hts _ m_925de4f3)) nm_H_instanceNumbered (by rw [hT]; exact r1) r2 r3 (g := F0 m 2 ls [.int i, .ref h0]) rfl (argsL := [.int i]) (rest := []) rfl rfl (by rw [hb]; exact d_H_variable_2)) (c_H_instanceNumbered l hfl D h0 ww i (a0) (a1) (a2) (a3) (a4) (a5) (a7) (a8) (a9) (a10) (b0) (b2) (b3) (b4) (b5) (b6) (b7) (b8) (b9) (b10) (b11) (b12) (b13) (b14) (b15) s.heap.size) (hml.trans hl.1.symm) (by rw [hb]; exact d_H_variable_2) (Nat.le_of_ble_eq_true rfl) rfl rfl (by decide) (by decide) (by decide) (by decide) (xt_w1 hB m_925de4f3) (xt_cdOf hB m_925de4f3) (hts _ m_ba0734f5) hB hK hP hD hS hA [0, 1] [] [] rfl rfl rfl (by decide) (by decide) (by decide) (fun v2 u1 H locs hp hP hD hK hS => ?_) (fun XX9 ax9 u1 H locs hp hex hP hD hK hS => ?_)
  · exact False.elim hp
  · have hp : XX9 = "java/lang/IndexOutOfBoundsException" := hp
    subst hp
    have hP : va_P D xcl [(h0, .inr (0, [a0, a1, a2, a3, a4, a5, .ref ww, a7, a8, a9, a10])), (ww, .inr (6, [b0, .int 0, b2, b3, b4, b5, b6, b7, b8, b9, b10, b11, b12, b13, b14, b15]))] H := hP
    have hD : va_D A [(h0, .inr (0, [a0, a1, a2, a3, a4, a5, .ref ww, a7, a8, a9, a10])), (ww, .inr (6, [b0, .int 0, b2, b3, b4, b5, b6, b7, b8, b9, b10, b11, b12, b13, b14, b15]))] := hD
    have hK : va_K D xcl [] s := hK
    refine xt_widenT (k := 1) (n := 6) (by decide) (by decide) ?_
    exact xt_pass hlocks (fun x hx9 => by rw [htab] at hx9; first | cases hx9 | (simp [tableOf] at hx9; rcases hx9 with rfl | rfl <;> decide)) hP hD hK hS hex (fun _ => 0) rfl [0, 1] [] rfl (by decide) rfl

set_option maxHeartbeats 4000000 in
set_option maxRecDepth 100000 in
theorem c_H_element (l : Launch) (hfl : l.flags = pinnedFlags ++ [noTraceFlag]) (D : va_G) (h0 ww : Nat) (i k : Int32) (a0 a1 a2 a3 a4 a5 a7 a8 a9 a10 : Value) (b0 b2 b3 b4 b5 b6 b7 b8 b9 b10 b11 b12 b13 b14 b15 : Value) (sz : Nat) : xt_Met l y_H_element [.code y_H_element b_H_element 6 (some .int)] ({ frames := 9, cells := 1, slots := 6, locals := 220 }) (xt_P D xcl [.ref h0, .int i, .int k] [(h0, .inr (0, [a0, a1, a2, a3, a4, a5, .ref ww, a7, a8, a9, a10])), (ww, .inr (6, [b0, .int 0, b2, b3, b4, b5, b6, b7, b8, b9, b10, b11, b12, b13, b14, b15]))] [] sz) (xt_Q (S := Nat → Nat) D xcl (va_A [(h0, .inr (0, [a0, a1, a2, a3, a4, a5, .ref ww, a7, a8, a9, a10])), (ww, .inr (6, [b0, .int 0, b2, b3, b4, b5, b6, b7, b8, b9, b10, b11, b12, b13, b14, b15]))] sz) (fun _ _ => False) (fun X _ => X = "java/lang/IndexOutOfBoundsException") (fun u => [(h0, .inr (0, [a0, a1, a2, a3, a4, a5, .ref ww, a7, a8, a9, a10])), (ww, .inr (6, [b0, .int 0, b2, b3, b4, b5, b6, b7, b8, b9, b10, b11, b12, b13, b14, b15]))]) (fun u => [])) 1 6 (va_A [(h0, .inr (0, [a0, a1, a2, a3, a4, a5, .ref ww, a7, a8, a9, a10])), (ww, .inr (6, [b0, .int 0, b2, b3, b4, b5, b6, b7, b8, b9, b10, b11, b12, b13, b14, b15]))] sz) := by
  refine xt_ofW (cc := b_H_element) (maxL := 6) (ret := (some .int)) (by decide) (List.mem_singleton.mpr rfl) ?_
  intro p e s m args below meth c s₁ B hml htab hv
  obtain ⟨rfl, hsz, hB, hP, hK, hD0⟩ := hv
  subst hsz
  have hx := B.exec
  have hb := B.bytes
  have hr := B.returns
  have hts := hB.1.at ([.ref h0, .int i, .int k] : List Value).toArray
  have hown : s.vm.findClass "StackHost" = some m.cls := findClass_of_methodNamed B.named
  have hlocks := B.notSynchronized
  have hD := hD0.self (sz := s.heap.size)
  generalize hAe : va_A [(h0, .inr (0, [a0, a1, a2, a3, a4, a5, .ref ww, a7, a8, a9, a10])), (ww, .inr (6, [b0, .int 0, b2, b3, b4, b5, b6, b7, b8, b9, b10, b11, b12, b13, b14, b15]))] s.heap.size = A at hB hD ⊢
  have hA : ∀ q : Nat, s.heap.size ≤ q → A q := fun q h => by rw [← hAe]; exact Or.inr h
  have hS : va_S A s.heap s.heap [] := va_S.rf
  have hl := lv_entry ([.ref h0, .int i, .int k]) (n := 6) (Nat.le_of_ble_eq_true rfl)
  rw [lg_entry_eq]
  generalize (lg_sl ([.ref h0, .int i, .int k]) ++ List.replicate (6 - (lg_sl ([.ref h0, .int i, .int k])).length) Slot.unset).toArray = ls at hl ⊢
  have hl : lv_has ls 6 [(0, .ref h0), (1, .int i), (2, .int k)] := hl
  refine lv_aload_n hx hb d_H_element_0 rfl (lv_at hl 0 rfl) ?_
  refine lv_iload_n hx hb d_H_element_1 rfl (lv_at hl 1 rfl) ?_
  refine xt_call (D := D) (cl := xcl) (wr := []) (fun T hT X => by
    obtain ⟨cb, r1, r2, r3⟩ := va_recv hK hP (ci := 0) (q0 := 0) rfl rfl
    exact xt_invV X hx hown (hts _ m_63e9a525) (hts _ m_93abae91) (hts _ m_f44e4f6a) (xt_sigOf (hts _ m_925de4f3)) nm_H_instanceNumbered (by rw [hT]; exact r1) r2 r3 (g := F0 m 2 ls [.int i, .ref h0]) rfl (argsL := [.int i]) (rest := []) rfl rfl (by rw [hb]; exact d_H_element_2)) (c_H_instanceNumbered l hfl D h0 ww i (a0) (a1) (a2) (a3) (a4) (a5) (a7) (a8) (a9) (a10) (b0) (b2) (b3) (b4) (b5) (b6) (b7) (b8) (b9) (b10) (b11) (b12) (b13) (b14) (b15) s.heap.size) (hml.trans hl.1.symm) (by rw [hb]; exact d_H_element_2) (Nat.le_of_ble_eq_true rfl) rfl rfl (by decide) (by decide) (by decide) (by decide) (xt_w1 hB m_925de4f3) (xt_cdOf hB m_925de4f3) (hts _ m_ba0734f5) hB hK hP hD hS hA [0, 1] [] [] rfl rfl rfl (by decide) (by decide) (by decide) (fun v2 u1 H locs hp hP hD hK hS => ?_) (fun XX9 ax9 u1 H locs hp hex hP hD hK hS => ?_)
  · exact False.elim hp
  · have hp : XX9 = "java/lang/IndexOutOfBoundsException" := hp
    subst hp
    have hP : va_P D xcl [(h0, .inr (0, [a0, a1, a2, a3, a4, a5, .ref ww, a7, a8, a9, a10])), (ww, .inr (6, [b0, .int 0, b2, b3, b4, b5, b6, b7, b8, b9, b10, b11, b12, b13, b14, b15]))] H := hP
    have hD : va_D A [(h0, .inr (0, [a0, a1, a2, a3, a4, a5, .ref ww, a7, a8, a9, a10])), (ww, .inr (6, [b0, .int 0, b2, b3, b4, b5, b6, b7, b8, b9, b10, b11, b12, b13, b14, b15]))] := hD
    have hK : va_K D xcl [] s := hK
    refine xt_widenT (k := 1) (n := 6) (by decide) (by decide) ?_
    exact xt_pass hlocks (fun x hx9 => by rw [htab] at hx9; first | cases hx9 | (simp [tableOf] at hx9; rcases hx9 with rfl | rfl <;> decide)) hP hD hK hS hex (fun _ => 0) rfl [0, 1] [] rfl (by decide) rfl

set_option maxHeartbeats 4000000 in
set_option maxRecDepth 100000 in
theorem c_H_run_a (l : Launch) (hfl : l.flags = pinnedFlags ++ [noTraceFlag]) (D : va_G) (h0 mm : Nat) (k : Int32) (a0 a1 a2 a3 a4 a5 a6 a8 a9 a10 : Value) (b0 b1 b2 b4 b5 b6 b7 b8 b9 b10 b11 b12 b13 b14 b15 b16 b17 : Value) (sz : Nat) (hk : k < 0 ∨ 1000000 < k) : xt_Met l y_H_run [.code y_H_run b_H_run 2 (some .int)] ({ frames := 8, cells := 1, slots := 6, locals := 120 }) (xt_P D xcl [.ref h0, .int k] [(h0, .inr (0, [a0, a1, a2, a3, a4, a5, a6, .ref mm, a8, a9, a10])), (mm, .inr (7, [b0, b1, b2, .int 0, b4, b5, b6, b7, b8, b9, b10, b11, b12, b13, b14, b15, b16, b17]))] [] sz) (xt_Q (S := Nat → Nat) D xcl (va_A [(h0, .inr (0, [a0, a1, a2, a3, a4, a5, a6, .ref mm, a8, a9, a10])), (mm, .inr (7, [b0, b1, b2, .int 0, b4, b5, b6, b7, b8, b9, b10, b11, b12, b13, b14, b15, b16, b17]))] sz) (fun _ _ => False) (fun X _ => X = "java/lang/IllegalArgumentException") (fun u => [(h0, .inr (0, [a0, a1, a2, a3, a4, a5, a6, .ref mm, a8, a9, a10])), (mm, .inr (7, [b0, b1, b2, .int 0, b4, b5, b6, b7, b8, b9, b10, b11, b12, b13, b14, b15, b16, b17]))]) (fun u => [])) 1 6 (va_A [(h0, .inr (0, [a0, a1, a2, a3, a4, a5, a6, .ref mm, a8, a9, a10])), (mm, .inr (7, [b0, b1, b2, .int 0, b4, b5, b6, b7, b8, b9, b10, b11, b12, b13, b14, b15, b16, b17]))] sz) := by
  refine xt_ofW (cc := b_H_run) (maxL := 2) (ret := (some .int)) (by decide) (List.mem_singleton.mpr rfl) ?_
  intro p e s m args below meth c s₁ B hml htab hv
  obtain ⟨rfl, hsz, hB, hP, hK, hD0⟩ := hv
  subst hsz
  have hx := B.exec
  have hb := B.bytes
  have hr := B.returns
  have hts := hB.1.at ([.ref h0, .int k] : List Value).toArray
  have hown : s.vm.findClass "StackHost" = some m.cls := findClass_of_methodNamed B.named
  have hlocks := B.notSynchronized
  have hD := hD0.self (sz := s.heap.size)
  generalize hAe : va_A [(h0, .inr (0, [a0, a1, a2, a3, a4, a5, a6, .ref mm, a8, a9, a10])), (mm, .inr (7, [b0, b1, b2, .int 0, b4, b5, b6, b7, b8, b9, b10, b11, b12, b13, b14, b15, b16, b17]))] s.heap.size = A at hB hD ⊢
  have hA : ∀ q : Nat, s.heap.size ≤ q → A q := fun q h => by rw [← hAe]; exact Or.inr h
  have hS : va_S A s.heap s.heap [] := va_S.rf
  have hl := lv_entry ([.ref h0, .int k]) (n := 2) (Nat.le_of_ble_eq_true rfl)
  rw [lg_entry_eq]
  generalize (lg_sl ([.ref h0, .int k]) ++ List.replicate (2 - (lg_sl ([.ref h0, .int k])).length) Slot.unset).toArray = ls at hl ⊢
  have hl : lv_has ls 2 [(0, .ref h0), (1, .int k)] := hl
  refine lv_iload_n hx hb d_H_run_0 rfl (lv_at hl 1 rfl) ?_
  refine lv_if_lt (tgt := 11) hx hb d_H_run_1 rfl (fun h1 => ?_) (fun h1 => ?_)
  · refine W.widen (k := 0) (n := 0) (by decide) (by decide) ?_
    exact xt_throw (names := ["java/lang/RuntimeException", "java/lang/Exception"]) hx hb (hml.trans hl.1.symm) hlocks hfl hown xsite_07fd36 hB hS (by decide) (by decide) (by decide) (Nat.le_of_ble_eq_true rfl) htab d_H_run_11 d_H_run_14 (xt_l3) d_H_run_15 d_H_run_18 d_H_run_21 hP hD hK (fun _ => 0) rfl rfl rfl
  · refine lv_iload_n hx hb d_H_run_4 rfl (lv_at hl 1 rfl) ?_
    refine lv_ldcw (v := 1000000) hx hb hown (hts _ m_29588ef4) d_H_run_5 ?_
    refine lv_icmp_le (tgt := 22) hx hb d_H_run_8 rfl (fun h9 => absurd h9 (by rcases hk with hk | hk; exact absurd hk ‹¬ k < 0›; exact Int32.not_le.mpr hk)) (fun _ => ?_)
    refine W.widen (k := 0) (n := 0) (by decide) (by decide) ?_
    exact xt_throw (names := ["java/lang/RuntimeException", "java/lang/Exception"]) hx hb (hml.trans hl.1.symm) hlocks hfl hown xsite_07fd36 hB hS (by decide) (by decide) (by decide) (Nat.le_of_ble_eq_true rfl) htab d_H_run_11 d_H_run_14 (xt_l3) d_H_run_15 d_H_run_18 d_H_run_21 hP hD hK (fun _ => 0) rfl rfl rfl

set_option maxHeartbeats 4000000 in
set_option maxRecDepth 100000 in
theorem c_H_run_s (l : Launch) (hfl : l.flags = pinnedFlags ++ [noTraceFlag]) (D : va_G) (h0 mm : Nat) (k : Int32) (a0 a1 a2 a3 a4 a5 a6 a8 a9 a10 : Value) (b0 b1 b2 b4 b5 b6 b7 b8 b9 b10 b11 b12 b13 b14 b15 b16 b17 : Value) (sz : Nat) (hk1 : ¬ k < 0) (hk2 : k ≤ 1000000) : xt_Met l y_H_run [.code y_H_run b_H_run 2 (some .int)] ({ frames := 8, cells := 1, slots := 6, locals := 120 }) (xt_P D xcl [.ref h0, .int k] [(h0, .inr (0, [a0, a1, a2, a3, a4, a5, a6, .ref mm, a8, a9, a10])), (mm, .inr (7, [b0, b1, b2, .int 0, b4, b5, b6, b7, b8, b9, b10, b11, b12, b13, b14, b15, b16, b17]))] [] sz) (xt_Q (S := Nat → Nat) D xcl (va_A [(h0, .inr (0, [a0, a1, a2, a3, a4, a5, a6, .ref mm, a8, a9, a10])), (mm, .inr (7, [b0, b1, b2, .int 0, b4, b5, b6, b7, b8, b9, b10, b11, b12, b13, b14, b15, b16, b17]))] sz) (fun _ _ => False) (fun X _ => X = "java/lang/IllegalStateException") (fun u => [(h0, .inr (0, [a0, a1, a2, a3, a4, a5, a6, .ref mm, a8, a9, a10])), (mm, .inr (7, [b0, b1, b2, .int 0, b4, b5, b6, b7, b8, b9, b10, b11, b12, b13, b14, b15, b16, b17]))]) (fun u => [])) 1 6 (va_A [(h0, .inr (0, [a0, a1, a2, a3, a4, a5, a6, .ref mm, a8, a9, a10])), (mm, .inr (7, [b0, b1, b2, .int 0, b4, b5, b6, b7, b8, b9, b10, b11, b12, b13, b14, b15, b16, b17]))] sz) := by
  refine xt_ofW (cc := b_H_run) (maxL := 2) (ret := (some .int)) (by decide) (List.mem_singleton.mpr rfl) ?_
  intro p e s m args below meth c s₁ B hml htab hv
  obtain ⟨rfl, hsz, hB, hP, hK, hD0⟩ := hv
  subst hsz
  have hx := B.exec
  have hb := B.bytes
  have hr := B.returns
  have hts := hB.1.at ([.ref h0, .int k] : List Value).toArray
  have hown : s.vm.findClass "StackHost" = some m.cls := findClass_of_methodNamed B.named
  have hlocks := B.notSynchronized
  have hD := hD0.self (sz := s.heap.size)
  generalize hAe : va_A [(h0, .inr (0, [a0, a1, a2, a3, a4, a5, a6, .ref mm, a8, a9, a10])), (mm, .inr (7, [b0, b1, b2, .int 0, b4, b5, b6, b7, b8, b9, b10, b11, b12, b13, b14, b15, b16, b17]))] s.heap.size = A at hB hD ⊢
  have hA : ∀ q : Nat, s.heap.size ≤ q → A q := fun q h => by rw [← hAe]; exact Or.inr h
  have hS : va_S A s.heap s.heap [] := va_S.rf
  have hl := lv_entry ([.ref h0, .int k]) (n := 2) (Nat.le_of_ble_eq_true rfl)
  rw [lg_entry_eq]
  generalize (lg_sl ([.ref h0, .int k]) ++ List.replicate (2 - (lg_sl ([.ref h0, .int k])).length) Slot.unset).toArray = ls at hl ⊢
  have hl : lv_has ls 2 [(0, .ref h0), (1, .int k)] := hl
  refine lv_iload_n hx hb d_H_run_0 rfl (lv_at hl 1 rfl) ?_
  refine lv_if_lt (tgt := 11) hx hb d_H_run_1 rfl (fun h9 => absurd h9 hk1) (fun _ => ?_)
  refine lv_iload_n hx hb d_H_run_4 rfl (lv_at hl 1 rfl) ?_
  refine lv_ldcw (v := 1000000) hx hb hown (hts _ m_29588ef4) d_H_run_5 ?_
  refine lv_icmp_le (tgt := 22) hx hb d_H_run_8 rfl (fun _ => ?_) (fun h9 => absurd hk2 h9)
  refine lv_aload_n hx hb d_H_run_22 rfl (lv_at hl 0 rfl) ?_
  refine va_get (D := D) (ci := 0) (v := .ref mm) (C := R_H) (T := F_H) (N := 11) hx hb hts fin_H hown hK hP 0 rfl rfl 7 (by decide) (hts _ m_ab10058e) (fun _ h9 => h9) rfl d_H_run_23 ?_
  refine va_get (D := D) (ci := 7) (v := .int 0) (C := R_Machine) (T := F_Machine) (N := 18) hx hb hts fin_Machine hown hK hP 1 rfl rfl 3 (by decide) (hts _ m_de837f39) (fun _ h9 => h9) rfl d_H_run_26 ?_
  refine lv_if_ne (tgt := 43) hx hb d_H_run_29 rfl (fun h9 => absurd h9 (by decide)) (fun _ => ?_)
  refine W.widen (k := 0) (n := 0) (by decide) (by decide) ?_
  exact xt_throw (names := ["java/lang/RuntimeException", "java/lang/Exception"]) hx hb (hml.trans hl.1.symm) hlocks hfl hown xsite_533e0f hB hS (by decide) (by decide) (by decide) (Nat.le_of_ble_eq_true rfl) htab d_H_run_32 d_H_run_35 (xt_l3) d_H_run_36 d_H_run_39 d_H_run_42 hP hD hK (fun _ => 0) rfl rfl rfl

set_option maxHeartbeats 4000000 in
set_option maxRecDepth 100000 in
theorem c_H_trap_0 (l : Launch) (D : va_G) (h0 mm lt kt : Nat) (a0 a1 a2 a3 a4 a5 a6 a8 a9 a10 : Value) (b0 b1 b2 b3 b4 b5 b7 b8 b9 b10 b11 b12 b13 b14 b15 b16 b17 : Value) (sz : Nat) : xt_Met l y_H_trap [.code y_H_trap b_H_trap 2 (some .int)] ({ frames := 8, cells := 0, slots := 0, locals := 120 }) (xt_P D xcl [.ref h0, .int 0] [(h0, .inr (0, [a0, a1, a2, a3, a4, a5, a6, .ref mm, a8, a9, a10])), (mm, .inr (7, [b0, b1, b2, b3, b4, b5, .ref lt, b7, b8, b9, b10, b11, b12, b13, b14, b15, b16, b17])), (lt, .inl (kt, 4, .inl (upd (upd (upd (upd (fun _ => 0) (0 : Int32).toNatClampNeg 0) (1 : Int32).toNatClampNeg (-1)) (2 : Int32).toNatClampNeg (-1)) (3 : Int32).toNatClampNeg (-1))))] [(kt, .int)] sz) (xt_Q (S := Nat → Nat) D xcl (va_A [(h0, .inr (0, [a0, a1, a2, a3, a4, a5, a6, .ref mm, a8, a9, a10])), (mm, .inr (7, [b0, b1, b2, b3, b4, b5, .ref lt, b7, b8, b9, b10, b11, b12, b13, b14, b15, b16, b17])), (lt, .inl (kt, 4, .inl (upd (upd (upd (upd (fun _ => 0) (0 : Int32).toNatClampNeg 0) (1 : Int32).toNatClampNeg (-1)) (2 : Int32).toNatClampNeg (-1)) (3 : Int32).toNatClampNeg (-1))))] sz) (fun v u => v = some (.int 0)) (fun _ _ => False) (fun u => [(h0, .inr (0, [a0, a1, a2, a3, a4, a5, a6, .ref mm, a8, a9, a10])), (mm, .inr (7, [b0, b1, b2, b3, b4, b5, .ref lt, b7, b8, b9, b10, b11, b12, b13, b14, b15, b16, b17])), (lt, .inl (kt, 4, .inl (upd (upd (upd (upd (fun _ => 0) (0 : Int32).toNatClampNeg 0) (1 : Int32).toNatClampNeg (-1)) (2 : Int32).toNatClampNeg (-1)) (3 : Int32).toNatClampNeg (-1))))]) (fun u => [(kt, .int)])) 0 0 (va_A [(h0, .inr (0, [a0, a1, a2, a3, a4, a5, a6, .ref mm, a8, a9, a10])), (mm, .inr (7, [b0, b1, b2, b3, b4, b5, .ref lt, b7, b8, b9, b10, b11, b12, b13, b14, b15, b16, b17])), (lt, .inl (kt, 4, .inl (upd (upd (upd (upd (fun _ => 0) (0 : Int32).toNatClampNeg 0) (1 : Int32).toNatClampNeg (-1)) (2 : Int32).toNatClampNeg (-1)) (3 : Int32).toNatClampNeg (-1))))] sz) := by
  refine xt_ofW (cc := b_H_trap) (maxL := 2) (ret := (some .int)) (by decide) (List.mem_singleton.mpr rfl) ?_
  intro p e s m args below meth c s₁ B hml htab hv
  obtain ⟨rfl, hsz, hB, hP, hK, hD0⟩ := hv
  subst hsz
  have hx := B.exec
  have hb := B.bytes
  have hr := B.returns
  have hts := hB.1.at ([.ref h0, .int 0] : List Value).toArray
  have hown : s.vm.findClass "StackHost" = some m.cls := findClass_of_methodNamed B.named
  have hlocks := B.notSynchronized
  have hD := hD0.self (sz := s.heap.size)
  generalize hAe : va_A [(h0, .inr (0, [a0, a1, a2, a3, a4, a5, a6, .ref mm, a8, a9, a10])), (mm, .inr (7, [b0, b1, b2, b3, b4, b5, .ref lt, b7, b8, b9, b10, b11, b12, b13, b14, b15, b16, b17])), (lt, .inl (kt, 4, .inl (upd (upd (upd (upd (fun _ => 0) (0 : Int32).toNatClampNeg 0) (1 : Int32).toNatClampNeg (-1)) (2 : Int32).toNatClampNeg (-1)) (3 : Int32).toNatClampNeg (-1))))] s.heap.size = A at hB hD ⊢
  have hA : ∀ q : Nat, s.heap.size ≤ q → A q := fun q h => by rw [← hAe]; exact Or.inr h
  have hS : va_S A s.heap s.heap [] := va_S.rf
  have hl := lv_entry ([.ref h0, .int 0]) (n := 2) (Nat.le_of_ble_eq_true rfl)
  rw [lg_entry_eq]
  generalize (lg_sl ([.ref h0, .int 0]) ++ List.replicate (2 - (lg_sl ([.ref h0, .int 0])).length) Slot.unset).toArray = ls at hl ⊢
  have hl : lv_has ls 2 [(0, .ref h0), (1, .int 0)] := hl
  refine lv_iload_n hx hb d_H_trap_0 rfl (lv_at hl 1 rfl) ?_
  refine lv_if_lt (tgt := 16) hx hb d_H_trap_1 rfl (fun h9 => absurd h9 (by decide)) (fun _ => ?_)
  refine lv_iload_n hx hb d_H_trap_4 rfl (lv_at hl 1 rfl) ?_
  refine lv_aload_n hx hb d_H_trap_5 rfl (lv_at hl 0 rfl) ?_
  refine va_get (D := D) (ci := 0) (v := .ref mm) (C := R_H) (T := F_H) (N := 11) hx hb hts fin_H hown hK hP 0 rfl rfl 7 (by decide) (hts _ m_ab10058e) (fun _ h9 => h9) rfl d_H_trap_6 ?_
  refine va_get (D := D) (ci := 7) (v := .ref lt) (C := R_Machine) (T := F_Machine) (N := 18) hx hb hts fin_Machine hown hK hP 1 rfl rfl 6 (by decide) (hts _ m_33f06862) (fun _ h9 => h9) rfl d_H_trap_9 ?_
  refine va_alen (v := 4) hx hb hK hP 2 0 rfl rfl (show Int32.ofNat 4 = 4 from by decide +kernel) d_H_trap_12 ?_
  refine lv_icmp_lt (tgt := 27) hx hb d_H_trap_13 rfl (fun _ => ?_) (fun h9 => absurd h9 (by decide))
  refine lv_aload_n hx hb d_H_trap_27 rfl (lv_at hl 0 rfl) ?_
  refine va_get (D := D) (ci := 0) (v := .ref mm) (C := R_H) (T := F_H) (N := 11) hx hb hts fin_H hown hK hP 0 rfl rfl 7 (by decide) (hts _ m_ab10058e) (fun _ h9 => h9) rfl d_H_trap_28 ?_
  refine va_get (D := D) (ci := 7) (v := .ref lt) (C := R_Machine) (T := F_Machine) (N := 18) hx hb hts fin_Machine hown hK hP 1 rfl rfl 6 (by decide) (hts _ m_33f06862) (fun _ h9 => h9) rfl d_H_trap_31 ?_
  refine lv_iload_n hx hb d_H_trap_34 rfl (lv_at hl 1 rfl) ?_
  refine va_iald (i := 0) hx hb hK hP 2 0 rfl rfl (xt_vin (by decide +kernel)) d_H_trap_35 ?_
  refine xt_numi (y := 0) (by decide +kernel) ?_
  refine W.widen (k := 0) (n := 0) (by decide) (by decide) ?_
  refine xt_mono xt_ofMQ ?_
  exact W.iret hx hb hr (fun t ht hW => ⟨(fun _ => 0), Or.inl ⟨_, rfl, rfl⟩, by rw [ht]; exact hP.sub [0, 1, 2] rfl, va_K.moved hW.alike (hK.sub [0] rfl), hD.sub [0, 1, 2] (by decide) rfl, hS.F ht⟩) hS.2.2 d_H_trap_36 hlocks

set_option maxHeartbeats 4000000 in
set_option maxRecDepth 100000 in
theorem c_H_trap_1 (l : Launch) (D : va_G) (h0 mm lt kt : Nat) (a0 a1 a2 a3 a4 a5 a6 a8 a9 a10 : Value) (b0 b1 b2 b3 b4 b5 b7 b8 b9 b10 b11 b12 b13 b14 b15 b16 b17 : Value) (sz : Nat) : xt_Met l y_H_trap [.code y_H_trap b_H_trap 2 (some .int)] ({ frames := 8, cells := 0, slots := 0, locals := 120 }) (xt_P D xcl [.ref h0, .int 1] [(h0, .inr (0, [a0, a1, a2, a3, a4, a5, a6, .ref mm, a8, a9, a10])), (mm, .inr (7, [b0, b1, b2, b3, b4, b5, .ref lt, b7, b8, b9, b10, b11, b12, b13, b14, b15, b16, b17])), (lt, .inl (kt, 4, .inl (upd (upd (upd (upd (fun _ => 0) (0 : Int32).toNatClampNeg 0) (1 : Int32).toNatClampNeg (-1)) (2 : Int32).toNatClampNeg (-1)) (3 : Int32).toNatClampNeg (-1))))] [(kt, .int)] sz) (xt_Q (S := Nat → Nat) D xcl (va_A [(h0, .inr (0, [a0, a1, a2, a3, a4, a5, a6, .ref mm, a8, a9, a10])), (mm, .inr (7, [b0, b1, b2, b3, b4, b5, .ref lt, b7, b8, b9, b10, b11, b12, b13, b14, b15, b16, b17])), (lt, .inl (kt, 4, .inl (upd (upd (upd (upd (fun _ => 0) (0 : Int32).toNatClampNeg 0) (1 : Int32).toNatClampNeg (-1)) (2 : Int32).toNatClampNeg (-1)) (3 : Int32).toNatClampNeg (-1))))] sz) (fun v u => v = some (.int (-1))) (fun _ _ => False) (fun u => [(h0, .inr (0, [a0, a1, a2, a3, a4, a5, a6, .ref mm, a8, a9, a10])), (mm, .inr (7, [b0, b1, b2, b3, b4, b5, .ref lt, b7, b8, b9, b10, b11, b12, b13, b14, b15, b16, b17])), (lt, .inl (kt, 4, .inl (upd (upd (upd (upd (fun _ => 0) (0 : Int32).toNatClampNeg 0) (1 : Int32).toNatClampNeg (-1)) (2 : Int32).toNatClampNeg (-1)) (3 : Int32).toNatClampNeg (-1))))]) (fun u => [(kt, .int)])) 0 0 (va_A [(h0, .inr (0, [a0, a1, a2, a3, a4, a5, a6, .ref mm, a8, a9, a10])), (mm, .inr (7, [b0, b1, b2, b3, b4, b5, .ref lt, b7, b8, b9, b10, b11, b12, b13, b14, b15, b16, b17])), (lt, .inl (kt, 4, .inl (upd (upd (upd (upd (fun _ => 0) (0 : Int32).toNatClampNeg 0) (1 : Int32).toNatClampNeg (-1)) (2 : Int32).toNatClampNeg (-1)) (3 : Int32).toNatClampNeg (-1))))] sz) := by
  refine xt_ofW (cc := b_H_trap) (maxL := 2) (ret := (some .int)) (by decide) (List.mem_singleton.mpr rfl) ?_
  intro p e s m args below meth c s₁ B hml htab hv
  obtain ⟨rfl, hsz, hB, hP, hK, hD0⟩ := hv
  subst hsz
  have hx := B.exec
  have hb := B.bytes
  have hr := B.returns
  have hts := hB.1.at ([.ref h0, .int 1] : List Value).toArray
  have hown : s.vm.findClass "StackHost" = some m.cls := findClass_of_methodNamed B.named
  have hlocks := B.notSynchronized
  have hD := hD0.self (sz := s.heap.size)
  generalize hAe : va_A [(h0, .inr (0, [a0, a1, a2, a3, a4, a5, a6, .ref mm, a8, a9, a10])), (mm, .inr (7, [b0, b1, b2, b3, b4, b5, .ref lt, b7, b8, b9, b10, b11, b12, b13, b14, b15, b16, b17])), (lt, .inl (kt, 4, .inl (upd (upd (upd (upd (fun _ => 0) (0 : Int32).toNatClampNeg 0) (1 : Int32).toNatClampNeg (-1)) (2 : Int32).toNatClampNeg (-1)) (3 : Int32).toNatClampNeg (-1))))] s.heap.size = A at hB hD ⊢
  have hA : ∀ q : Nat, s.heap.size ≤ q → A q := fun q h => by rw [← hAe]; exact Or.inr h
  have hS : va_S A s.heap s.heap [] := va_S.rf
  have hl := lv_entry ([.ref h0, .int 1]) (n := 2) (Nat.le_of_ble_eq_true rfl)
  rw [lg_entry_eq]
  generalize (lg_sl ([.ref h0, .int 1]) ++ List.replicate (2 - (lg_sl ([.ref h0, .int 1])).length) Slot.unset).toArray = ls at hl ⊢
  have hl : lv_has ls 2 [(0, .ref h0), (1, .int 1)] := hl
  refine lv_iload_n hx hb d_H_trap_0 rfl (lv_at hl 1 rfl) ?_
  refine lv_if_lt (tgt := 16) hx hb d_H_trap_1 rfl (fun h9 => absurd h9 (by decide)) (fun _ => ?_)
  refine lv_iload_n hx hb d_H_trap_4 rfl (lv_at hl 1 rfl) ?_
  refine lv_aload_n hx hb d_H_trap_5 rfl (lv_at hl 0 rfl) ?_
  refine va_get (D := D) (ci := 0) (v := .ref mm) (C := R_H) (T := F_H) (N := 11) hx hb hts fin_H hown hK hP 0 rfl rfl 7 (by decide) (hts _ m_ab10058e) (fun _ h9 => h9) rfl d_H_trap_6 ?_
  refine va_get (D := D) (ci := 7) (v := .ref lt) (C := R_Machine) (T := F_Machine) (N := 18) hx hb hts fin_Machine hown hK hP 1 rfl rfl 6 (by decide) (hts _ m_33f06862) (fun _ h9 => h9) rfl d_H_trap_9 ?_
  refine va_alen (v := 4) hx hb hK hP 2 0 rfl rfl (show Int32.ofNat 4 = 4 from by decide +kernel) d_H_trap_12 ?_
  refine lv_icmp_lt (tgt := 27) hx hb d_H_trap_13 rfl (fun _ => ?_) (fun h9 => absurd h9 (by decide))
  refine lv_aload_n hx hb d_H_trap_27 rfl (lv_at hl 0 rfl) ?_
  refine va_get (D := D) (ci := 0) (v := .ref mm) (C := R_H) (T := F_H) (N := 11) hx hb hts fin_H hown hK hP 0 rfl rfl 7 (by decide) (hts _ m_ab10058e) (fun _ h9 => h9) rfl d_H_trap_28 ?_
  refine va_get (D := D) (ci := 7) (v := .ref lt) (C := R_Machine) (T := F_Machine) (N := 18) hx hb hts fin_Machine hown hK hP 1 rfl rfl 6 (by decide) (hts _ m_33f06862) (fun _ h9 => h9) rfl d_H_trap_31 ?_
  refine lv_iload_n hx hb d_H_trap_34 rfl (lv_at hl 1 rfl) ?_
  refine va_iald (i := 1) hx hb hK hP 2 0 rfl rfl (xt_vin (by decide +kernel)) d_H_trap_35 ?_
  refine xt_numi (y := (-1)) (by decide +kernel) ?_
  refine W.widen (k := 0) (n := 0) (by decide) (by decide) ?_
  refine xt_mono xt_ofMQ ?_
  exact W.iret hx hb hr (fun t ht hW => ⟨(fun _ => 0), Or.inl ⟨_, rfl, rfl⟩, by rw [ht]; exact hP.sub [0, 1, 2] rfl, va_K.moved hW.alike (hK.sub [0] rfl), hD.sub [0, 1, 2] (by decide) rfl, hS.F ht⟩) hS.2.2 d_H_trap_36 hlocks

set_option maxHeartbeats 4000000 in
set_option maxRecDepth 100000 in
theorem c_H_trap_2 (l : Launch) (D : va_G) (h0 mm lt kt : Nat) (a0 a1 a2 a3 a4 a5 a6 a8 a9 a10 : Value) (b0 b1 b2 b3 b4 b5 b7 b8 b9 b10 b11 b12 b13 b14 b15 b16 b17 : Value) (sz : Nat) : xt_Met l y_H_trap [.code y_H_trap b_H_trap 2 (some .int)] ({ frames := 8, cells := 0, slots := 0, locals := 120 }) (xt_P D xcl [.ref h0, .int 2] [(h0, .inr (0, [a0, a1, a2, a3, a4, a5, a6, .ref mm, a8, a9, a10])), (mm, .inr (7, [b0, b1, b2, b3, b4, b5, .ref lt, b7, b8, b9, b10, b11, b12, b13, b14, b15, b16, b17])), (lt, .inl (kt, 4, .inl (upd (upd (upd (upd (fun _ => 0) (0 : Int32).toNatClampNeg 0) (1 : Int32).toNatClampNeg (-1)) (2 : Int32).toNatClampNeg (-1)) (3 : Int32).toNatClampNeg (-1))))] [(kt, .int)] sz) (xt_Q (S := Nat → Nat) D xcl (va_A [(h0, .inr (0, [a0, a1, a2, a3, a4, a5, a6, .ref mm, a8, a9, a10])), (mm, .inr (7, [b0, b1, b2, b3, b4, b5, .ref lt, b7, b8, b9, b10, b11, b12, b13, b14, b15, b16, b17])), (lt, .inl (kt, 4, .inl (upd (upd (upd (upd (fun _ => 0) (0 : Int32).toNatClampNeg 0) (1 : Int32).toNatClampNeg (-1)) (2 : Int32).toNatClampNeg (-1)) (3 : Int32).toNatClampNeg (-1))))] sz) (fun v u => v = some (.int (-1))) (fun _ _ => False) (fun u => [(h0, .inr (0, [a0, a1, a2, a3, a4, a5, a6, .ref mm, a8, a9, a10])), (mm, .inr (7, [b0, b1, b2, b3, b4, b5, .ref lt, b7, b8, b9, b10, b11, b12, b13, b14, b15, b16, b17])), (lt, .inl (kt, 4, .inl (upd (upd (upd (upd (fun _ => 0) (0 : Int32).toNatClampNeg 0) (1 : Int32).toNatClampNeg (-1)) (2 : Int32).toNatClampNeg (-1)) (3 : Int32).toNatClampNeg (-1))))]) (fun u => [(kt, .int)])) 0 0 (va_A [(h0, .inr (0, [a0, a1, a2, a3, a4, a5, a6, .ref mm, a8, a9, a10])), (mm, .inr (7, [b0, b1, b2, b3, b4, b5, .ref lt, b7, b8, b9, b10, b11, b12, b13, b14, b15, b16, b17])), (lt, .inl (kt, 4, .inl (upd (upd (upd (upd (fun _ => 0) (0 : Int32).toNatClampNeg 0) (1 : Int32).toNatClampNeg (-1)) (2 : Int32).toNatClampNeg (-1)) (3 : Int32).toNatClampNeg (-1))))] sz) := by
  refine xt_ofW (cc := b_H_trap) (maxL := 2) (ret := (some .int)) (by decide) (List.mem_singleton.mpr rfl) ?_
  intro p e s m args below meth c s₁ B hml htab hv
  obtain ⟨rfl, hsz, hB, hP, hK, hD0⟩ := hv
  subst hsz
  have hx := B.exec
  have hb := B.bytes
  have hr := B.returns
  have hts := hB.1.at ([.ref h0, .int 2] : List Value).toArray
  have hown : s.vm.findClass "StackHost" = some m.cls := findClass_of_methodNamed B.named
  have hlocks := B.notSynchronized
  have hD := hD0.self (sz := s.heap.size)
  generalize hAe : va_A [(h0, .inr (0, [a0, a1, a2, a3, a4, a5, a6, .ref mm, a8, a9, a10])), (mm, .inr (7, [b0, b1, b2, b3, b4, b5, .ref lt, b7, b8, b9, b10, b11, b12, b13, b14, b15, b16, b17])), (lt, .inl (kt, 4, .inl (upd (upd (upd (upd (fun _ => 0) (0 : Int32).toNatClampNeg 0) (1 : Int32).toNatClampNeg (-1)) (2 : Int32).toNatClampNeg (-1)) (3 : Int32).toNatClampNeg (-1))))] s.heap.size = A at hB hD ⊢
  have hA : ∀ q : Nat, s.heap.size ≤ q → A q := fun q h => by rw [← hAe]; exact Or.inr h
  have hS : va_S A s.heap s.heap [] := va_S.rf
  have hl := lv_entry ([.ref h0, .int 2]) (n := 2) (Nat.le_of_ble_eq_true rfl)
  rw [lg_entry_eq]
  generalize (lg_sl ([.ref h0, .int 2]) ++ List.replicate (2 - (lg_sl ([.ref h0, .int 2])).length) Slot.unset).toArray = ls at hl ⊢
  have hl : lv_has ls 2 [(0, .ref h0), (1, .int 2)] := hl
  refine lv_iload_n hx hb d_H_trap_0 rfl (lv_at hl 1 rfl) ?_
  refine lv_if_lt (tgt := 16) hx hb d_H_trap_1 rfl (fun h9 => absurd h9 (by decide)) (fun _ => ?_)
  refine lv_iload_n hx hb d_H_trap_4 rfl (lv_at hl 1 rfl) ?_
  refine lv_aload_n hx hb d_H_trap_5 rfl (lv_at hl 0 rfl) ?_
  refine va_get (D := D) (ci := 0) (v := .ref mm) (C := R_H) (T := F_H) (N := 11) hx hb hts fin_H hown hK hP 0 rfl rfl 7 (by decide) (hts _ m_ab10058e) (fun _ h9 => h9) rfl d_H_trap_6 ?_
  refine va_get (D := D) (ci := 7) (v := .ref lt) (C := R_Machine) (T := F_Machine) (N := 18) hx hb hts fin_Machine hown hK hP 1 rfl rfl 6 (by decide) (hts _ m_33f06862) (fun _ h9 => h9) rfl d_H_trap_9 ?_
  refine va_alen (v := 4) hx hb hK hP 2 0 rfl rfl (show Int32.ofNat 4 = 4 from by decide +kernel) d_H_trap_12 ?_
  refine lv_icmp_lt (tgt := 27) hx hb d_H_trap_13 rfl (fun _ => ?_) (fun h9 => absurd h9 (by decide))
  refine lv_aload_n hx hb d_H_trap_27 rfl (lv_at hl 0 rfl) ?_
  refine va_get (D := D) (ci := 0) (v := .ref mm) (C := R_H) (T := F_H) (N := 11) hx hb hts fin_H hown hK hP 0 rfl rfl 7 (by decide) (hts _ m_ab10058e) (fun _ h9 => h9) rfl d_H_trap_28 ?_
  refine va_get (D := D) (ci := 7) (v := .ref lt) (C := R_Machine) (T := F_Machine) (N := 18) hx hb hts fin_Machine hown hK hP 1 rfl rfl 6 (by decide) (hts _ m_33f06862) (fun _ h9 => h9) rfl d_H_trap_31 ?_
  refine lv_iload_n hx hb d_H_trap_34 rfl (lv_at hl 1 rfl) ?_
  refine va_iald (i := 2) hx hb hK hP 2 0 rfl rfl (xt_vin (by decide +kernel)) d_H_trap_35 ?_
  refine xt_numi (y := (-1)) (by decide +kernel) ?_
  refine W.widen (k := 0) (n := 0) (by decide) (by decide) ?_
  refine xt_mono xt_ofMQ ?_
  exact W.iret hx hb hr (fun t ht hW => ⟨(fun _ => 0), Or.inl ⟨_, rfl, rfl⟩, by rw [ht]; exact hP.sub [0, 1, 2] rfl, va_K.moved hW.alike (hK.sub [0] rfl), hD.sub [0, 1, 2] (by decide) rfl, hS.F ht⟩) hS.2.2 d_H_trap_36 hlocks

set_option maxHeartbeats 4000000 in
set_option maxRecDepth 100000 in
theorem c_H_trap_3 (l : Launch) (D : va_G) (h0 mm lt kt : Nat) (a0 a1 a2 a3 a4 a5 a6 a8 a9 a10 : Value) (b0 b1 b2 b3 b4 b5 b7 b8 b9 b10 b11 b12 b13 b14 b15 b16 b17 : Value) (sz : Nat) : xt_Met l y_H_trap [.code y_H_trap b_H_trap 2 (some .int)] ({ frames := 8, cells := 0, slots := 0, locals := 120 }) (xt_P D xcl [.ref h0, .int 3] [(h0, .inr (0, [a0, a1, a2, a3, a4, a5, a6, .ref mm, a8, a9, a10])), (mm, .inr (7, [b0, b1, b2, b3, b4, b5, .ref lt, b7, b8, b9, b10, b11, b12, b13, b14, b15, b16, b17])), (lt, .inl (kt, 4, .inl (upd (upd (upd (upd (fun _ => 0) (0 : Int32).toNatClampNeg 0) (1 : Int32).toNatClampNeg (-1)) (2 : Int32).toNatClampNeg (-1)) (3 : Int32).toNatClampNeg (-1))))] [(kt, .int)] sz) (xt_Q (S := Nat → Nat) D xcl (va_A [(h0, .inr (0, [a0, a1, a2, a3, a4, a5, a6, .ref mm, a8, a9, a10])), (mm, .inr (7, [b0, b1, b2, b3, b4, b5, .ref lt, b7, b8, b9, b10, b11, b12, b13, b14, b15, b16, b17])), (lt, .inl (kt, 4, .inl (upd (upd (upd (upd (fun _ => 0) (0 : Int32).toNatClampNeg 0) (1 : Int32).toNatClampNeg (-1)) (2 : Int32).toNatClampNeg (-1)) (3 : Int32).toNatClampNeg (-1))))] sz) (fun v u => v = some (.int (-1))) (fun _ _ => False) (fun u => [(h0, .inr (0, [a0, a1, a2, a3, a4, a5, a6, .ref mm, a8, a9, a10])), (mm, .inr (7, [b0, b1, b2, b3, b4, b5, .ref lt, b7, b8, b9, b10, b11, b12, b13, b14, b15, b16, b17])), (lt, .inl (kt, 4, .inl (upd (upd (upd (upd (fun _ => 0) (0 : Int32).toNatClampNeg 0) (1 : Int32).toNatClampNeg (-1)) (2 : Int32).toNatClampNeg (-1)) (3 : Int32).toNatClampNeg (-1))))]) (fun u => [(kt, .int)])) 0 0 (va_A [(h0, .inr (0, [a0, a1, a2, a3, a4, a5, a6, .ref mm, a8, a9, a10])), (mm, .inr (7, [b0, b1, b2, b3, b4, b5, .ref lt, b7, b8, b9, b10, b11, b12, b13, b14, b15, b16, b17])), (lt, .inl (kt, 4, .inl (upd (upd (upd (upd (fun _ => 0) (0 : Int32).toNatClampNeg 0) (1 : Int32).toNatClampNeg (-1)) (2 : Int32).toNatClampNeg (-1)) (3 : Int32).toNatClampNeg (-1))))] sz) := by
  refine xt_ofW (cc := b_H_trap) (maxL := 2) (ret := (some .int)) (by decide) (List.mem_singleton.mpr rfl) ?_
  intro p e s m args below meth c s₁ B hml htab hv
  obtain ⟨rfl, hsz, hB, hP, hK, hD0⟩ := hv
  subst hsz
  have hx := B.exec
  have hb := B.bytes
  have hr := B.returns
  have hts := hB.1.at ([.ref h0, .int 3] : List Value).toArray
  have hown : s.vm.findClass "StackHost" = some m.cls := findClass_of_methodNamed B.named
  have hlocks := B.notSynchronized
  have hD := hD0.self (sz := s.heap.size)
  generalize hAe : va_A [(h0, .inr (0, [a0, a1, a2, a3, a4, a5, a6, .ref mm, a8, a9, a10])), (mm, .inr (7, [b0, b1, b2, b3, b4, b5, .ref lt, b7, b8, b9, b10, b11, b12, b13, b14, b15, b16, b17])), (lt, .inl (kt, 4, .inl (upd (upd (upd (upd (fun _ => 0) (0 : Int32).toNatClampNeg 0) (1 : Int32).toNatClampNeg (-1)) (2 : Int32).toNatClampNeg (-1)) (3 : Int32).toNatClampNeg (-1))))] s.heap.size = A at hB hD ⊢
  have hA : ∀ q : Nat, s.heap.size ≤ q → A q := fun q h => by rw [← hAe]; exact Or.inr h
  have hS : va_S A s.heap s.heap [] := va_S.rf
  have hl := lv_entry ([.ref h0, .int 3]) (n := 2) (Nat.le_of_ble_eq_true rfl)
  rw [lg_entry_eq]
  generalize (lg_sl ([.ref h0, .int 3]) ++ List.replicate (2 - (lg_sl ([.ref h0, .int 3])).length) Slot.unset).toArray = ls at hl ⊢
  have hl : lv_has ls 2 [(0, .ref h0), (1, .int 3)] := hl
  refine lv_iload_n hx hb d_H_trap_0 rfl (lv_at hl 1 rfl) ?_
  refine lv_if_lt (tgt := 16) hx hb d_H_trap_1 rfl (fun h9 => absurd h9 (by decide)) (fun _ => ?_)
  refine lv_iload_n hx hb d_H_trap_4 rfl (lv_at hl 1 rfl) ?_
  refine lv_aload_n hx hb d_H_trap_5 rfl (lv_at hl 0 rfl) ?_
  refine va_get (D := D) (ci := 0) (v := .ref mm) (C := R_H) (T := F_H) (N := 11) hx hb hts fin_H hown hK hP 0 rfl rfl 7 (by decide) (hts _ m_ab10058e) (fun _ h9 => h9) rfl d_H_trap_6 ?_
  refine va_get (D := D) (ci := 7) (v := .ref lt) (C := R_Machine) (T := F_Machine) (N := 18) hx hb hts fin_Machine hown hK hP 1 rfl rfl 6 (by decide) (hts _ m_33f06862) (fun _ h9 => h9) rfl d_H_trap_9 ?_
  refine va_alen (v := 4) hx hb hK hP 2 0 rfl rfl (show Int32.ofNat 4 = 4 from by decide +kernel) d_H_trap_12 ?_
  refine lv_icmp_lt (tgt := 27) hx hb d_H_trap_13 rfl (fun _ => ?_) (fun h9 => absurd h9 (by decide))
  refine lv_aload_n hx hb d_H_trap_27 rfl (lv_at hl 0 rfl) ?_
  refine va_get (D := D) (ci := 0) (v := .ref mm) (C := R_H) (T := F_H) (N := 11) hx hb hts fin_H hown hK hP 0 rfl rfl 7 (by decide) (hts _ m_ab10058e) (fun _ h9 => h9) rfl d_H_trap_28 ?_
  refine va_get (D := D) (ci := 7) (v := .ref lt) (C := R_Machine) (T := F_Machine) (N := 18) hx hb hts fin_Machine hown hK hP 1 rfl rfl 6 (by decide) (hts _ m_33f06862) (fun _ h9 => h9) rfl d_H_trap_31 ?_
  refine lv_iload_n hx hb d_H_trap_34 rfl (lv_at hl 1 rfl) ?_
  refine va_iald (i := 3) hx hb hK hP 2 0 rfl rfl (xt_vin (by decide +kernel)) d_H_trap_35 ?_
  refine xt_numi (y := (-1)) (by decide +kernel) ?_
  refine W.widen (k := 0) (n := 0) (by decide) (by decide) ?_
  refine xt_mono xt_ofMQ ?_
  exact W.iret hx hb hr (fun t ht hW => ⟨(fun _ => 0), Or.inl ⟨_, rfl, rfl⟩, by rw [ht]; exact hP.sub [0, 1, 2] rfl, va_K.moved hW.alike (hK.sub [0] rfl), hD.sub [0, 1, 2] (by decide) rfl, hS.F ht⟩) hS.2.2 d_H_trap_36 hlocks

set_option maxHeartbeats 4000000 in
set_option maxRecDepth 100000 in
theorem c_H_trap_t (l : Launch) (hfl : l.flags = pinnedFlags ++ [noTraceFlag]) (D : va_G) (h0 mm lt kt : Nat) (w : Int32) (a0 a1 a2 a3 a4 a5 a6 a8 a9 a10 : Value) (b0 b1 b2 b3 b4 b5 b7 b8 b9 b10 b11 b12 b13 b14 b15 b16 b17 : Value) (sz : Nat) (hw : w < 0 ∨ 3 < w) : xt_Met l y_H_trap [.code y_H_trap b_H_trap 2 (some .int)] ({ frames := 8, cells := 1, slots := 6, locals := 120 }) (xt_P D xcl [.ref h0, .int w] [(h0, .inr (0, [a0, a1, a2, a3, a4, a5, a6, .ref mm, a8, a9, a10])), (mm, .inr (7, [b0, b1, b2, b3, b4, b5, .ref lt, b7, b8, b9, b10, b11, b12, b13, b14, b15, b16, b17])), (lt, .inl (kt, 4, .inl (upd (upd (upd (upd (fun _ => 0) (0 : Int32).toNatClampNeg 0) (1 : Int32).toNatClampNeg (-1)) (2 : Int32).toNatClampNeg (-1)) (3 : Int32).toNatClampNeg (-1))))] [(kt, .int)] sz) (xt_Q (S := Nat → Nat) D xcl (va_A [(h0, .inr (0, [a0, a1, a2, a3, a4, a5, a6, .ref mm, a8, a9, a10])), (mm, .inr (7, [b0, b1, b2, b3, b4, b5, .ref lt, b7, b8, b9, b10, b11, b12, b13, b14, b15, b16, b17])), (lt, .inl (kt, 4, .inl (upd (upd (upd (upd (fun _ => 0) (0 : Int32).toNatClampNeg 0) (1 : Int32).toNatClampNeg (-1)) (2 : Int32).toNatClampNeg (-1)) (3 : Int32).toNatClampNeg (-1))))] sz) (fun _ _ => False) (fun X _ => X = "java/lang/IndexOutOfBoundsException") (fun u => [(h0, .inr (0, [a0, a1, a2, a3, a4, a5, a6, .ref mm, a8, a9, a10])), (mm, .inr (7, [b0, b1, b2, b3, b4, b5, .ref lt, b7, b8, b9, b10, b11, b12, b13, b14, b15, b16, b17])), (lt, .inl (kt, 4, .inl (upd (upd (upd (upd (fun _ => 0) (0 : Int32).toNatClampNeg 0) (1 : Int32).toNatClampNeg (-1)) (2 : Int32).toNatClampNeg (-1)) (3 : Int32).toNatClampNeg (-1))))]) (fun u => [(kt, .int)])) 1 6 (va_A [(h0, .inr (0, [a0, a1, a2, a3, a4, a5, a6, .ref mm, a8, a9, a10])), (mm, .inr (7, [b0, b1, b2, b3, b4, b5, .ref lt, b7, b8, b9, b10, b11, b12, b13, b14, b15, b16, b17])), (lt, .inl (kt, 4, .inl (upd (upd (upd (upd (fun _ => 0) (0 : Int32).toNatClampNeg 0) (1 : Int32).toNatClampNeg (-1)) (2 : Int32).toNatClampNeg (-1)) (3 : Int32).toNatClampNeg (-1))))] sz) := by
  refine xt_ofW (cc := b_H_trap) (maxL := 2) (ret := (some .int)) (by decide) (List.mem_singleton.mpr rfl) ?_
  intro p e s m args below meth c s₁ B hml htab hv
  obtain ⟨rfl, hsz, hB, hP, hK, hD0⟩ := hv
  subst hsz
  have hx := B.exec
  have hb := B.bytes
  have hr := B.returns
  have hts := hB.1.at ([.ref h0, .int w] : List Value).toArray
  have hown : s.vm.findClass "StackHost" = some m.cls := findClass_of_methodNamed B.named
  have hlocks := B.notSynchronized
  have hD := hD0.self (sz := s.heap.size)
  generalize hAe : va_A [(h0, .inr (0, [a0, a1, a2, a3, a4, a5, a6, .ref mm, a8, a9, a10])), (mm, .inr (7, [b0, b1, b2, b3, b4, b5, .ref lt, b7, b8, b9, b10, b11, b12, b13, b14, b15, b16, b17])), (lt, .inl (kt, 4, .inl (upd (upd (upd (upd (fun _ => 0) (0 : Int32).toNatClampNeg 0) (1 : Int32).toNatClampNeg (-1)) (2 : Int32).toNatClampNeg (-1)) (3 : Int32).toNatClampNeg (-1))))] s.heap.size = A at hB hD ⊢
  have hA : ∀ q : Nat, s.heap.size ≤ q → A q := fun q h => by rw [← hAe]; exact Or.inr h
  have hS : va_S A s.heap s.heap [] := va_S.rf
  have hl := lv_entry ([.ref h0, .int w]) (n := 2) (Nat.le_of_ble_eq_true rfl)
  rw [lg_entry_eq]
  generalize (lg_sl ([.ref h0, .int w]) ++ List.replicate (2 - (lg_sl ([.ref h0, .int w])).length) Slot.unset).toArray = ls at hl ⊢
  have hl : lv_has ls 2 [(0, .ref h0), (1, .int w)] := hl
  refine lv_iload_n hx hb d_H_trap_0 rfl (lv_at hl 1 rfl) ?_
  refine lv_if_lt (tgt := 16) hx hb d_H_trap_1 rfl (fun h1 => ?_) (fun h1 => ?_)
  · refine W.widen (k := 0) (n := 0) (by decide) (by decide) ?_
    exact xt_throw (names := ["java/lang/RuntimeException", "java/lang/Exception"]) hx hb (hml.trans hl.1.symm) hlocks hfl hown xsite_1fa5ae hB hS (by decide) (by decide) (by decide) (Nat.le_of_ble_eq_true rfl) htab d_H_trap_16 d_H_trap_19 (xt_l3) d_H_trap_20 d_H_trap_23 d_H_trap_26 hP hD hK (fun _ => 0) rfl rfl rfl
  · refine lv_iload_n hx hb d_H_trap_4 rfl (lv_at hl 1 rfl) ?_
    refine lv_aload_n hx hb d_H_trap_5 rfl (lv_at hl 0 rfl) ?_
    refine va_get (D := D) (ci := 0) (v := .ref mm) (C := R_H) (T := F_H) (N := 11) hx hb hts fin_H hown hK hP 0 rfl rfl 7 (by decide) (hts _ m_ab10058e) (fun _ h9 => h9) rfl d_H_trap_6 ?_
    refine va_get (D := D) (ci := 7) (v := .ref lt) (C := R_Machine) (T := F_Machine) (N := 18) hx hb hts fin_Machine hown hK hP 1 rfl rfl 6 (by decide) (hts _ m_33f06862) (fun _ h9 => h9) rfl d_H_trap_9 ?_
    refine va_alen (v := 4) hx hb hK hP 2 0 rfl rfl (show Int32.ofNat 4 = 4 from by decide +kernel) d_H_trap_12 ?_
    refine lv_icmp_lt (tgt := 27) hx hb d_H_trap_13 rfl (fun h9 => absurd h9 (by rcases hw with hw | hw; exact absurd hw ‹¬ w < 0›; exact xt_lt4 hw)) (fun _ => ?_)
    refine W.widen (k := 0) (n := 0) (by decide) (by decide) ?_
    exact xt_throw (names := ["java/lang/RuntimeException", "java/lang/Exception"]) hx hb (hml.trans hl.1.symm) hlocks hfl hown xsite_1fa5ae hB hS (by decide) (by decide) (by decide) (Nat.le_of_ble_eq_true rfl) htab d_H_trap_16 d_H_trap_19 (xt_l3) d_H_trap_20 d_H_trap_23 d_H_trap_26 hP hD hK (fun _ => 0) rfl rfl rfl

set_option maxHeartbeats 4000000 in
set_option maxRecDepth 100000 in
theorem c_Row_makeRoom (l : Launch) (D : va_G) (ro it ki : Nat) (f : Nat → Int64) (c2 : Value) (sz : Nat) : xt_Met l y_Row_makeRoom [.code y_Row_makeRoom b_Row_makeRoom 2 none] ({ frames := 8, cells := 0, slots := 0, locals := 120 }) (xt_P D xcl [.ref ro, .int 1] [(ro, .inr (1, [.ref it, .int 0, c2])), (it, .inl (ki, 4, .inr (.inl f)))] [(ki, .long)] sz) (xt_Q (S := Nat → Nat) D xcl (va_A [(ro, .inr (1, [.ref it, .int 0, c2])), (it, .inl (ki, 4, .inr (.inl f)))] sz) (fun v _ => v = none) (fun _ _ => False) (fun u => [(ro, .inr (1, [.ref it, .int 0, c2])), (it, .inl (ki, 4, .inr (.inl f)))]) (fun u => [(ki, .long)])) 0 0 (va_A [(ro, .inr (1, [.ref it, .int 0, c2])), (it, .inl (ki, 4, .inr (.inl f)))] sz) := by
  refine xt_ofW (cc := b_Row_makeRoom) (maxL := 2) (ret := none) (by decide) (List.mem_singleton.mpr rfl) ?_
  intro p e s m args below meth c s₁ B hml htab hv
  obtain ⟨rfl, hsz, hB, hP, hK, hD0⟩ := hv
  subst hsz
  have hx := B.exec
  have hb := B.bytes
  have hr := B.returns
  have hts := hB.1.at ([.ref ro, .int 1] : List Value).toArray
  have hown : s.vm.findClass "StackHost$Row" = some m.cls := findClass_of_methodNamed B.named
  have hlocks := B.notSynchronized
  have hD := hD0.self (sz := s.heap.size)
  generalize hAe : va_A [(ro, .inr (1, [.ref it, .int 0, c2])), (it, .inl (ki, 4, .inr (.inl f)))] s.heap.size = A at hB hD ⊢
  have hA : ∀ q : Nat, s.heap.size ≤ q → A q := fun q h => by rw [← hAe]; exact Or.inr h
  have hS : va_S A s.heap s.heap [] := va_S.rf
  have hl := lv_entry ([.ref ro, .int 1]) (n := 2) (Nat.le_of_ble_eq_true rfl)
  rw [lg_entry_eq]
  generalize (lg_sl ([.ref ro, .int 1]) ++ List.replicate (2 - (lg_sl ([.ref ro, .int 1])).length) Slot.unset).toArray = ls at hl ⊢
  have hl : lv_has ls 2 [(0, .ref ro), (1, .int 1)] := hl
  refine lv_iload_n hx hb d_Row_makeRoom_0 rfl (lv_at hl 1 rfl) ?_
  refine lv_aload_n hx hb d_Row_makeRoom_1 rfl (lv_at hl 0 rfl) ?_
  refine va_get (D := D) (ci := 1) (v := .ref it) (C := R_Row) (T := F_Row) (N := 3) hx hb hts fin_Row hown hK hP 0 rfl rfl 0 (by decide) (hts _ m_8e18d96c) (fun _ h9 => h9) rfl d_Row_makeRoom_2 ?_
  refine va_alen (v := 4) hx hb hK hP 1 0 rfl rfl (show Int32.ofNat 4 = 4 from by decide +kernel) d_Row_makeRoom_5 ?_
  refine lv_icmp_le (tgt := 31) hx hb d_Row_makeRoom_6 rfl (fun _ => ?_) (fun h9 => absurd h9 (by decide))
  refine W.widen (k := 0) (n := 0) (by decide) (by decide) ?_
  refine xt_mono xt_ofMQ ?_
  exact W.vret hx hb hr (fun t ht hW => ⟨(fun _ => 0), Or.inl ⟨_, rfl, rfl⟩, by rw [ht]; exact hP.sub [0, 1] rfl, va_K.moved hW.alike (hK.sub [0] rfl), hD.sub [0, 1] (by decide) rfl, hS.F ht⟩) hS.2.2 d_Row_makeRoom_31 hlocks

set_option maxHeartbeats 4000000 in
set_option maxRecDepth 100000 in
theorem c_Row_add (l : Launch) (D : va_G) (ro it ki : Nat) (f : Nat → Int64) (x : Int64) (c2 : Value) (sz : Nat) : xt_Met l y_Row_add [.code y_Row_add b_Row_add 3 none] ({ frames := 9, cells := 0, slots := 0, locals := 220 }) (xt_P D xcl [.ref ro, .long x] [(ro, .inr (1, [.ref it, .int 0, c2])), (it, .inl (ki, 4, .inr (.inl f)))] [(ki, .long)] sz) (xt_Q (S := Nat → Nat) D xcl (va_A [(ro, .inr (1, [.ref it, .int 0, c2])), (it, .inl (ki, 4, .inr (.inl f)))] sz) (fun v _ => v = none) (fun _ _ => False) (fun u => [(ro, .inr (1, [.ref it, .int 1, c2])), (it, .inl (ki, 4, .inr (.inl (vp_updL f (0 : Int32).toNatClampNeg x))))]) (fun u => [(ki, .long)])) 0 0 (va_A [(ro, .inr (1, [.ref it, .int 0, c2])), (it, .inl (ki, 4, .inr (.inl f)))] sz) := by
  refine xt_ofW (cc := b_Row_add) (maxL := 3) (ret := none) (by decide) (List.mem_singleton.mpr rfl) ?_
  intro p e s m args below meth c s₁ B hml htab hv
  obtain ⟨rfl, hsz, hB, hP, hK, hD0⟩ := hv
  subst hsz
  have hx := B.exec
  have hb := B.bytes
  have hr := B.returns
  have hts := hB.1.at ([.ref ro, .long x] : List Value).toArray
  have hown : s.vm.findClass "StackHost$Row" = some m.cls := findClass_of_methodNamed B.named
  have hlocks := B.notSynchronized
  have hD := hD0.self (sz := s.heap.size)
  generalize hAe : va_A [(ro, .inr (1, [.ref it, .int 0, c2])), (it, .inl (ki, 4, .inr (.inl f)))] s.heap.size = A at hB hD ⊢
  have hA : ∀ q : Nat, s.heap.size ≤ q → A q := fun q h => by rw [← hAe]; exact Or.inr h
  have hS : va_S A s.heap s.heap [] := va_S.rf
  have hl := lv_entry ([.ref ro, .long x]) (n := 3) (Nat.le_of_ble_eq_true rfl)
  rw [lg_entry_eq]
  generalize (lg_sl ([.ref ro, .long x]) ++ List.replicate (3 - (lg_sl ([.ref ro, .long x])).length) Slot.unset).toArray = ls at hl ⊢
  have hl : lv_has ls 3 [(0, .ref ro), (1, .long x)] := hl
  refine lv_aload_n hx hb d_Row_add_0 rfl (lv_at hl 0 rfl) ?_
  refine lv_aload_n hx hb d_Row_add_1 rfl (lv_at hl 0 rfl) ?_
  refine va_get (D := D) (ci := 1) (v := .int 0) (C := R_Row) (T := F_Row) (N := 3) hx hb hts fin_Row hown hK hP 0 rfl rfl 1 (by decide) (hts _ m_2c4f5cfd) (fun _ h9 => h9) rfl d_Row_add_2 ?_
  refine lv_iconst (v := 1) hx hb d_Row_add_5 (by decide) ?_
  refine lv_iadd hx hb d_Row_add_6 ?_
  refine xt_numi (y := 1) (by decide) ?_
  refine xt_call (D := D) (cl := xcl) (wr := []) (fun T hT X => by
    obtain ⟨cb, r1, r2, r3⟩ := va_recv hK hP (ci := 1) (q0 := 0) rfl rfl
    exact xt_invV X hx hown (hts _ m_cbb6e9b1) (hts _ m_624132aa) (hts _ m_74be88f7) (xt_sigOf (hts _ m_8b494096)) nm_Row_makeRoom (by rw [hT]; exact r1) r2 r3 (g := F0 m 7 ls [.int 1, .ref ro]) rfl (argsL := [.int 1]) (rest := []) rfl rfl (by rw [hb]; exact d_Row_add_7)) (c_Row_makeRoom l D ro it ki f (c2) s.heap.size) (hml.trans hl.1.symm) (by rw [hb]; exact d_Row_add_7) (Nat.le_of_ble_eq_true rfl) rfl rfl (by decide) (by decide) (by decide) (by decide) (xt_w1 hB m_8b494096) (xt_cdOf hB m_8b494096) (hts _ m_c1bef504) hB hK hP hD hS hA [0, 1] [] [0] rfl rfl rfl (by decide) (by decide) (by decide) (fun v2 u1 H locs hp hP hD hK hS => ?_) (fun XX9 ax9 u1 H locs hp hex hP hD hK hS => ?_)
  · obtain rfl : v2 = none := hp
    have hP : va_P D xcl [(ro, .inr (1, [.ref it, .int 0, c2])), (it, .inl (ki, 4, .inr (.inl f)))] H := hP
    have hD : va_D A [(ro, .inr (1, [.ref it, .int 0, c2])), (it, .inl (ki, 4, .inr (.inl f)))] := hD
    have hK : va_K D xcl [(ki, .long), (ki, .long)] s := hK
    refine W.eq (g2 := F0 m 10 ls []) rfl ?_
    refine W.widen (k := 0) (n := 0) (by omega) (by omega) ?_
    refine lv_aload_n hx hb d_Row_add_10 rfl (lv_at hl 0 rfl) ?_
    refine va_get (D := D) (ci := 1) (v := .ref it) (C := R_Row) (T := F_Row) (N := 3) hx hb hts fin_Row hown hK hP 0 rfl rfl 0 (by decide) (hts _ m_8e18d96c) (fun _ h9 => h9) rfl d_Row_add_11 ?_
    refine lv_aload_n hx hb d_Row_add_14 rfl (lv_at hl 0 rfl) ?_
    refine va_get (D := D) (ci := 1) (v := .int 0) (C := R_Row) (T := F_Row) (N := 3) hx hb hts fin_Row hown hK hP 0 rfl rfl 1 (by decide) (hts _ m_2c4f5cfd) (fun _ h9 => h9) rfl d_Row_add_15 ?_
    refine lv_lload_n hx hb d_Row_add_18 rfl (lv_at hl 1 rfl) ?_
    refine va_last (i := 0) (x := x) hx hb hK hP hD hS 1 0 rfl rfl (xt_vin (by decide +kernel)) d_Row_add_19 (fun H locs hP hD hS => ?_)
    have hP : va_P D xcl [(ro, .inr (1, [.ref it, .int 0, c2])), (it, .inl (ki, 4, .inr (.inl (vp_updL f (0 : Int32).toNatClampNeg x))))] H := hP
    have hD : va_D A [(ro, .inr (1, [.ref it, .int 0, c2])), (it, .inl (ki, 4, .inr (.inl (vp_updL f (0 : Int32).toNatClampNeg x))))] := hD
    refine lv_aload_n hx hb d_Row_add_20 rfl (lv_at hl 0 rfl) ?_
    refine lv_dup hx hb d_Row_add_21 rfl ?_
    refine va_get (D := D) (ci := 1) (v := .int 0) (C := R_Row) (T := F_Row) (N := 3) hx hb hts fin_Row hown hK hP 0 rfl rfl 1 (by decide) (hts _ m_2c4f5cfd) (fun _ h9 => h9) rfl d_Row_add_22 ?_
    refine lv_iconst (v := 1) hx hb d_Row_add_25 (by decide) ?_
    refine lv_iadd hx hb d_Row_add_26 ?_
    refine xt_numi (y := 1) (by decide) ?_
    refine va_put (D := D) (ci := 1) (v := .int 1) (ty := .int) (C := R_Row) (T := F_Row) (N := 3) hx hb hts fin_Row t_Row t_Row_ok n_Row hown hK hP hD hS 0 rfl rfl 1 (by decide) (hts _ m_2c4f5cfd) (fun _ h9 => h9) rfl (by decide +kernel) (by first | rfl | decide) (by first | rfl | decide) (Nat.le_of_ble_eq_true rfl) d_Row_add_27 (fun H locs hP hD hS => ?_)
    have hP : va_P D xcl [(ro, .inr (1, [.ref it, .int 1, c2])), (it, .inl (ki, 4, .inr (.inl (vp_updL f (0 : Int32).toNatClampNeg x))))] H := hP
    have hD : va_D A [(ro, .inr (1, [.ref it, .int 1, c2])), (it, .inl (ki, 4, .inr (.inl (vp_updL f (0 : Int32).toNatClampNeg x))))] := hD
    refine W.widen (k := 0) (n := 0) (by decide) (by decide) ?_
    refine xt_mono xt_ofMQ ?_
    exact W.vret hx hb hr (fun t ht hW => ⟨(fun _ => 0), Or.inl ⟨_, rfl, rfl⟩, by rw [ht]; exact hP.sub [0, 1] rfl, va_K.moved hW.alike (hK.sub [0] rfl), hD.sub [0, 1] (by decide) rfl, hS.F ht⟩) hS.2.2 d_Row_add_30 hlocks
  · exact False.elim hp

set_option maxHeartbeats 4000000 in
set_option maxRecDepth 100000 in
theorem c_H_push (l : Launch) (D : va_G) (h0 ro it ki : Nat) (f : Nat → Int64) (x : Int64) (a0 a1 a2 a3 a4 a5 a6 a7 a9 a10 : Value) (c2 : Value) (sz : Nat) : xt_Met l y_H_push [.code y_H_push b_H_push 3 (some .int)] ({ frames := 10, cells := 0, slots := 0, locals := 320 }) (xt_P D xcl [.ref h0, .long x] [(h0, .inr (0, [a0, a1, a2, a3, a4, a5, a6, a7, .ref ro, a9, a10])), (ro, .inr (1, [.ref it, .int 0, c2])), (it, .inl (ki, 4, .inr (.inl f)))] [(ki, .long)] sz) (xt_Q (S := Nat → Nat) D xcl (va_A [(h0, .inr (0, [a0, a1, a2, a3, a4, a5, a6, a7, .ref ro, a9, a10])), (ro, .inr (1, [.ref it, .int 0, c2])), (it, .inl (ki, 4, .inr (.inl f)))] sz) (fun v u => v = some (.int 1)) (fun _ _ => False) (fun u => [(h0, .inr (0, [a0, a1, a2, a3, a4, a5, a6, a7, .ref ro, a9, a10])), (ro, .inr (1, [.ref it, .int 1, c2])), (it, .inl (ki, 4, .inr (.inl (vp_updL f (0 : Int32).toNatClampNeg x))))]) (fun u => [(ki, .long)])) 0 0 (va_A [(h0, .inr (0, [a0, a1, a2, a3, a4, a5, a6, a7, .ref ro, a9, a10])), (ro, .inr (1, [.ref it, .int 0, c2])), (it, .inl (ki, 4, .inr (.inl f)))] sz) := by
  refine xt_ofW (cc := b_H_push) (maxL := 3) (ret := (some .int)) (by decide) (List.mem_singleton.mpr rfl) ?_
  intro p e s m args below meth c s₁ B hml htab hv
  obtain ⟨rfl, hsz, hB, hP, hK, hD0⟩ := hv
  subst hsz
  have hx := B.exec
  have hb := B.bytes
  have hr := B.returns
  have hts := hB.1.at ([.ref h0, .long x] : List Value).toArray
  have hown : s.vm.findClass "StackHost" = some m.cls := findClass_of_methodNamed B.named
  have hlocks := B.notSynchronized
  have hD := hD0.self (sz := s.heap.size)
  generalize hAe : va_A [(h0, .inr (0, [a0, a1, a2, a3, a4, a5, a6, a7, .ref ro, a9, a10])), (ro, .inr (1, [.ref it, .int 0, c2])), (it, .inl (ki, 4, .inr (.inl f)))] s.heap.size = A at hB hD ⊢
  have hA : ∀ q : Nat, s.heap.size ≤ q → A q := fun q h => by rw [← hAe]; exact Or.inr h
  have hS : va_S A s.heap s.heap [] := va_S.rf
  have hl := lv_entry ([.ref h0, .long x]) (n := 3) (Nat.le_of_ble_eq_true rfl)
  rw [lg_entry_eq]
  generalize (lg_sl ([.ref h0, .long x]) ++ List.replicate (3 - (lg_sl ([.ref h0, .long x])).length) Slot.unset).toArray = ls at hl ⊢
  have hl : lv_has ls 3 [(0, .ref h0), (1, .long x)] := hl
  refine lv_aload_n hx hb d_H_push_0 rfl (lv_at hl 0 rfl) ?_
  refine va_get (D := D) (ci := 0) (v := .ref ro) (C := R_H) (T := F_H) (N := 11) hx hb hts fin_H hown hK hP 0 rfl rfl 8 (by decide) (hts _ m_3f9b649c) (fun _ h9 => h9) rfl d_H_push_1 ?_
  refine va_get (D := D) (ci := 1) (v := .int 0) (C := R_Row) (T := F_Row) (N := 3) hx hb hts fin_Row hown hK hP 1 rfl rfl 1 (by decide) (hts _ m_d32f0086) (fun _ h9 => h9) rfl d_H_push_4 ?_
  refine lv_sipush (v := 1000) hx hb d_H_push_7 (by decide) ?_
  refine lv_icmp_lt (tgt := 23) hx hb d_H_push_10 rfl (fun _ => ?_) (fun h9 => absurd h9 (by decide))
  refine lv_aload_n hx hb d_H_push_23 rfl (lv_at hl 0 rfl) ?_
  refine va_get (D := D) (ci := 0) (v := .ref ro) (C := R_H) (T := F_H) (N := 11) hx hb hts fin_H hown hK hP 0 rfl rfl 8 (by decide) (hts _ m_3f9b649c) (fun _ h9 => h9) rfl d_H_push_24 ?_
  refine lv_lload_n hx hb d_H_push_27 rfl (lv_at hl 1 rfl) ?_
  refine xt_call (D := D) (cl := xcl) (wr := [(h0, .inr (0, [a0, a1, a2, a3, a4, a5, a6, a7, .ref ro, a9, a10]))]) (fun T hT X => by
    obtain ⟨cb, r1, r2, r3⟩ := va_recv hK hP (ci := 1) (q0 := 1) rfl rfl
    exact xt_invV X hx hown (hts _ m_45f06a7c) (hts _ m_7e8d081f) (hts _ m_4e47f51a) (xt_sigOf (hts _ m_4f1bdc54)) nm_Row_add (by rw [hT]; exact r1) r2 r3 (g := F0 m 28 ls [.long x, .ref ro]) rfl (argsL := [.long x]) (rest := []) rfl rfl (by rw [hb]; exact d_H_push_28)) (c_Row_add l D ro it ki f x (c2) s.heap.size) (hml.trans hl.1.symm) (by rw [hb]; exact d_H_push_28) (Nat.le_of_ble_eq_true rfl) rfl rfl (by decide) (by decide) (by decide) (by decide) (xt_w1 hB m_4f1bdc54) (xt_cdOf hB m_4f1bdc54) (hts _ m_c1bef504) hB hK hP hD hS hA [1, 2] [0] [0] rfl rfl rfl (by decide) (by decide) (by decide) (fun v2 u1 H locs hp hP hD hK hS => ?_) (fun XX9 ax9 u1 H locs hp hex hP hD hK hS => ?_)
  · obtain rfl : v2 = none := hp
    have hP : va_P D xcl [(h0, .inr (0, [a0, a1, a2, a3, a4, a5, a6, a7, .ref ro, a9, a10])), (ro, .inr (1, [.ref it, .int 1, c2])), (it, .inl (ki, 4, .inr (.inl (vp_updL f (0 : Int32).toNatClampNeg x))))] H := hP
    have hD : va_D A [(h0, .inr (0, [a0, a1, a2, a3, a4, a5, a6, a7, .ref ro, a9, a10])), (ro, .inr (1, [.ref it, .int 1, c2])), (it, .inl (ki, 4, .inr (.inl (vp_updL f (0 : Int32).toNatClampNeg x))))] := hD
    have hK : va_K D xcl [(ki, .long), (ki, .long)] s := hK
    refine W.eq (g2 := F0 m 31 ls []) rfl ?_
    refine W.widen (k := 0) (n := 0) (by omega) (by omega) ?_
    refine lv_aload_n hx hb d_H_push_31 rfl (lv_at hl 0 rfl) ?_
    refine va_get (D := D) (ci := 0) (v := .ref ro) (C := R_H) (T := F_H) (N := 11) hx hb hts fin_H hown hK hP 0 rfl rfl 8 (by decide) (hts _ m_3f9b649c) (fun _ h9 => h9) rfl d_H_push_32 ?_
    refine va_get (D := D) (ci := 1) (v := .int 1) (C := R_Row) (T := F_Row) (N := 3) hx hb hts fin_Row hown hK hP 1 rfl rfl 1 (by decide) (hts _ m_d32f0086) (fun _ h9 => h9) rfl d_H_push_35 ?_
    refine W.widen (k := 0) (n := 0) (by decide) (by decide) ?_
    refine xt_mono xt_ofMQ ?_
    exact W.iret hx hb hr (fun t ht hW => ⟨(fun _ => 0), Or.inl ⟨_, rfl, rfl⟩, by rw [ht]; exact hP.sub [0, 1, 2] rfl, va_K.moved hW.alike (hK.sub [0] rfl), hD.sub [0, 1, 2] (by decide) rfl, hS.F ht⟩) hS.2.2 d_H_push_38 hlocks
  · exact False.elim hp

set_option maxHeartbeats 4000000 in
set_option maxRecDepth 100000 in
theorem c_M_thrown (l : Launch) (D : va_G) (h0 : Nat) (th : Int32) (a1 a2 a3 a4 a5 a6 a7 a8 a9 a10 a11 a12 a13 a14 a15 a16 a17 a18 a19 a20 a21 a22 a23 a24 a25 a26 a27 a28 a29 a30 a31 a32 a33 a34 a35 a36 a37 a38 a39 a40 a41 a42 a43 a44 a45 a46 a47 a48 a49 a50 a51 a52 a53 a54 a55 a56 a57 a58 a59 a60 a61 a62 a63 a64 a65 a66 a67 a68 a69 a70 a71 a72 a73 a74 a75 a76 a77 a78 a79 a80 a81 a82 a83 a84 a85 a86 a87 a88 a89 a90 a91 a92 a93 a94 a95 a96 : Value) (sz : Nat) : xt_Met l y_M_thrown [.code y_M_thrown b_M_thrown 1 (some .int)] ({ frames := 8, cells := 0, slots := 0, locals := 120 }) (xt_P D xcl [.ref h0] [(h0, .inr (8, [.int th, a1, a2, a3, a4, a5, a6, a7, a8, a9, a10, a11, a12, a13, a14, a15, a16, a17, a18, a19, a20, a21, a22, a23, a24, a25, a26, a27, a28, a29, a30, a31, a32, a33, a34, a35, a36, a37, a38, a39, a40, a41, a42, a43, a44, a45, a46, a47, a48, a49, a50, a51, a52, a53, a54, a55, a56, a57, a58, a59, a60, a61, a62, a63, a64, a65, a66, a67, a68, a69, a70, a71, a72, a73, a74, a75, a76, a77, a78, a79, a80, a81, a82, a83, a84, a85, a86, a87, a88, a89, a90, a91, a92, a93, a94, a95, a96]))] [] sz) (xt_Q (S := Nat → Nat) D xcl (va_A [(h0, .inr (8, [.int th, a1, a2, a3, a4, a5, a6, a7, a8, a9, a10, a11, a12, a13, a14, a15, a16, a17, a18, a19, a20, a21, a22, a23, a24, a25, a26, a27, a28, a29, a30, a31, a32, a33, a34, a35, a36, a37, a38, a39, a40, a41, a42, a43, a44, a45, a46, a47, a48, a49, a50, a51, a52, a53, a54, a55, a56, a57, a58, a59, a60, a61, a62, a63, a64, a65, a66, a67, a68, a69, a70, a71, a72, a73, a74, a75, a76, a77, a78, a79, a80, a81, a82, a83, a84, a85, a86, a87, a88, a89, a90, a91, a92, a93, a94, a95, a96]))] sz) (fun v u => v = some (.int th)) (fun _ _ => False) (fun u => [(h0, .inr (8, [.int th, a1, a2, a3, a4, a5, a6, a7, a8, a9, a10, a11, a12, a13, a14, a15, a16, a17, a18, a19, a20, a21, a22, a23, a24, a25, a26, a27, a28, a29, a30, a31, a32, a33, a34, a35, a36, a37, a38, a39, a40, a41, a42, a43, a44, a45, a46, a47, a48, a49, a50, a51, a52, a53, a54, a55, a56, a57, a58, a59, a60, a61, a62, a63, a64, a65, a66, a67, a68, a69, a70, a71, a72, a73, a74, a75, a76, a77, a78, a79, a80, a81, a82, a83, a84, a85, a86, a87, a88, a89, a90, a91, a92, a93, a94, a95, a96]))]) (fun u => [])) 0 0 (va_A [(h0, .inr (8, [.int th, a1, a2, a3, a4, a5, a6, a7, a8, a9, a10, a11, a12, a13, a14, a15, a16, a17, a18, a19, a20, a21, a22, a23, a24, a25, a26, a27, a28, a29, a30, a31, a32, a33, a34, a35, a36, a37, a38, a39, a40, a41, a42, a43, a44, a45, a46, a47, a48, a49, a50, a51, a52, a53, a54, a55, a56, a57, a58, a59, a60, a61, a62, a63, a64, a65, a66, a67, a68, a69, a70, a71, a72, a73, a74, a75, a76, a77, a78, a79, a80, a81, a82, a83, a84, a85, a86, a87, a88, a89, a90, a91, a92, a93, a94, a95, a96]))] sz) := by
  refine xt_ofW (cc := b_M_thrown) (maxL := 1) (ret := (some .int)) (by decide) (List.mem_singleton.mpr rfl) ?_
  intro p e s m args below meth c s₁ B hml htab hv
  obtain ⟨rfl, hsz, hB, hP, hK, hD0⟩ := hv
  subst hsz
  have hx := B.exec
  have hb := B.bytes
  have hr := B.returns
  have hts := hB.1.at ([.ref h0] : List Value).toArray
  have hown : s.vm.findClass "StackHostModel" = some m.cls := findClass_of_methodNamed B.named
  have hlocks := B.notSynchronized
  have hD := hD0.self (sz := s.heap.size)
  generalize hAe : va_A [(h0, .inr (8, [.int th, a1, a2, a3, a4, a5, a6, a7, a8, a9, a10, a11, a12, a13, a14, a15, a16, a17, a18, a19, a20, a21, a22, a23, a24, a25, a26, a27, a28, a29, a30, a31, a32, a33, a34, a35, a36, a37, a38, a39, a40, a41, a42, a43, a44, a45, a46, a47, a48, a49, a50, a51, a52, a53, a54, a55, a56, a57, a58, a59, a60, a61, a62, a63, a64, a65, a66, a67, a68, a69, a70, a71, a72, a73, a74, a75, a76, a77, a78, a79, a80, a81, a82, a83, a84, a85, a86, a87, a88, a89, a90, a91, a92, a93, a94, a95, a96]))] s.heap.size = A at hB hD ⊢
  have hA : ∀ q : Nat, s.heap.size ≤ q → A q := fun q h => by rw [← hAe]; exact Or.inr h
  have hS : va_S A s.heap s.heap [] := va_S.rf
  have hl := lv_entry ([.ref h0]) (n := 1) (Nat.le_of_ble_eq_true rfl)
  rw [lg_entry_eq]
  generalize (lg_sl ([.ref h0]) ++ List.replicate (1 - (lg_sl ([.ref h0])).length) Slot.unset).toArray = ls at hl ⊢
  have hl : lv_has ls 1 [(0, .ref h0)] := hl
  refine lv_aload_n hx hb d_M_thrown_0 rfl (lv_at hl 0 rfl) ?_
  refine va_get (D := D) (ci := 8) (v := .int th) (C := R_M) (T := F_M) (N := 97) hx hb hts fin_M hown hK hP 0 rfl rfl 0 (by decide) (hts _ m_afabd6a0) (fun _ h9 => h9) rfl d_M_thrown_1 ?_
  refine W.widen (k := 0) (n := 0) (by decide) (by decide) ?_
  refine xt_mono xt_ofMQ ?_
  exact W.iret hx hb hr (fun t ht hW => ⟨(fun _ => 0), Or.inl ⟨_, rfl, rfl⟩, by rw [ht]; exact hP.sub [0] rfl, va_K.moved hW.alike (hK.sub [] rfl), hD.sub [0] (by decide) rfl, hS.F ht⟩) hS.2.2 d_M_thrown_4 hlocks

set_option maxHeartbeats 4000000 in
set_option maxRecDepth 100000 in
theorem c_M_fault_0 (l : Launch) (D : va_G) (h0 fa kf : Nat) (a0 a1 a2 a3 a4 a5 a6 a7 a8 a9 a10 a11 a12 a13 a14 a15 a16 a17 a18 a19 a20 a21 a22 a23 a24 a25 a26 a27 a28 a29 a30 a31 a32 a33 a34 a35 a36 a37 a38 a39 a40 a41 a42 a43 a44 a45 a46 a47 a48 a49 a50 a51 a52 a53 a54 a55 a56 a57 a58 a59 a60 a61 a62 a63 a64 a65 a66 a67 a68 a69 a70 a71 a72 a73 a74 a75 a76 a77 a78 a79 a80 a81 a82 a83 a84 a85 a86 a87 a88 a90 a91 a92 a93 a94 a95 a96 : Value) (sz : Nat) : xt_Met l y_M_fault [.code y_M_fault b_M_fault 2 (some .int)] ({ frames := 8, cells := 0, slots := 0, locals := 120 }) (xt_P D xcl [.ref h0, .int 0] [(h0, .inr (8, [a0, a1, a2, a3, a4, a5, a6, a7, a8, a9, a10, a11, a12, a13, a14, a15, a16, a17, a18, a19, a20, a21, a22, a23, a24, a25, a26, a27, a28, a29, a30, a31, a32, a33, a34, a35, a36, a37, a38, a39, a40, a41, a42, a43, a44, a45, a46, a47, a48, a49, a50, a51, a52, a53, a54, a55, a56, a57, a58, a59, a60, a61, a62, a63, a64, a65, a66, a67, a68, a69, a70, a71, a72, a73, a74, a75, a76, a77, a78, a79, a80, a81, a82, a83, a84, a85, a86, a87, a88, .ref fa, a90, a91, a92, a93, a94, a95, a96])), (fa, .inl (kf, 2, .inl (fun _ => 0)))] [(kf, .int)] sz) (xt_Q (S := Nat → Nat) D xcl (va_A [(h0, .inr (8, [a0, a1, a2, a3, a4, a5, a6, a7, a8, a9, a10, a11, a12, a13, a14, a15, a16, a17, a18, a19, a20, a21, a22, a23, a24, a25, a26, a27, a28, a29, a30, a31, a32, a33, a34, a35, a36, a37, a38, a39, a40, a41, a42, a43, a44, a45, a46, a47, a48, a49, a50, a51, a52, a53, a54, a55, a56, a57, a58, a59, a60, a61, a62, a63, a64, a65, a66, a67, a68, a69, a70, a71, a72, a73, a74, a75, a76, a77, a78, a79, a80, a81, a82, a83, a84, a85, a86, a87, a88, .ref fa, a90, a91, a92, a93, a94, a95, a96])), (fa, .inl (kf, 2, .inl (fun _ => 0)))] sz) (fun v u => v = some (.int 0)) (fun _ _ => False) (fun u => [(h0, .inr (8, [.int 0, a1, a2, a3, a4, a5, a6, a7, a8, a9, a10, a11, a12, a13, a14, a15, a16, a17, a18, a19, a20, a21, a22, a23, a24, a25, a26, a27, a28, a29, a30, a31, a32, a33, a34, a35, a36, a37, a38, a39, a40, a41, a42, a43, a44, a45, a46, a47, a48, a49, a50, a51, a52, a53, a54, a55, a56, a57, a58, a59, a60, a61, a62, a63, a64, a65, a66, a67, a68, a69, a70, a71, a72, a73, a74, a75, a76, a77, a78, a79, a80, a81, a82, a83, a84, a85, a86, a87, a88, .ref fa, a90, a91, a92, a93, a94, a95, a96])), (fa, .inl (kf, 2, .inl (fun _ => 0)))]) (fun u => [(kf, .int)])) 0 0 (va_A [(h0, .inr (8, [a0, a1, a2, a3, a4, a5, a6, a7, a8, a9, a10, a11, a12, a13, a14, a15, a16, a17, a18, a19, a20, a21, a22, a23, a24, a25, a26, a27, a28, a29, a30, a31, a32, a33, a34, a35, a36, a37, a38, a39, a40, a41, a42, a43, a44, a45, a46, a47, a48, a49, a50, a51, a52, a53, a54, a55, a56, a57, a58, a59, a60, a61, a62, a63, a64, a65, a66, a67, a68, a69, a70, a71, a72, a73, a74, a75, a76, a77, a78, a79, a80, a81, a82, a83, a84, a85, a86, a87, a88, .ref fa, a90, a91, a92, a93, a94, a95, a96])), (fa, .inl (kf, 2, .inl (fun _ => 0)))] sz) := by
  refine xt_ofW (cc := b_M_fault) (maxL := 2) (ret := (some .int)) (by decide) (List.mem_singleton.mpr rfl) ?_
  intro p e s m args below meth c s₁ B hml htab hv
  obtain ⟨rfl, hsz, hB, hP, hK, hD0⟩ := hv
  subst hsz
  have hx := B.exec
  have hb := B.bytes
  have hr := B.returns
  have hts := hB.1.at ([.ref h0, .int 0] : List Value).toArray
  have hown : s.vm.findClass "StackHostModel" = some m.cls := findClass_of_methodNamed B.named
  have hlocks := B.notSynchronized
  have hD := hD0.self (sz := s.heap.size)
  generalize hAe : va_A [(h0, .inr (8, [a0, a1, a2, a3, a4, a5, a6, a7, a8, a9, a10, a11, a12, a13, a14, a15, a16, a17, a18, a19, a20, a21, a22, a23, a24, a25, a26, a27, a28, a29, a30, a31, a32, a33, a34, a35, a36, a37, a38, a39, a40, a41, a42, a43, a44, a45, a46, a47, a48, a49, a50, a51, a52, a53, a54, a55, a56, a57, a58, a59, a60, a61, a62, a63, a64, a65, a66, a67, a68, a69, a70, a71, a72, a73, a74, a75, a76, a77, a78, a79, a80, a81, a82, a83, a84, a85, a86, a87, a88, .ref fa, a90, a91, a92, a93, a94, a95, a96])), (fa, .inl (kf, 2, .inl (fun _ => 0)))] s.heap.size = A at hB hD ⊢
  have hA : ∀ q : Nat, s.heap.size ≤ q → A q := fun q h => by rw [← hAe]; exact Or.inr h
  have hS : va_S A s.heap s.heap [] := va_S.rf
  have hl := lv_entry ([.ref h0, .int 0]) (n := 2) (Nat.le_of_ble_eq_true rfl)
  rw [lg_entry_eq]
  generalize (lg_sl ([.ref h0, .int 0]) ++ List.replicate (2 - (lg_sl ([.ref h0, .int 0])).length) Slot.unset).toArray = ls at hl ⊢
  have hl : lv_has ls 2 [(0, .ref h0), (1, .int 0)] := hl
  refine lv_aload_n hx hb d_M_fault_0 rfl (lv_at hl 0 rfl) ?_
  refine lv_iload_n hx hb d_M_fault_1 rfl (lv_at hl 1 rfl) ?_
  refine lv_if_eq (tgt := 10) hx hb d_M_fault_2 rfl (fun _ => ?_) (fun h9 => absurd h9 (by decide))
  refine lv_iconst (v := 0) hx hb d_M_fault_10 (by decide) ?_
  refine lv_goto (tgt := 15) hx hb d_M_fault_11 rfl ?_
  refine va_put (D := D) (ci := 8) (v := .int 0) (ty := .int) (C := R_M) (T := F_M) (N := 97) hx hb hts fin_M t_M t_M_ok n_M hown hK hP hD hS 0 rfl rfl 0 (by decide) (hts _ m_afabd6a0) (fun _ h9 => h9) rfl (by decide +kernel) (by first | rfl | decide) (by first | rfl | decide) (Nat.le_of_ble_eq_true rfl) d_M_fault_15 (fun H locs hP hD hS => ?_)
  have hP : va_P D xcl [(h0, .inr (8, [.int 0, a1, a2, a3, a4, a5, a6, a7, a8, a9, a10, a11, a12, a13, a14, a15, a16, a17, a18, a19, a20, a21, a22, a23, a24, a25, a26, a27, a28, a29, a30, a31, a32, a33, a34, a35, a36, a37, a38, a39, a40, a41, a42, a43, a44, a45, a46, a47, a48, a49, a50, a51, a52, a53, a54, a55, a56, a57, a58, a59, a60, a61, a62, a63, a64, a65, a66, a67, a68, a69, a70, a71, a72, a73, a74, a75, a76, a77, a78, a79, a80, a81, a82, a83, a84, a85, a86, a87, a88, .ref fa, a90, a91, a92, a93, a94, a95, a96])), (fa, .inl (kf, 2, .inl (fun _ => 0)))] H := hP
  have hD : va_D A [(h0, .inr (8, [.int 0, a1, a2, a3, a4, a5, a6, a7, a8, a9, a10, a11, a12, a13, a14, a15, a16, a17, a18, a19, a20, a21, a22, a23, a24, a25, a26, a27, a28, a29, a30, a31, a32, a33, a34, a35, a36, a37, a38, a39, a40, a41, a42, a43, a44, a45, a46, a47, a48, a49, a50, a51, a52, a53, a54, a55, a56, a57, a58, a59, a60, a61, a62, a63, a64, a65, a66, a67, a68, a69, a70, a71, a72, a73, a74, a75, a76, a77, a78, a79, a80, a81, a82, a83, a84, a85, a86, a87, a88, .ref fa, a90, a91, a92, a93, a94, a95, a96])), (fa, .inl (kf, 2, .inl (fun _ => 0)))] := hD
  refine lv_aload_n hx hb d_M_fault_18 rfl (lv_at hl 0 rfl) ?_
  refine va_get (D := D) (ci := 8) (v := .int 0) (C := R_M) (T := F_M) (N := 97) hx hb hts fin_M hown hK hP 0 rfl rfl 0 (by decide) (hts _ m_afabd6a0) (fun _ h9 => h9) rfl d_M_fault_19 ?_
  refine lv_if_le (tgt := 29) hx hb d_M_fault_22 rfl (fun _ => ?_) (fun h9 => absurd h9 (by decide))
  refine lv_aload_n hx hb d_M_fault_29 rfl (lv_at hl 0 rfl) ?_
  refine va_get (D := D) (ci := 8) (v := .ref fa) (C := R_M) (T := F_M) (N := 97) hx hb hts fin_M hown hK hP 0 rfl rfl 89 (by decide) (hts _ m_8367c681) (fun _ h9 => h9) rfl d_M_fault_30 ?_
  refine lv_iload_n hx hb d_M_fault_33 rfl (lv_at hl 1 rfl) ?_
  refine va_iald (i := 0) hx hb hK hP 1 0 rfl rfl (xt_vin (by decide +kernel)) d_M_fault_34 ?_
  refine xt_numi (y := 0) (by decide +kernel) ?_
  refine W.widen (k := 0) (n := 0) (by decide) (by decide) ?_
  refine xt_mono xt_ofMQ ?_
  exact W.iret hx hb hr (fun t ht hW => ⟨(fun _ => 0), Or.inl ⟨_, rfl, rfl⟩, by rw [ht]; exact hP.sub [0, 1] rfl, va_K.moved hW.alike (hK.sub [0] rfl), hD.sub [0, 1] (by decide) rfl, hS.F ht⟩) hS.2.2 d_M_fault_35 hlocks

set_option maxHeartbeats 4000000 in
set_option maxRecDepth 100000 in
theorem c_M_fault_1 (l : Launch) (D : va_G) (h0 fa kf : Nat) (a0 a1 a2 a3 a4 a5 a6 a7 a8 a9 a10 a11 a12 a13 a14 a15 a16 a17 a18 a19 a20 a21 a22 a23 a24 a25 a26 a27 a28 a29 a30 a31 a32 a33 a34 a35 a36 a37 a38 a39 a40 a41 a42 a43 a44 a45 a46 a47 a48 a49 a50 a51 a52 a53 a54 a55 a56 a57 a58 a59 a60 a61 a62 a63 a64 a65 a66 a67 a68 a69 a70 a71 a72 a73 a74 a75 a76 a77 a78 a79 a80 a81 a82 a83 a84 a85 a86 a87 a88 a90 a91 a92 a93 a94 a95 a96 : Value) (sz : Nat) : xt_Met l y_M_fault [.code y_M_fault b_M_fault 2 (some .int)] ({ frames := 8, cells := 0, slots := 0, locals := 120 }) (xt_P D xcl [.ref h0, .int 1] [(h0, .inr (8, [a0, a1, a2, a3, a4, a5, a6, a7, a8, a9, a10, a11, a12, a13, a14, a15, a16, a17, a18, a19, a20, a21, a22, a23, a24, a25, a26, a27, a28, a29, a30, a31, a32, a33, a34, a35, a36, a37, a38, a39, a40, a41, a42, a43, a44, a45, a46, a47, a48, a49, a50, a51, a52, a53, a54, a55, a56, a57, a58, a59, a60, a61, a62, a63, a64, a65, a66, a67, a68, a69, a70, a71, a72, a73, a74, a75, a76, a77, a78, a79, a80, a81, a82, a83, a84, a85, a86, a87, a88, .ref fa, a90, a91, a92, a93, a94, a95, a96])), (fa, .inl (kf, 2, .inl (fun _ => 0)))] [(kf, .int)] sz) (xt_Q (S := Nat → Nat) D xcl (va_A [(h0, .inr (8, [a0, a1, a2, a3, a4, a5, a6, a7, a8, a9, a10, a11, a12, a13, a14, a15, a16, a17, a18, a19, a20, a21, a22, a23, a24, a25, a26, a27, a28, a29, a30, a31, a32, a33, a34, a35, a36, a37, a38, a39, a40, a41, a42, a43, a44, a45, a46, a47, a48, a49, a50, a51, a52, a53, a54, a55, a56, a57, a58, a59, a60, a61, a62, a63, a64, a65, a66, a67, a68, a69, a70, a71, a72, a73, a74, a75, a76, a77, a78, a79, a80, a81, a82, a83, a84, a85, a86, a87, a88, .ref fa, a90, a91, a92, a93, a94, a95, a96])), (fa, .inl (kf, 2, .inl (fun _ => 0)))] sz) (fun v u => v = some (.int 0)) (fun _ _ => False) (fun u => [(h0, .inr (8, [.int 0, a1, a2, a3, a4, a5, a6, a7, a8, a9, a10, a11, a12, a13, a14, a15, a16, a17, a18, a19, a20, a21, a22, a23, a24, a25, a26, a27, a28, a29, a30, a31, a32, a33, a34, a35, a36, a37, a38, a39, a40, a41, a42, a43, a44, a45, a46, a47, a48, a49, a50, a51, a52, a53, a54, a55, a56, a57, a58, a59, a60, a61, a62, a63, a64, a65, a66, a67, a68, a69, a70, a71, a72, a73, a74, a75, a76, a77, a78, a79, a80, a81, a82, a83, a84, a85, a86, a87, a88, .ref fa, a90, a91, a92, a93, a94, a95, a96])), (fa, .inl (kf, 2, .inl (fun _ => 0)))]) (fun u => [(kf, .int)])) 0 0 (va_A [(h0, .inr (8, [a0, a1, a2, a3, a4, a5, a6, a7, a8, a9, a10, a11, a12, a13, a14, a15, a16, a17, a18, a19, a20, a21, a22, a23, a24, a25, a26, a27, a28, a29, a30, a31, a32, a33, a34, a35, a36, a37, a38, a39, a40, a41, a42, a43, a44, a45, a46, a47, a48, a49, a50, a51, a52, a53, a54, a55, a56, a57, a58, a59, a60, a61, a62, a63, a64, a65, a66, a67, a68, a69, a70, a71, a72, a73, a74, a75, a76, a77, a78, a79, a80, a81, a82, a83, a84, a85, a86, a87, a88, .ref fa, a90, a91, a92, a93, a94, a95, a96])), (fa, .inl (kf, 2, .inl (fun _ => 0)))] sz) := by
  refine xt_ofW (cc := b_M_fault) (maxL := 2) (ret := (some .int)) (by decide) (List.mem_singleton.mpr rfl) ?_
  intro p e s m args below meth c s₁ B hml htab hv
  obtain ⟨rfl, hsz, hB, hP, hK, hD0⟩ := hv
  subst hsz
  have hx := B.exec
  have hb := B.bytes
  have hr := B.returns
  have hts := hB.1.at ([.ref h0, .int 1] : List Value).toArray
  have hown : s.vm.findClass "StackHostModel" = some m.cls := findClass_of_methodNamed B.named
  have hlocks := B.notSynchronized
  have hD := hD0.self (sz := s.heap.size)
  generalize hAe : va_A [(h0, .inr (8, [a0, a1, a2, a3, a4, a5, a6, a7, a8, a9, a10, a11, a12, a13, a14, a15, a16, a17, a18, a19, a20, a21, a22, a23, a24, a25, a26, a27, a28, a29, a30, a31, a32, a33, a34, a35, a36, a37, a38, a39, a40, a41, a42, a43, a44, a45, a46, a47, a48, a49, a50, a51, a52, a53, a54, a55, a56, a57, a58, a59, a60, a61, a62, a63, a64, a65, a66, a67, a68, a69, a70, a71, a72, a73, a74, a75, a76, a77, a78, a79, a80, a81, a82, a83, a84, a85, a86, a87, a88, .ref fa, a90, a91, a92, a93, a94, a95, a96])), (fa, .inl (kf, 2, .inl (fun _ => 0)))] s.heap.size = A at hB hD ⊢
  have hA : ∀ q : Nat, s.heap.size ≤ q → A q := fun q h => by rw [← hAe]; exact Or.inr h
  have hS : va_S A s.heap s.heap [] := va_S.rf
  have hl := lv_entry ([.ref h0, .int 1]) (n := 2) (Nat.le_of_ble_eq_true rfl)
  rw [lg_entry_eq]
  generalize (lg_sl ([.ref h0, .int 1]) ++ List.replicate (2 - (lg_sl ([.ref h0, .int 1])).length) Slot.unset).toArray = ls at hl ⊢
  have hl : lv_has ls 2 [(0, .ref h0), (1, .int 1)] := hl
  refine lv_aload_n hx hb d_M_fault_0 rfl (lv_at hl 0 rfl) ?_
  refine lv_iload_n hx hb d_M_fault_1 rfl (lv_at hl 1 rfl) ?_
  refine lv_if_eq (tgt := 10) hx hb d_M_fault_2 rfl (fun h9 => absurd h9 (by decide)) (fun _ => ?_)
  refine lv_iload_n hx hb d_M_fault_5 rfl (lv_at hl 1 rfl) ?_
  refine lv_iconst (v := 1) hx hb d_M_fault_6 (by decide) ?_
  refine lv_icmp_ne (tgt := 14) hx hb d_M_fault_7 rfl (fun h9 => absurd h9 (by decide)) (fun _ => ?_)
  refine lv_iconst (v := 0) hx hb d_M_fault_10 (by decide) ?_
  refine lv_goto (tgt := 15) hx hb d_M_fault_11 rfl ?_
  refine va_put (D := D) (ci := 8) (v := .int 0) (ty := .int) (C := R_M) (T := F_M) (N := 97) hx hb hts fin_M t_M t_M_ok n_M hown hK hP hD hS 0 rfl rfl 0 (by decide) (hts _ m_afabd6a0) (fun _ h9 => h9) rfl (by decide +kernel) (by first | rfl | decide) (by first | rfl | decide) (Nat.le_of_ble_eq_true rfl) d_M_fault_15 (fun H locs hP hD hS => ?_)
  have hP : va_P D xcl [(h0, .inr (8, [.int 0, a1, a2, a3, a4, a5, a6, a7, a8, a9, a10, a11, a12, a13, a14, a15, a16, a17, a18, a19, a20, a21, a22, a23, a24, a25, a26, a27, a28, a29, a30, a31, a32, a33, a34, a35, a36, a37, a38, a39, a40, a41, a42, a43, a44, a45, a46, a47, a48, a49, a50, a51, a52, a53, a54, a55, a56, a57, a58, a59, a60, a61, a62, a63, a64, a65, a66, a67, a68, a69, a70, a71, a72, a73, a74, a75, a76, a77, a78, a79, a80, a81, a82, a83, a84, a85, a86, a87, a88, .ref fa, a90, a91, a92, a93, a94, a95, a96])), (fa, .inl (kf, 2, .inl (fun _ => 0)))] H := hP
  have hD : va_D A [(h0, .inr (8, [.int 0, a1, a2, a3, a4, a5, a6, a7, a8, a9, a10, a11, a12, a13, a14, a15, a16, a17, a18, a19, a20, a21, a22, a23, a24, a25, a26, a27, a28, a29, a30, a31, a32, a33, a34, a35, a36, a37, a38, a39, a40, a41, a42, a43, a44, a45, a46, a47, a48, a49, a50, a51, a52, a53, a54, a55, a56, a57, a58, a59, a60, a61, a62, a63, a64, a65, a66, a67, a68, a69, a70, a71, a72, a73, a74, a75, a76, a77, a78, a79, a80, a81, a82, a83, a84, a85, a86, a87, a88, .ref fa, a90, a91, a92, a93, a94, a95, a96])), (fa, .inl (kf, 2, .inl (fun _ => 0)))] := hD
  refine lv_aload_n hx hb d_M_fault_18 rfl (lv_at hl 0 rfl) ?_
  refine va_get (D := D) (ci := 8) (v := .int 0) (C := R_M) (T := F_M) (N := 97) hx hb hts fin_M hown hK hP 0 rfl rfl 0 (by decide) (hts _ m_afabd6a0) (fun _ h9 => h9) rfl d_M_fault_19 ?_
  refine lv_if_le (tgt := 29) hx hb d_M_fault_22 rfl (fun _ => ?_) (fun h9 => absurd h9 (by decide))
  refine lv_aload_n hx hb d_M_fault_29 rfl (lv_at hl 0 rfl) ?_
  refine va_get (D := D) (ci := 8) (v := .ref fa) (C := R_M) (T := F_M) (N := 97) hx hb hts fin_M hown hK hP 0 rfl rfl 89 (by decide) (hts _ m_8367c681) (fun _ h9 => h9) rfl d_M_fault_30 ?_
  refine lv_iload_n hx hb d_M_fault_33 rfl (lv_at hl 1 rfl) ?_
  refine va_iald (i := 1) hx hb hK hP 1 0 rfl rfl (xt_vin (by decide +kernel)) d_M_fault_34 ?_
  refine xt_numi (y := 0) (by decide +kernel) ?_
  refine W.widen (k := 0) (n := 0) (by decide) (by decide) ?_
  refine xt_mono xt_ofMQ ?_
  exact W.iret hx hb hr (fun t ht hW => ⟨(fun _ => 0), Or.inl ⟨_, rfl, rfl⟩, by rw [ht]; exact hP.sub [0, 1] rfl, va_K.moved hW.alike (hK.sub [0] rfl), hD.sub [0, 1] (by decide) rfl, hS.F ht⟩) hS.2.2 d_M_fault_35 hlocks

