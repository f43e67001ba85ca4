set_option maxHeartbeats 4000000 in
set_option maxRecDepth 100000 in
theorem c_Law_run_a (l : Launch) (hfl : l.flags = pinnedFlags ++ [noTraceFlag]) (D : va_G) (h0 mm : Nat) (k : Int32) (a0 a1 a2 a3 a4 a5 a6 a8 a9 a10 : Value) (b0 b1 b2 b4 b5 b6 b7 b8 b9 b10 b11 b12 b13 b14 b15 b16 b17 : Value) (ou ko : Nat) (fo : Nat → Int64) (sz : Nat) (hk : k < 0 ∨ 1000000 < k) : xt_Met l y_Law_run [.codeWith y_Law_run b_Law_run 4 (some .int) [(0, 9, 12, 19), (0, 9, 15, 13)]] ({ frames := 9, cells := 1, slots := 6, locals := 220 }) (xt_P D xcl [.ref h0, .int k, .ref ou] [(h0, .inr (0, [a0, a1, a2, a3, a4, a5, a6, .ref mm, a8, a9, a10])), (mm, .inr (7, [b0, b1, b2, .int 0, b4, b5, b6, b7, b8, b9, b10, b11, b12, b13, b14, b15, b16, b17])), (ou, .inl (ko, 1, .inr (.inl fo)))] [(ko, .long)] sz) (xt_Q (S := Nat → Nat) D xcl (va_A [(h0, .inr (0, [a0, a1, a2, a3, a4, a5, a6, .ref mm, a8, a9, a10])), (mm, .inr (7, [b0, b1, b2, .int 0, b4, b5, b6, b7, b8, b9, b10, b11, b12, b13, b14, b15, b16, b17])), (ou, .inl (ko, 1, .inr (.inl fo)))] sz) (fun v u => v = some (.int 1)) (fun _ _ => False) (fun u => [(ou, .inl (ko, 1, .inr (.inl fo))), (h0, .inr (0, [a0, a1, a2, a3, a4, a5, a6, .ref mm, a8, a9, a10])), (mm, .inr (7, [b0, b1, b2, .int 0, b4, b5, b6, b7, b8, b9, b10, b11, b12, b13, b14, b15, b16, b17]))]) (fun u => [(ko, .long)])) 1 6 (va_A [(h0, .inr (0, [a0, a1, a2, a3, a4, a5, a6, .ref mm, a8, a9, a10])), (mm, .inr (7, [b0, b1, b2, .int 0, b4, b5, b6, b7, b8, b9, b10, b11, b12, b13, b14, b15, b16, b17])), (ou, .inl (ko, 1, .inr (.inl fo)))] sz) := by
  refine xt_ofWH (cc := b_Law_run) (maxL := 4) (ret := (some .int)) (by decide) (List.mem_singleton.mpr rfl) ?_
  intro p e s m args below meth c s₁ B hml htab hv
  obtain ⟨rfl, hsz, hB, hP, hK, hD0⟩ := hv
  subst hsz
  have hx := B.exec
  have hb := B.bytes
  have hr := B.returns
  have hts := hB.1.at ([.ref h0, .int k, .ref ou] : List Value).toArray
  have hown : s.vm.findClass "StackHostLaw" = some m.cls := findClass_of_methodNamed B.named
  have hlocks := B.notSynchronized
  have hD := hD0.self (sz := s.heap.size)
  generalize hAe : va_A [(h0, .inr (0, [a0, a1, a2, a3, a4, a5, a6, .ref mm, a8, a9, a10])), (mm, .inr (7, [b0, b1, b2, .int 0, b4, b5, b6, b7, b8, b9, b10, b11, b12, b13, b14, b15, b16, b17])), (ou, .inl (ko, 1, .inr (.inl fo)))] s.heap.size = A at hB hD ⊢
  have hA : ∀ q : Nat, s.heap.size ≤ q → A q := fun q h => by rw [← hAe]; exact Or.inr h
  have hS : va_S A s.heap s.heap [] := va_S.rf
  have hl := lv_entry ([.ref h0, .int k, .ref ou]) (n := 4) (Nat.le_of_ble_eq_true rfl)
  rw [lg_entry_eq]
  generalize (lg_sl ([.ref h0, .int k, .ref ou]) ++ List.replicate (4 - (lg_sl ([.ref h0, .int k, .ref ou])).length) Slot.unset).toArray = ls at hl ⊢
  have hl : lv_has ls 4 [(0, .ref h0), (1, .int k), (2, .ref ou)] := hl
  refine lv_aload_n hx hb d_Law_run_0 rfl (lv_at hl 2 rfl) ?_
  refine lv_iconst (v := 0) hx hb d_Law_run_1 (by decide) ?_
  refine lv_aload_n hx hb d_Law_run_2 rfl (lv_at hl 0 rfl) ?_
  refine lv_iload_n hx hb d_Law_run_3 rfl (lv_at hl 1 rfl) ?_
  refine xt_call (D := D) (cl := xcl) (wr := [(ou, .inl (ko, 1, .inr (.inl fo)))]) (fun T hT X => by
    obtain ⟨cb, r1, r2, r3⟩ := va_recv hK hP (ci := 0) (q0 := 0) rfl rfl
    exact xt_invV X hx hown (hts _ m_d72d9ea3) (hts _ m_5829a8db) (hts _ m_8e7efa5d) (xt_sigOf (hts _ m_8c6e275a)) nm_H_run (by rw [hT]; exact r1) r2 r3 (g := F0 m 4 ls [.int k, .ref h0, .int 0, .ref ou]) rfl (argsL := [.int k]) (rest := [.int 0, .ref ou]) rfl rfl (by rw [hb]; exact d_Law_run_4)) (c_H_run_a l hfl D h0 mm k (a0) (a1) (a2) (a3) (a4) (a5) (a6) (a8) (a9) (a10) (b0) (b1) (b2) (b4) (b5) (b6) (b7) (b8) (b9) (b10) (b11) (b12) (b13) (b14) (b15) (b16) (b17) s.heap.size hk) (hml.trans hl.1.symm) (by rw [hb]; exact d_Law_run_4) (Nat.le_of_ble_eq_true rfl) rfl rfl (by decide) (by decide) (by decide) (by decide) (xt_w1 hB m_8c6e275a) (xt_cdOf hB m_8c6e275a) (hts _ m_ba0734f5) hB hK hP hD hS hA [0, 1] [2] [] rfl rfl rfl (by decide) (by decide) (by decide) (fun v2 u1 H locs hp hP hD hK hS => ?_) (fun XX9 ax9 u1 H locs hp hex hP hD hK hS => ?_)
  · exact False.elim hp
  · have hp : XX9 = "java/lang/IllegalArgumentException" := hp
    subst hp
    have hP : va_P D xcl [(ou, .inl (ko, 1, .inr (.inl fo))), (h0, .inr (0, [a0, a1, a2, a3, a4, a5, a6, .ref mm, a8, a9, a10])), (mm, .inr (7, [b0, b1, b2, .int 0, b4, b5, b6, b7, b8, b9, b10, b11, b12, b13, b14, b15, b16, b17]))] H := hP
    have hD : va_D A [(ou, .inl (ko, 1, .inr (.inl fo))), (h0, .inr (0, [a0, a1, a2, a3, a4, a5, a6, .ref mm, a8, a9, a10])), (mm, .inr (7, [b0, b1, b2, .int 0, b4, b5, b6, b7, b8, b9, b10, b11, b12, b13, b14, b15, b16, b17]))] := hD
    have hK : va_K D xcl [(ko, .long)] s := hK
    refine xt_catch (own := "StackHostLaw") (name := "java/lang/IllegalArgumentException") (Xn := "java/lang/IllegalArgumentException") hown ⟨0, 9, 12, 19⟩ [⟨0, 9, 15, 13⟩] htab (by decide) (by decide) (hts _ m_3beed69a) (hts _ m_b3980edb) hex ?_
    refine W.eq (g2 := F0 m 12 ls [.ref ax9]) rfl ?_
    refine W.widen (k := 1) (n := 6) (by omega) (by omega) ?_
    refine lv_astore_n hx hb d_Law_run_12 rfl hl (by decide) rfl (fun ls hl => ?_)
    have hl : lv_has ls 4 [(3, .ref ax9), (0, .ref h0), (1, .int k), (2, .ref ou)] := hl
    refine lv_iconst (v := 1) hx hb d_Law_run_13 (by decide) ?_
    refine W.widen (k := 1) (n := 6) (by decide) (by decide) ?_
    refine xt_mono xt_ofMQ ?_
    exact W.iret hx hb hr (fun t ht hW => ⟨(fun _ => 0), Or.inl ⟨_, rfl, rfl⟩, by rw [ht]; exact hP.sub [0, 1, 2] rfl, va_K.moved hW.alike (hK.sub [0] rfl), hD.sub [0, 1, 2] (by decide) rfl, hS.F ht⟩) hS.2.2 d_Law_run_14 hlocks

set_option maxHeartbeats 4000000 in
set_option maxRecDepth 100000 in
theorem c_Law_run_s (l : Launch) (hfl : l.flags = pinnedFlags ++ [noTraceFlag]) (D : va_G) (h0 mm : Nat) (k : Int32) (a0 a1 a2 a3 a4 a5 a6 a8 a9 a10 : Value) (b0 b1 b2 b4 b5 b6 b7 b8 b9 b10 b11 b12 b13 b14 b15 b16 b17 : Value) (ou ko : Nat) (fo : Nat → Int64) (sz : Nat) (hk1 : ¬ k < 0) (hk2 : k ≤ 1000000) : xt_Met l y_Law_run [.codeWith y_Law_run b_Law_run 4 (some .int) [(0, 9, 12, 19), (0, 9, 15, 13)]] ({ frames := 9, cells := 1, slots := 6, locals := 220 }) (xt_P D xcl [.ref h0, .int k, .ref ou] [(h0, .inr (0, [a0, a1, a2, a3, a4, a5, a6, .ref mm, a8, a9, a10])), (mm, .inr (7, [b0, b1, b2, .int 0, b4, b5, b6, b7, b8, b9, b10, b11, b12, b13, b14, b15, b16, b17])), (ou, .inl (ko, 1, .inr (.inl fo)))] [(ko, .long)] sz) (xt_Q (S := Nat → Nat) D xcl (va_A [(h0, .inr (0, [a0, a1, a2, a3, a4, a5, a6, .ref mm, a8, a9, a10])), (mm, .inr (7, [b0, b1, b2, .int 0, b4, b5, b6, b7, b8, b9, b10, b11, b12, b13, b14, b15, b16, b17])), (ou, .inl (ko, 1, .inr (.inl fo)))] sz) (fun v u => v = some (.int 2)) (fun _ _ => False) (fun u => [(ou, .inl (ko, 1, .inr (.inl fo))), (h0, .inr (0, [a0, a1, a2, a3, a4, a5, a6, .ref mm, a8, a9, a10])), (mm, .inr (7, [b0, b1, b2, .int 0, b4, b5, b6, b7, b8, b9, b10, b11, b12, b13, b14, b15, b16, b17]))]) (fun u => [(ko, .long)])) 1 6 (va_A [(h0, .inr (0, [a0, a1, a2, a3, a4, a5, a6, .ref mm, a8, a9, a10])), (mm, .inr (7, [b0, b1, b2, .int 0, b4, b5, b6, b7, b8, b9, b10, b11, b12, b13, b14, b15, b16, b17])), (ou, .inl (ko, 1, .inr (.inl fo)))] sz) := by
  refine xt_ofWH (cc := b_Law_run) (maxL := 4) (ret := (some .int)) (by decide) (List.mem_singleton.mpr rfl) ?_
  intro p e s m args below meth c s₁ B hml htab hv
  obtain ⟨rfl, hsz, hB, hP, hK, hD0⟩ := hv
  subst hsz
  have hx := B.exec
  have hb := B.bytes
  have hr := B.returns
  have hts := hB.1.at ([.ref h0, .int k, .ref ou] : List Value).toArray
  have hown : s.vm.findClass "StackHostLaw" = some m.cls := findClass_of_methodNamed B.named
  have hlocks := B.notSynchronized
  have hD := hD0.self (sz := s.heap.size)
  generalize hAe : va_A [(h0, .inr (0, [a0, a1, a2, a3, a4, a5, a6, .ref mm, a8, a9, a10])), (mm, .inr (7, [b0, b1, b2, .int 0, b4, b5, b6, b7, b8, b9, b10, b11, b12, b13, b14, b15, b16, b17])), (ou, .inl (ko, 1, .inr (.inl fo)))] s.heap.size = A at hB hD ⊢
  have hA : ∀ q : Nat, s.heap.size ≤ q → A q := fun q h => by rw [← hAe]; exact Or.inr h
  have hS : va_S A s.heap s.heap [] := va_S.rf
  have hl := lv_entry ([.ref h0, .int k, .ref ou]) (n := 4) (Nat.le_of_ble_eq_true rfl)
  rw [lg_entry_eq]
  generalize (lg_sl ([.ref h0, .int k, .ref ou]) ++ List.replicate (4 - (lg_sl ([.ref h0, .int k, .ref ou])).length) Slot.unset).toArray = ls at hl ⊢
  have hl : lv_has ls 4 [(0, .ref h0), (1, .int k), (2, .ref ou)] := hl
  refine lv_aload_n hx hb d_Law_run_0 rfl (lv_at hl 2 rfl) ?_
  refine lv_iconst (v := 0) hx hb d_Law_run_1 (by decide) ?_
  refine lv_aload_n hx hb d_Law_run_2 rfl (lv_at hl 0 rfl) ?_
  refine lv_iload_n hx hb d_Law_run_3 rfl (lv_at hl 1 rfl) ?_
  refine xt_call (D := D) (cl := xcl) (wr := [(ou, .inl (ko, 1, .inr (.inl fo)))]) (fun T hT X => by
    obtain ⟨cb, r1, r2, r3⟩ := va_recv hK hP (ci := 0) (q0 := 0) rfl rfl
    exact xt_invV X hx hown (hts _ m_d72d9ea3) (hts _ m_5829a8db) (hts _ m_8e7efa5d) (xt_sigOf (hts _ m_8c6e275a)) nm_H_run (by rw [hT]; exact r1) r2 r3 (g := F0 m 4 ls [.int k, .ref h0, .int 0, .ref ou]) rfl (argsL := [.int k]) (rest := [.int 0, .ref ou]) rfl rfl (by rw [hb]; exact d_Law_run_4)) (c_H_run_s l hfl D h0 mm k (a0) (a1) (a2) (a3) (a4) (a5) (a6) (a8) (a9) (a10) (b0) (b1) (b2) (b4) (b5) (b6) (b7) (b8) (b9) (b10) (b11) (b12) (b13) (b14) (b15) (b16) (b17) s.heap.size hk1 hk2) (hml.trans hl.1.symm) (by rw [hb]; exact d_Law_run_4) (Nat.le_of_ble_eq_true rfl) rfl rfl (by decide) (by decide) (by decide) (by decide) (xt_w1 hB m_8c6e275a) (xt_cdOf hB m_8c6e275a) (hts _ m_ba0734f5) hB hK hP hD hS hA [0, 1] [2] [] rfl rfl rfl (by decide) (by decide) (by decide) (fun v2 u1 H locs hp hP hD hK hS => ?_) (fun XX9 ax9 u1 H locs hp hex hP hD hK hS => ?_)
  · exact False.elim hp
  · have hp : XX9 = "java/lang/IllegalStateException" := hp
    subst hp
    have hP : va_P D xcl [(ou, .inl (ko, 1, .inr (.inl fo))), (h0, .inr (0, [a0, a1, a2, a3, a4, a5, a6, .ref mm, a8, a9, a10])), (mm, .inr (7, [b0, b1, b2, .int 0, b4, b5, b6, b7, b8, b9, b10, b11, b12, b13, b14, b15, b16, b17]))] H := hP
    have hD : va_D A [(ou, .inl (ko, 1, .inr (.inl fo))), (h0, .inr (0, [a0, a1, a2, a3, a4, a5, a6, .ref mm, a8, a9, a10])), (mm, .inr (7, [b0, b1, b2, .int 0, b4, b5, b6, b7, b8, b9, b10, b11, b12, b13, b14, b15, b16, b17]))] := hD
    have hK : va_K D xcl [(ko, .long)] s := hK
    refine xt_catch2 (own := "StackHostLaw") (name1 := "java/lang/IllegalArgumentException") (name := "java/lang/IllegalStateException") (Xn := "java/lang/IllegalStateException") hown ⟨0, 9, 12, 19⟩ ⟨0, 9, 15, 13⟩ [] htab (by decide) (by decide) (by decide) (by decide) (hts _ m_3beed69a) (hB.2.2.2.1 ("java/lang/IllegalStateException", "java/lang/IllegalArgumentException") (by decide +kernel)) (hts _ m_cd065aea) (hts _ m_a4ef0ec8) hex ?_
    refine W.eq (g2 := F0 m 15 ls [.ref ax9]) rfl ?_
    refine W.widen (k := 1) (n := 6) (by omega) (by omega) ?_
    refine lv_astore_n hx hb d_Law_run_15 rfl hl (by decide) rfl (fun ls hl => ?_)
    have hl : lv_has ls 4 [(3, .ref ax9), (0, .ref h0), (1, .int k), (2, .ref ou)] := hl
    refine lv_iconst (v := 2) hx hb d_Law_run_16 (by decide) ?_
    refine W.widen (k := 1) (n := 6) (by decide) (by decide) ?_
    refine xt_mono xt_ofMQ ?_
    exact W.iret hx hb hr (fun t ht hW => ⟨(fun _ => 0), Or.inl ⟨_, rfl, rfl⟩, by rw [ht]; exact hP.sub [0, 1, 2] rfl, va_K.moved hW.alike (hK.sub [0] rfl), hD.sub [0, 1, 2] (by decide) rfl, hS.F ht⟩) hS.2.2 d_Law_run_17 hlocks

set_option maxHeartbeats 4000000 in
set_option maxRecDepth 100000 in
theorem c_Law_trap_0 (l : Launch) (D : va_G) (h0 mm lt kt : Nat) (a0 a1 a2 a3 a4 a5 a6 a8 a9 a10 : Value) (b0 b1 b2 b3 b4 b5 b7 b8 b9 b10 b11 b12 b13 b14 b15 b16 b17 : Value) (ou ko : Nat) (fo : Nat → Int64) (sz : Nat) : xt_Met l y_Law_trap [.codeWith y_Law_trap b_Law_trap 4 (some .int) [(0, 9, 12, 29)]] ({ frames := 9, cells := 0, slots := 0, locals := 220 }) (xt_P D xcl [.ref h0, .int 0, .ref ou] [(h0, .inr (0, [a0, a1, a2, a3, a4, a5, a6, .ref mm, a8, a9, a10])), (mm, .inr (7, [b0, b1, b2, b3, b4, b5, .ref lt, b7, b8, b9, b10, b11, b12, b13, b14, b15, b16, b17])), (lt, .inl (kt, 4, .inl (upd (upd (upd (upd (fun _ => 0) (0 : Int32).toNatClampNeg 0) (1 : Int32).toNatClampNeg (-1)) (2 : Int32).toNatClampNeg (-1)) (3 : Int32).toNatClampNeg (-1)))), (ou, .inl (ko, 1, .inr (.inl fo)))] [(kt, .int), (ko, .long)] sz) (xt_Q (S := Nat → Nat) D xcl (va_A [(h0, .inr (0, [a0, a1, a2, a3, a4, a5, a6, .ref mm, a8, a9, a10])), (mm, .inr (7, [b0, b1, b2, b3, b4, b5, .ref lt, b7, b8, b9, b10, b11, b12, b13, b14, b15, b16, b17])), (lt, .inl (kt, 4, .inl (upd (upd (upd (upd (fun _ => 0) (0 : Int32).toNatClampNeg 0) (1 : Int32).toNatClampNeg (-1)) (2 : Int32).toNatClampNeg (-1)) (3 : Int32).toNatClampNeg (-1)))), (ou, .inl (ko, 1, .inr (.inl fo)))] sz) (fun v u => v = some (.int 0)) (fun _ _ => False) (fun u => [(ou, .inl (ko, 1, .inr (.inl (vp_updL fo (0 : Int32).toNatClampNeg 0)))), (h0, .inr (0, [a0, a1, a2, a3, a4, a5, a6, .ref mm, a8, a9, a10])), (mm, .inr (7, [b0, b1, b2, b3, b4, b5, .ref lt, b7, b8, b9, b10, b11, b12, b13, b14, b15, b16, b17])), (lt, .inl (kt, 4, .inl (upd (upd (upd (upd (fun _ => 0) (0 : Int32).toNatClampNeg 0) (1 : Int32).toNatClampNeg (-1)) (2 : Int32).toNatClampNeg (-1)) (3 : Int32).toNatClampNeg (-1))))]) (fun u => [(ko, .long), (kt, .int)])) 0 0 (va_A [(h0, .inr (0, [a0, a1, a2, a3, a4, a5, a6, .ref mm, a8, a9, a10])), (mm, .inr (7, [b0, b1, b2, b3, b4, b5, .ref lt, b7, b8, b9, b10, b11, b12, b13, b14, b15, b16, b17])), (lt, .inl (kt, 4, .inl (upd (upd (upd (upd (fun _ => 0) (0 : Int32).toNatClampNeg 0) (1 : Int32).toNatClampNeg (-1)) (2 : Int32).toNatClampNeg (-1)) (3 : Int32).toNatClampNeg (-1)))), (ou, .inl (ko, 1, .inr (.inl fo)))] sz) := by
  refine xt_ofWH (cc := b_Law_trap) (maxL := 4) (ret := (some .int)) (by decide) (List.mem_singleton.mpr rfl) ?_
  intro p e s m args below meth c s₁ B hml htab hv
  obtain ⟨rfl, hsz, hB, hP, hK, hD0⟩ := hv
  subst hsz
  have hx := B.exec
  have hb := B.bytes
  have hr := B.returns
  have hts := hB.1.at ([.ref h0, .int 0, .ref ou] : List Value).toArray
  have hown : s.vm.findClass "StackHostLaw" = some m.cls := findClass_of_methodNamed B.named
  have hlocks := B.notSynchronized
  have hD := hD0.self (sz := s.heap.size)
  generalize hAe : va_A [(h0, .inr (0, [a0, a1, a2, a3, a4, a5, a6, .ref mm, a8, a9, a10])), (mm, .inr (7, [b0, b1, b2, b3, b4, b5, .ref lt, b7, b8, b9, b10, b11, b12, b13, b14, b15, b16, b17])), (lt, .inl (kt, 4, .inl (upd (upd (upd (upd (fun _ => 0) (0 : Int32).toNatClampNeg 0) (1 : Int32).toNatClampNeg (-1)) (2 : Int32).toNatClampNeg (-1)) (3 : Int32).toNatClampNeg (-1)))), (ou, .inl (ko, 1, .inr (.inl fo)))] s.heap.size = A at hB hD ⊢
  have hA : ∀ q : Nat, s.heap.size ≤ q → A q := fun q h => by rw [← hAe]; exact Or.inr h
  have hS : va_S A s.heap s.heap [] := va_S.rf
  have hl := lv_entry ([.ref h0, .int 0, .ref ou]) (n := 4) (Nat.le_of_ble_eq_true rfl)
  rw [lg_entry_eq]
  generalize (lg_sl ([.ref h0, .int 0, .ref ou]) ++ List.replicate (4 - (lg_sl ([.ref h0, .int 0, .ref ou])).length) Slot.unset).toArray = ls at hl ⊢
  have hl : lv_has ls 4 [(0, .ref h0), (1, .int 0), (2, .ref ou)] := hl
  refine lv_aload_n hx hb d_Law_trap_0 rfl (lv_at hl 2 rfl) ?_
  refine lv_iconst (v := 0) hx hb d_Law_trap_1 (by decide) ?_
  refine lv_aload_n hx hb d_Law_trap_2 rfl (lv_at hl 0 rfl) ?_
  refine lv_iload_n hx hb d_Law_trap_3 rfl (lv_at hl 1 rfl) ?_
  refine xt_call (D := D) (cl := xcl) (wr := [(ou, .inl (ko, 1, .inr (.inl fo)))]) (fun T hT X => by
    obtain ⟨cb, r1, r2, r3⟩ := va_recv hK hP (ci := 0) (q0 := 0) rfl rfl
    exact xt_invV X hx hown (hts _ m_c91e45e3) (hts _ m_59e9042a) (hts _ m_07731f9f) (xt_sigOf (hts _ m_c02db3ff)) nm_H_trap (by rw [hT]; exact r1) r2 r3 (g := F0 m 4 ls [.int 0, .ref h0, .int 0, .ref ou]) rfl (argsL := [.int 0]) (rest := [.int 0, .ref ou]) rfl rfl (by rw [hb]; exact d_Law_trap_4)) (c_H_trap_0 l D h0 mm lt kt (a0) (a1) (a2) (a3) (a4) (a5) (a6) (a8) (a9) (a10) (b0) (b1) (b2) (b3) (b4) (b5) (b7) (b8) (b9) (b10) (b11) (b12) (b13) (b14) (b15) (b16) (b17) s.heap.size) (hml.trans hl.1.symm) (by rw [hb]; exact d_Law_trap_4) (Nat.le_of_ble_eq_true rfl) rfl rfl (by decide) (by decide) (by decide) (by decide) (xt_w1 hB m_c02db3ff) (xt_cdOf hB m_c02db3ff) (hts _ m_ba0734f5) hB hK hP hD hS hA [0, 1, 2] [3] [0] rfl rfl rfl (by decide) (by decide) (by decide) (fun v2 u1 H locs hp hP hD hK hS => ?_) (fun XX9 ax9 u1 H locs hp hex hP hD hK hS => ?_)
  · obtain rfl : v2 = some (.int 0) := hp
    have hP : va_P D xcl [(ou, .inl (ko, 1, .inr (.inl fo))), (h0, .inr (0, [a0, a1, a2, a3, a4, a5, a6, .ref mm, a8, a9, a10])), (mm, .inr (7, [b0, b1, b2, b3, b4, b5, .ref lt, b7, b8, b9, b10, b11, b12, b13, b14, b15, b16, b17])), (lt, .inl (kt, 4, .inl (upd (upd (upd (upd (fun _ => 0) (0 : Int32).toNatClampNeg 0) (1 : Int32).toNatClampNeg (-1)) (2 : Int32).toNatClampNeg (-1)) (3 : Int32).toNatClampNeg (-1))))] H := hP
    have hD : va_D A [(ou, .inl (ko, 1, .inr (.inl fo))), (h0, .inr (0, [a0, a1, a2, a3, a4, a5, a6, .ref mm, a8, a9, a10])), (mm, .inr (7, [b0, b1, b2, b3, b4, b5, .ref lt, b7, b8, b9, b10, b11, b12, b13, b14, b15, b16, b17])), (lt, .inl (kt, 4, .inl (upd (upd (upd (upd (fun _ => 0) (0 : Int32).toNatClampNeg 0) (1 : Int32).toNatClampNeg (-1)) (2 : Int32).toNatClampNeg (-1)) (3 : Int32).toNatClampNeg (-1))))] := hD
    have hK : va_K D xcl [(kt, .int), (ko, .long), (kt, .int)] s := hK
    refine W.eq (g2 := F0 m 7 ls [.int 0, .int 0, .ref ou]) rfl ?_
    refine W.widen (k := 0) (n := 0) (by omega) (by omega) ?_
    refine lv_i2l (v := 0) hx hb d_Law_trap_7 (by decide +kernel) ?_
    refine va_last (i := 0) (x := 0) hx hb hK hP hD hS 0 1 rfl rfl (xt_vin (by decide +kernel)) d_Law_trap_8 (fun H locs hP hD hS => ?_)
    have hP : va_P D xcl [(ou, .inl (ko, 1, .inr (.inl (vp_updL fo (0 : Int32).toNatClampNeg 0)))), (h0, .inr (0, [a0, a1, a2, a3, a4, a5, a6, .ref mm, a8, a9, a10])), (mm, .inr (7, [b0, b1, b2, b3, b4, b5, .ref lt, b7, b8, b9, b10, b11, b12, b13, b14, b15, b16, b17])), (lt, .inl (kt, 4, .inl (upd (upd (upd (upd (fun _ => 0) (0 : Int32).toNatClampNeg 0) (1 : Int32).toNatClampNeg (-1)) (2 : Int32).toNatClampNeg (-1)) (3 : Int32).toNatClampNeg (-1))))] H := hP
    have hD : va_D A [(ou, .inl (ko, 1, .inr (.inl (vp_updL fo (0 : Int32).toNatClampNeg 0)))), (h0, .inr (0, [a0, a1, a2, a3, a4, a5, a6, .ref mm, a8, a9, a10])), (mm, .inr (7, [b0, b1, b2, b3, b4, b5, .ref lt, b7, b8, b9, b10, b11, b12, b13, b14, b15, b16, b17])), (lt, .inl (kt, 4, .inl (upd (upd (upd (upd (fun _ => 0) (0 : Int32).toNatClampNeg 0) (1 : Int32).toNatClampNeg (-1)) (2 : Int32).toNatClampNeg (-1)) (3 : Int32).toNatClampNeg (-1))))] := hD
    refine lv_goto (tgt := 15) hx hb d_Law_trap_9 rfl ?_
    refine lv_iconst (v := 0) hx hb d_Law_trap_15 (by decide) ?_
    refine W.widen (k := 0) (n := 0) (by decide) (by decide) ?_
    refine xt_mono xt_ofMQ ?_
    exact W.iret hx hb hr (fun t ht hW => ⟨(fun _ => 0), Or.inl ⟨_, rfl, rfl⟩, by rw [ht]; exact hP.sub [0, 1, 2, 3] rfl, va_K.moved hW.alike (hK.sub [1, 0] rfl), hD.sub [0, 1, 2, 3] (by decide) rfl, hS.F ht⟩) hS.2.2 d_Law_trap_16 hlocks
  · exact False.elim hp

set_option maxHeartbeats 4000000 in
set_option maxRecDepth 100000 in
theorem c_Law_trap_1 (l : Launch) (D : va_G) (h0 mm lt kt : Nat) (a0 a1 a2 a3 a4 a5 a6 a8 a9 a10 : Value) (b0 b1 b2 b3 b4 b5 b7 b8 b9 b10 b11 b12 b13 b14 b15 b16 b17 : Value) (ou ko : Nat) (fo : Nat → Int64) (sz : Nat) : xt_Met l y_Law_trap [.codeWith y_Law_trap b_Law_trap 4 (some .int) [(0, 9, 12, 29)]] ({ frames := 9, cells := 0, slots := 0, locals := 220 }) (xt_P D xcl [.ref h0, .int 1, .ref ou] [(h0, .inr (0, [a0, a1, a2, a3, a4, a5, a6, .ref mm, a8, a9, a10])), (mm, .inr (7, [b0, b1, b2, b3, b4, b5, .ref lt, b7, b8, b9, b10, b11, b12, b13, b14, b15, b16, b17])), (lt, .inl (kt, 4, .inl (upd (upd (upd (upd (fun _ => 0) (0 : Int32).toNatClampNeg 0) (1 : Int32).toNatClampNeg (-1)) (2 : Int32).toNatClampNeg (-1)) (3 : Int32).toNatClampNeg (-1)))), (ou, .inl (ko, 1, .inr (.inl fo)))] [(kt, .int), (ko, .long)] sz) (xt_Q (S := Nat → Nat) D xcl (va_A [(h0, .inr (0, [a0, a1, a2, a3, a4, a5, a6, .ref mm, a8, a9, a10])), (mm, .inr (7, [b0, b1, b2, b3, b4, b5, .ref lt, b7, b8, b9, b10, b11, b12, b13, b14, b15, b16, b17])), (lt, .inl (kt, 4, .inl (upd (upd (upd (upd (fun _ => 0) (0 : Int32).toNatClampNeg 0) (1 : Int32).toNatClampNeg (-1)) (2 : Int32).toNatClampNeg (-1)) (3 : Int32).toNatClampNeg (-1)))), (ou, .inl (ko, 1, .inr (.inl fo)))] sz) (fun v u => v = some (.int 0)) (fun _ _ => False) (fun u => [(ou, .inl (ko, 1, .inr (.inl (vp_updL fo (0 : Int32).toNatClampNeg (-1))))), (h0, .inr (0, [a0, a1, a2, a3, a4, a5, a6, .ref mm, a8, a9, a10])), (mm, .inr (7, [b0, b1, b2, b3, b4, b5, .ref lt, b7, b8, b9, b10, b11, b12, b13, b14, b15, b16, b17])), (lt, .inl (kt, 4, .inl (upd (upd (upd (upd (fun _ => 0) (0 : Int32).toNatClampNeg 0) (1 : Int32).toNatClampNeg (-1)) (2 : Int32).toNatClampNeg (-1)) (3 : Int32).toNatClampNeg (-1))))]) (fun u => [(ko, .long), (kt, .int)])) 0 0 (va_A [(h0, .inr (0, [a0, a1, a2, a3, a4, a5, a6, .ref mm, a8, a9, a10])), (mm, .inr (7, [b0, b1, b2, b3, b4, b5, .ref lt, b7, b8, b9, b10, b11, b12, b13, b14, b15, b16, b17])), (lt, .inl (kt, 4, .inl (upd (upd (upd (upd (fun _ => 0) (0 : Int32).toNatClampNeg 0) (1 : Int32).toNatClampNeg (-1)) (2 : Int32).toNatClampNeg (-1)) (3 : Int32).toNatClampNeg (-1)))), (ou, .inl (ko, 1, .inr (.inl fo)))] sz) := by
  refine xt_ofWH (cc := b_Law_trap) (maxL := 4) (ret := (some .int)) (by decide) (List.mem_singleton.mpr rfl) ?_
  intro p e s m args below meth c s₁ B hml htab hv
  obtain ⟨rfl, hsz, hB, hP, hK, hD0⟩ := hv
  subst hsz
  have hx := B.exec
  have hb := B.bytes
  have hr := B.returns
  have hts := hB.1.at ([.ref h0, .int 1, .ref ou] : List Value).toArray
  have hown : s.vm.findClass "StackHostLaw" = some m.cls := findClass_of_methodNamed B.named
  have hlocks := B.notSynchronized
  have hD := hD0.self (sz := s.heap.size)
  generalize hAe : va_A [(h0, .inr (0, [a0, a1, a2, a3, a4, a5, a6, .ref mm, a8, a9, a10])), (mm, .inr (7, [b0, b1, b2, b3, b4, b5, .ref lt, b7, b8, b9, b10, b11, b12, b13, b14, b15, b16, b17])), (lt, .inl (kt, 4, .inl (upd (upd (upd (upd (fun _ => 0) (0 : Int32).toNatClampNeg 0) (1 : Int32).toNatClampNeg (-1)) (2 : Int32).toNatClampNeg (-1)) (3 : Int32).toNatClampNeg (-1)))), (ou, .inl (ko, 1, .inr (.inl fo)))] s.heap.size = A at hB hD ⊢
  have hA : ∀ q : Nat, s.heap.size ≤ q → A q := fun q h => by rw [← hAe]; exact Or.inr h
  have hS : va_S A s.heap s.heap [] := va_S.rf
  have hl := lv_entry ([.ref h0, .int 1, .ref ou]) (n := 4) (Nat.le_of_ble_eq_true rfl)
  rw [lg_entry_eq]
  generalize (lg_sl ([.ref h0, .int 1, .ref ou]) ++ List.replicate (4 - (lg_sl ([.ref h0, .int 1, .ref ou])).length) Slot.unset).toArray = ls at hl ⊢
  have hl : lv_has ls 4 [(0, .ref h0), (1, .int 1), (2, .ref ou)] := hl
  refine lv_aload_n hx hb d_Law_trap_0 rfl (lv_at hl 2 rfl) ?_
  refine lv_iconst (v := 0) hx hb d_Law_trap_1 (by decide) ?_
  refine lv_aload_n hx hb d_Law_trap_2 rfl (lv_at hl 0 rfl) ?_
  refine lv_iload_n hx hb d_Law_trap_3 rfl (lv_at hl 1 rfl) ?_
  refine xt_call (D := D) (cl := xcl) (wr := [(ou, .inl (ko, 1, .inr (.inl fo)))]) (fun T hT X => by
    obtain ⟨cb, r1, r2, r3⟩ := va_recv hK hP (ci := 0) (q0 := 0) rfl rfl
    exact xt_invV X hx hown (hts _ m_c91e45e3) (hts _ m_59e9042a) (hts _ m_07731f9f) (xt_sigOf (hts _ m_c02db3ff)) nm_H_trap (by rw [hT]; exact r1) r2 r3 (g := F0 m 4 ls [.int 1, .ref h0, .int 0, .ref ou]) rfl (argsL := [.int 1]) (rest := [.int 0, .ref ou]) rfl rfl (by rw [hb]; exact d_Law_trap_4)) (c_H_trap_1 l D h0 mm lt kt (a0) (a1) (a2) (a3) (a4) (a5) (a6) (a8) (a9) (a10) (b0) (b1) (b2) (b3) (b4) (b5) (b7) (b8) (b9) (b10) (b11) (b12) (b13) (b14) (b15) (b16) (b17) s.heap.size) (hml.trans hl.1.symm) (by rw [hb]; exact d_Law_trap_4) (Nat.le_of_ble_eq_true rfl) rfl rfl (by decide) (by decide) (by decide) (by decide) (xt_w1 hB m_c02db3ff) (xt_cdOf hB m_c02db3ff) (hts _ m_ba0734f5) hB hK hP hD hS hA [0, 1, 2] [3] [0] rfl rfl rfl (by decide) (by decide) (by decide) (fun v2 u1 H locs hp hP hD hK hS => ?_) (fun XX9 ax9 u1 H locs hp hex hP hD hK hS => ?_)
  · obtain rfl : v2 = some (.int (-1)) := hp
    have hP : va_P D xcl [(ou, .inl (ko, 1, .inr (.inl fo))), (h0, .inr (0, [a0, a1, a2, a3, a4, a5, a6, .ref mm, a8, a9, a10])), (mm, .inr (7, [b0, b1, b2, b3, b4, b5, .ref lt, b7, b8, b9, b10, b11, b12, b13, b14, b15, b16, b17])), (lt, .inl (kt, 4, .inl (upd (upd (upd (upd (fun _ => 0) (0 : Int32).toNatClampNeg 0) (1 : Int32).toNatClampNeg (-1)) (2 : Int32).toNatClampNeg (-1)) (3 : Int32).toNatClampNeg (-1))))] H := hP
    have hD : va_D A [(ou, .inl (ko, 1, .inr (.inl fo))), (h0, .inr (0, [a0, a1, a2, a3, a4, a5, a6, .ref mm, a8, a9, a10])), (mm, .inr (7, [b0, b1, b2, b3, b4, b5, .ref lt, b7, b8, b9, b10, b11, b12, b13, b14, b15, b16, b17])), (lt, .inl (kt, 4, .inl (upd (upd (upd (upd (fun _ => 0) (0 : Int32).toNatClampNeg 0) (1 : Int32).toNatClampNeg (-1)) (2 : Int32).toNatClampNeg (-1)) (3 : Int32).toNatClampNeg (-1))))] := hD
    have hK : va_K D xcl [(kt, .int), (ko, .long), (kt, .int)] s := hK
    refine W.eq (g2 := F0 m 7 ls [.int (-1), .int 0, .ref ou]) rfl ?_
    refine W.widen (k := 0) (n := 0) (by omega) (by omega) ?_
    refine lv_i2l (v := (-1)) hx hb d_Law_trap_7 (by decide +kernel) ?_
    refine va_last (i := 0) (x := (-1)) hx hb hK hP hD hS 0 1 rfl rfl (xt_vin (by decide +kernel)) d_Law_trap_8 (fun H locs hP hD hS => ?_)
    have hP : va_P D xcl [(ou, .inl (ko, 1, .inr (.inl (vp_updL fo (0 : Int32).toNatClampNeg (-1))))), (h0, .inr (0, [a0, a1, a2, a3, a4, a5, a6, .ref mm, a8, a9, a10])), (mm, .inr (7, [b0, b1, b2, b3, b4, b5, .ref lt, b7, b8, b9, b10, b11, b12, b13, b14, b15, b16, b17])), (lt, .inl (kt, 4, .inl (upd (upd (upd (upd (fun _ => 0) (0 : Int32).toNatClampNeg 0) (1 : Int32).toNatClampNeg (-1)) (2 : Int32).toNatClampNeg (-1)) (3 : Int32).toNatClampNeg (-1))))] H := hP
    have hD : va_D A [(ou, .inl (ko, 1, .inr (.inl (vp_updL fo (0 : Int32).toNatClampNeg (-1))))), (h0, .inr (0, [a0, a1, a2, a3, a4, a5, a6, .ref mm, a8, a9, a10])), (mm, .inr (7, [b0, b1, b2, b3, b4, b5, .ref lt, b7, b8, b9, b10, b11, b12, b13, b14, b15, b16, b17])), (lt, .inl (kt, 4, .inl (upd (upd (upd (upd (fun _ => 0) (0 : Int32).toNatClampNeg 0) (1 : Int32).toNatClampNeg (-1)) (2 : Int32).toNatClampNeg (-1)) (3 : Int32).toNatClampNeg (-1))))] := hD
    refine lv_goto (tgt := 15) hx hb d_Law_trap_9 rfl ?_
    refine lv_iconst (v := 0) hx hb d_Law_trap_15 (by decide) ?_
    refine W.widen (k := 0) (n := 0) (by decide) (by decide) ?_
    refine xt_mono xt_ofMQ ?_
    exact W.iret hx hb hr (fun t ht hW => ⟨(fun _ => 0), Or.inl ⟨_, rfl, rfl⟩, by rw [ht]; exact hP.sub [0, 1, 2, 3] rfl, va_K.moved hW.alike (hK.sub [1, 0] rfl), hD.sub [0, 1, 2, 3] (by decide) rfl, hS.F ht⟩) hS.2.2 d_Law_trap_16 hlocks
  · exact False.elim hp

set_option maxHeartbeats 4000000 in
set_option maxRecDepth 100000 in
theorem c_Law_trap_2 (l : Launch) (D : va_G) (h0 mm lt kt : Nat) (a0 a1 a2 a3 a4 a5 a6 a8 a9 a10 : Value) (b0 b1 b2 b3 b4 b5 b7 b8 b9 b10 b11 b12 b13 b14 b15 b16 b17 : Value) (ou ko : Nat) (fo : Nat → Int64) (sz : Nat) : xt_Met l y_Law_trap [.codeWith y_Law_trap b_Law_trap 4 (some .int) [(0, 9, 12, 29)]] ({ frames := 9, cells := 0, slots := 0, locals := 220 }) (xt_P D xcl [.ref h0, .int 2, .ref ou] [(h0, .inr (0, [a0, a1, a2, a3, a4, a5, a6, .ref mm, a8, a9, a10])), (mm, .inr (7, [b0, b1, b2, b3, b4, b5, .ref lt, b7, b8, b9, b10, b11, b12, b13, b14, b15, b16, b17])), (lt, .inl (kt, 4, .inl (upd (upd (upd (upd (fun _ => 0) (0 : Int32).toNatClampNeg 0) (1 : Int32).toNatClampNeg (-1)) (2 : Int32).toNatClampNeg (-1)) (3 : Int32).toNatClampNeg (-1)))), (ou, .inl (ko, 1, .inr (.inl fo)))] [(kt, .int), (ko, .long)] sz) (xt_Q (S := Nat → Nat) D xcl (va_A [(h0, .inr (0, [a0, a1, a2, a3, a4, a5, a6, .ref mm, a8, a9, a10])), (mm, .inr (7, [b0, b1, b2, b3, b4, b5, .ref lt, b7, b8, b9, b10, b11, b12, b13, b14, b15, b16, b17])), (lt, .inl (kt, 4, .inl (upd (upd (upd (upd (fun _ => 0) (0 : Int32).toNatClampNeg 0) (1 : Int32).toNatClampNeg (-1)) (2 : Int32).toNatClampNeg (-1)) (3 : Int32).toNatClampNeg (-1)))), (ou, .inl (ko, 1, .inr (.inl fo)))] sz) (fun v u => v = some (.int 0)) (fun _ _ => False) (fun u => [(ou, .inl (ko, 1, .inr (.inl (vp_updL fo (0 : Int32).toNatClampNeg (-1))))), (h0, .inr (0, [a0, a1, a2, a3, a4, a5, a6, .ref mm, a8, a9, a10])), (mm, .inr (7, [b0, b1, b2, b3, b4, b5, .ref lt, b7, b8, b9, b10, b11, b12, b13, b14, b15, b16, b17])), (lt, .inl (kt, 4, .inl (upd (upd (upd (upd (fun _ => 0) (0 : Int32).toNatClampNeg 0) (1 : Int32).toNatClampNeg (-1)) (2 : Int32).toNatClampNeg (-1)) (3 : Int32).toNatClampNeg (-1))))]) (fun u => [(ko, .long), (kt, .int)])) 0 0 (va_A [(h0, .inr (0, [a0, a1, a2, a3, a4, a5, a6, .ref mm, a8, a9, a10])), (mm, .inr (7, [b0, b1, b2, b3, b4, b5, .ref lt, b7, b8, b9, b10, b11, b12, b13, b14, b15, b16, b17])), (lt, .inl (kt, 4, .inl (upd (upd (upd (upd (fun _ => 0) (0 : Int32).toNatClampNeg 0) (1 : Int32).toNatClampNeg (-1)) (2 : Int32).toNatClampNeg (-1)) (3 : Int32).toNatClampNeg (-1)))), (ou, .inl (ko, 1, .inr (.inl fo)))] sz) := by
  refine xt_ofWH (cc := b_Law_trap) (maxL := 4) (ret := (some .int)) (by decide) (List.mem_singleton.mpr rfl) ?_
  intro p e s m args below meth c s₁ B hml htab hv
  obtain ⟨rfl, hsz, hB, hP, hK, hD0⟩ := hv
  subst hsz
  have hx := B.exec
  have hb := B.bytes
  have hr := B.returns
  have hts := hB.1.at ([.ref h0, .int 2, .ref ou] : List Value).toArray
  have hown : s.vm.findClass "StackHostLaw" = some m.cls := findClass_of_methodNamed B.named
  have hlocks := B.notSynchronized
  have hD := hD0.self (sz := s.heap.size)
  generalize hAe : va_A [(h0, .inr (0, [a0, a1, a2, a3, a4, a5, a6, .ref mm, a8, a9, a10])), (mm, .inr (7, [b0, b1, b2, b3, b4, b5, .ref lt, b7, b8, b9, b10, b11, b12, b13, b14, b15, b16, b17])), (lt, .inl (kt, 4, .inl (upd (upd (upd (upd (fun _ => 0) (0 : Int32).toNatClampNeg 0) (1 : Int32).toNatClampNeg (-1)) (2 : Int32).toNatClampNeg (-1)) (3 : Int32).toNatClampNeg (-1)))), (ou, .inl (ko, 1, .inr (.inl fo)))] s.heap.size = A at hB hD ⊢
  have hA : ∀ q : Nat, s.heap.size ≤ q → A q := fun q h => by rw [← hAe]; exact Or.inr h
  have hS : va_S A s.heap s.heap [] := va_S.rf
  have hl := lv_entry ([.ref h0, .int 2, .ref ou]) (n := 4) (Nat.le_of_ble_eq_true rfl)
  rw [lg_entry_eq]
  generalize (lg_sl ([.ref h0, .int 2, .ref ou]) ++ List.replicate (4 - (lg_sl ([.ref h0, .int 2, .ref ou])).length) Slot.unset).toArray = ls at hl ⊢
  have hl : lv_has ls 4 [(0, .ref h0), (1, .int 2), (2, .ref ou)] := hl
  refine lv_aload_n hx hb d_Law_trap_0 rfl (lv_at hl 2 rfl) ?_
  refine lv_iconst (v := 0) hx hb d_Law_trap_1 (by decide) ?_
  refine lv_aload_n hx hb d_Law_trap_2 rfl (lv_at hl 0 rfl) ?_
  refine lv_iload_n hx hb d_Law_trap_3 rfl (lv_at hl 1 rfl) ?_
  refine xt_call (D := D) (cl := xcl) (wr := [(ou, .inl (ko, 1, .inr (.inl fo)))]) (fun T hT X => by
    obtain ⟨cb, r1, r2, r3⟩ := va_recv hK hP (ci := 0) (q0 := 0) rfl rfl
    exact xt_invV X hx hown (hts _ m_c91e45e3) (hts _ m_59e9042a) (hts _ m_07731f9f) (xt_sigOf (hts _ m_c02db3ff)) nm_H_trap (by rw [hT]; exact r1) r2 r3 (g := F0 m 4 ls [.int 2, .ref h0, .int 0, .ref ou]) rfl (argsL := [.int 2]) (rest := [.int 0, .ref ou]) rfl rfl (by rw [hb]; exact d_Law_trap_4)) (c_H_trap_2 l D h0 mm lt kt (a0) (a1) (a2) (a3) (a4) (a5) (a6) (a8) (a9) (a10) (b0) (b1) (b2) (b3) (b4) (b5) (b7) (b8) (b9) (b10) (b11) (b12) (b13) (b14) (b15) (b16) (b17) s.heap.size) (hml.trans hl.1.symm) (by rw [hb]; exact d_Law_trap_4) (Nat.le_of_ble_eq_true rfl) rfl rfl (by decide) (by decide) (by decide) (by decide) (xt_w1 hB m_c02db3ff) (xt_cdOf hB m_c02db3ff) (hts _ m_ba0734f5) hB hK hP hD hS hA [0, 1, 2] [3] [0] rfl rfl rfl (by decide) (by decide) (by decide) (fun v2 u1 H locs hp hP hD hK hS => ?_) (fun XX9 ax9 u1 H locs hp hex hP hD hK hS => ?_)
  · obtain rfl : v2 = some (.int (-1)) := hp
    have hP : va_P D xcl [(ou, .inl (ko, 1, .inr (.inl fo))), (h0, .inr (0, [a0, a1, a2, a3, a4, a5, a6, .ref mm, a8, a9, a10])), (mm, .inr (7, [b0, b1, b2, b3, b4, b5, .ref lt, b7, b8, b9, b10, b11, b12, b13, b14, b15, b16, b17])), (lt, .inl (kt, 4, .inl (upd (upd (upd (upd (fun _ => 0) (0 : Int32).toNatClampNeg 0) (1 : Int32).toNatClampNeg (-1)) (2 : Int32).toNatClampNeg (-1)) (3 : Int32).toNatClampNeg (-1))))] H := hP
    have hD : va_D A [(ou, .inl (ko, 1, .inr (.inl fo))), (h0, .inr (0, [a0, a1, a2, a3, a4, a5, a6, .ref mm, a8, a9, a10])), (mm, .inr (7, [b0, b1, b2, b3, b4, b5, .ref lt, b7, b8, b9, b10, b11, b12, b13, b14, b15, b16, b17])), (lt, .inl (kt, 4, .inl (upd (upd (upd (upd (fun _ => 0) (0 : Int32).toNatClampNeg 0) (1 : Int32).toNatClampNeg (-1)) (2 : Int32).toNatClampNeg (-1)) (3 : Int32).toNatClampNeg (-1))))] := hD
    have hK : va_K D xcl [(kt, .int), (ko, .long), (kt, .int)] s := hK
    refine W.eq (g2 := F0 m 7 ls [.int (-1), .int 0, .ref ou]) rfl ?_
    refine W.widen (k := 0) (n := 0) (by omega) (by omega) ?_
    refine lv_i2l (v := (-1)) hx hb d_Law_trap_7 (by decide +kernel) ?_
    refine va_last (i := 0) (x := (-1)) hx hb hK hP hD hS 0 1 rfl rfl (xt_vin (by decide +kernel)) d_Law_trap_8 (fun H locs hP hD hS => ?_)
    have hP : va_P D xcl [(ou, .inl (ko, 1, .inr (.inl (vp_updL fo (0 : Int32).toNatClampNeg (-1))))), (h0, .inr (0, [a0, a1, a2, a3, a4, a5, a6, .ref mm, a8, a9, a10])), (mm, .inr (7, [b0, b1, b2, b3, b4, b5, .ref lt, b7, b8, b9, b10, b11, b12, b13, b14, b15, b16, b17])), (lt, .inl (kt, 4, .inl (upd (upd (upd (upd (fun _ => 0) (0 : Int32).toNatClampNeg 0) (1 : Int32).toNatClampNeg (-1)) (2 : Int32).toNatClampNeg (-1)) (3 : Int32).toNatClampNeg (-1))))] H := hP
    have hD : va_D A [(ou, .inl (ko, 1, .inr (.inl (vp_updL fo (0 : Int32).toNatClampNeg (-1))))), (h0, .inr (0, [a0, a1, a2, a3, a4, a5, a6, .ref mm, a8, a9, a10])), (mm, .inr (7, [b0, b1, b2, b3, b4, b5, .ref lt, b7, b8, b9, b10, b11, b12, b13, b14, b15, b16, b17])), (lt, .inl (kt, 4, .inl (upd (upd (upd (upd (fun _ => 0) (0 : Int32).toNatClampNeg 0) (1 : Int32).toNatClampNeg (-1)) (2 : Int32).toNatClampNeg (-1)) (3 : Int32).toNatClampNeg (-1))))] := hD
    refine lv_goto (tgt := 15) hx hb d_Law_trap_9 rfl ?_
    refine lv_iconst (v := 0) hx hb d_Law_trap_15 (by decide) ?_
    refine W.widen (k := 0) (n := 0) (by decide) (by decide) ?_
    refine xt_mono xt_ofMQ ?_
    exact W.iret hx hb hr (fun t ht hW => ⟨(fun _ => 0), Or.inl ⟨_, rfl, rfl⟩, by rw [ht]; exact hP.sub [0, 1, 2, 3] rfl, va_K.moved hW.alike (hK.sub [1, 0] rfl), hD.sub [0, 1, 2, 3] (by decide) rfl, hS.F ht⟩) hS.2.2 d_Law_trap_16 hlocks
  · exact False.elim hp

set_option maxHeartbeats 4000000 in
set_option maxRecDepth 100000 in
theorem c_Law_trap_3 (l : Launch) (D : va_G) (h0 mm lt kt : Nat) (a0 a1 a2 a3 a4 a5 a6 a8 a9 a10 : Value) (b0 b1 b2 b3 b4 b5 b7 b8 b9 b10 b11 b12 b13 b14 b15 b16 b17 : Value) (ou ko : Nat) (fo : Nat → Int64) (sz : Nat) : xt_Met l y_Law_trap [.codeWith y_Law_trap b_Law_trap 4 (some .int) [(0, 9, 12, 29)]] ({ frames := 9, cells := 0, slots := 0, locals := 220 }) (xt_P D xcl [.ref h0, .int 3, .ref ou] [(h0, .inr (0, [a0, a1, a2, a3, a4, a5, a6, .ref mm, a8, a9, a10])), (mm, .inr (7, [b0, b1, b2, b3, b4, b5, .ref lt, b7, b8, b9, b10, b11, b12, b13, b14, b15, b16, b17])), (lt, .inl (kt, 4, .inl (upd (upd (upd (upd (fun _ => 0) (0 : Int32).toNatClampNeg 0) (1 : Int32).toNatClampNeg (-1)) (2 : Int32).toNatClampNeg (-1)) (3 : Int32).toNatClampNeg (-1)))), (ou, .inl (ko, 1, .inr (.inl fo)))] [(kt, .int), (ko, .long)] sz) (xt_Q (S := Nat → Nat) D xcl (va_A [(h0, .inr (0, [a0, a1, a2, a3, a4, a5, a6, .ref mm, a8, a9, a10])), (mm, .inr (7, [b0, b1, b2, b3, b4, b5, .ref lt, b7, b8, b9, b10, b11, b12, b13, b14, b15, b16, b17])), (lt, .inl (kt, 4, .inl (upd (upd (upd (upd (fun _ => 0) (0 : Int32).toNatClampNeg 0) (1 : Int32).toNatClampNeg (-1)) (2 : Int32).toNatClampNeg (-1)) (3 : Int32).toNatClampNeg (-1)))), (ou, .inl (ko, 1, .inr (.inl fo)))] sz) (fun v u => v = some (.int 0)) (fun _ _ => False) (fun u => [(ou, .inl (ko, 1, .inr (.inl (vp_updL fo (0 : Int32).toNatClampNeg (-1))))), (h0, .inr (0, [a0, a1, a2, a3, a4, a5, a6, .ref mm, a8, a9, a10])), (mm, .inr (7, [b0, b1, b2, b3, b4, b5, .ref lt, b7, b8, b9, b10, b11, b12, b13, b14, b15, b16, b17])), (lt, .inl (kt, 4, .inl (upd (upd (upd (upd (fun _ => 0) (0 : Int32).toNatClampNeg 0) (1 : Int32).toNatClampNeg (-1)) (2 : Int32).toNatClampNeg (-1)) (3 : Int32).toNatClampNeg (-1))))]) (fun u => [(ko, .long), (kt, .int)])) 0 0 (va_A [(h0, .inr (0, [a0, a1, a2, a3, a4, a5, a6, .ref mm, a8, a9, a10])), (mm, .inr (7, [b0, b1, b2, b3, b4, b5, .ref lt, b7, b8, b9, b10, b11, b12, b13, b14, b15, b16, b17])), (lt, .inl (kt, 4, .inl (upd (upd (upd (upd (fun _ => 0) (0 : Int32).toNatClampNeg 0) (1 : Int32).toNatClampNeg (-1)) (2 : Int32).toNatClampNeg (-1)) (3 : Int32).toNatClampNeg (-1)))), (ou, .inl (ko, 1, .inr (.inl fo)))] sz) := by
  refine xt_ofWH (cc := b_Law_trap) (maxL := 4) (ret := (some .int)) (by decide) (List.mem_singleton.mpr rfl) ?_
  intro p e s m args below meth c s₁ B hml htab hv
  obtain ⟨rfl, hsz, hB, hP, hK, hD0⟩ := hv
  subst hsz
  have hx := B.exec
  have hb := B.bytes
  have hr := B.returns
  have hts := hB.1.at ([.ref h0, .int 3, .ref ou] : List Value).toArray
  have hown : s.vm.findClass "StackHostLaw" = some m.cls := findClass_of_methodNamed B.named
  have hlocks := B.notSynchronized
  have hD := hD0.self (sz := s.heap.size)
  generalize hAe : va_A [(h0, .inr (0, [a0, a1, a2, a3, a4, a5, a6, .ref mm, a8, a9, a10])), (mm, .inr (7, [b0, b1, b2, b3, b4, b5, .ref lt, b7, b8, b9, b10, b11, b12, b13, b14, b15, b16, b17])), (lt, .inl (kt, 4, .inl (upd (upd (upd (upd (fun _ => 0) (0 : Int32).toNatClampNeg 0) (1 : Int32).toNatClampNeg (-1)) (2 : Int32).toNatClampNeg (-1)) (3 : Int32).toNatClampNeg (-1)))), (ou, .inl (ko, 1, .inr (.inl fo)))] s.heap.size = A at hB hD ⊢
  have hA : ∀ q : Nat, s.heap.size ≤ q → A q := fun q h => by rw [← hAe]; exact Or.inr h
  have hS : va_S A s.heap s.heap [] := va_S.rf
  have hl := lv_entry ([.ref h0, .int 3, .ref ou]) (n := 4) (Nat.le_of_ble_eq_true rfl)
  rw [lg_entry_eq]
  generalize (lg_sl ([.ref h0, .int 3, .ref ou]) ++ List.replicate (4 - (lg_sl ([.ref h0, .int 3, .ref ou])).length) Slot.unset).toArray = ls at hl ⊢
  have hl : lv_has ls 4 [(0, .ref h0), (1, .int 3), (2, .ref ou)] := hl
  refine lv_aload_n hx hb d_Law_trap_0 rfl (lv_at hl 2 rfl) ?_
  refine lv_iconst (v := 0) hx hb d_Law_trap_1 (by decide) ?_
  refine lv_aload_n hx hb d_Law_trap_2 rfl (lv_at hl 0 rfl) ?_
  refine lv_iload_n hx hb d_Law_trap_3 rfl (lv_at hl 1 rfl) ?_
  refine xt_call (D := D) (cl := xcl) (wr := [(ou, .inl (ko, 1, .inr (.inl fo)))]) (fun T hT X => by
    obtain ⟨cb, r1, r2, r3⟩ := va_recv hK hP (ci := 0) (q0 := 0) rfl rfl
    exact xt_invV X hx hown (hts _ m_c91e45e3) (hts _ m_59e9042a) (hts _ m_07731f9f) (xt_sigOf (hts _ m_c02db3ff)) nm_H_trap (by rw [hT]; exact r1) r2 r3 (g := F0 m 4 ls [.int 3, .ref h0, .int 0, .ref ou]) rfl (argsL := [.int 3]) (rest := [.int 0, .ref ou]) rfl rfl (by rw [hb]; exact d_Law_trap_4)) (c_H_trap_3 l D h0 mm lt kt (a0) (a1) (a2) (a3) (a4) (a5) (a6) (a8) (a9) (a10) (b0) (b1) (b2) (b3) (b4) (b5) (b7) (b8) (b9) (b10) (b11) (b12) (b13) (b14) (b15) (b16) (b17) s.heap.size) (hml.trans hl.1.symm) (by rw [hb]; exact d_Law_trap_4) (Nat.le_of_ble_eq_true rfl) rfl rfl (by decide) (by decide) (by decide) (by decide) (xt_w1 hB m_c02db3ff) (xt_cdOf hB m_c02db3ff) (hts _ m_ba0734f5) hB hK hP hD hS hA [0, 1, 2] [3] [0] rfl rfl rfl (by decide) (by decide) (by decide) (fun v2 u1 H locs hp hP hD hK hS => ?_) (fun XX9 ax9 u1 H locs hp hex hP hD hK hS => ?_)
  · obtain rfl : v2 = some (.int (-1)) := hp
    have hP : va_P D xcl [(ou, .inl (ko, 1, .inr (.inl fo))), (h0, .inr (0, [a0, a1, a2, a3, a4, a5, a6, .ref mm, a8, a9, a10])), (mm, .inr (7, [b0, b1, b2, b3, b4, b5, .ref lt, b7, b8, b9, b10, b11, b12, b13, b14, b15, b16, b17])), (lt, .inl (kt, 4, .inl (upd (upd (upd (upd (fun _ => 0) (0 : Int32).toNatClampNeg 0) (1 : Int32).toNatClampNeg (-1)) (2 : Int32).toNatClampNeg (-1)) (3 : Int32).toNatClampNeg (-1))))] H := hP
    have hD : va_D A [(ou, .inl (ko, 1, .inr (.inl fo))), (h0, .inr (0, [a0, a1, a2, a3, a4, a5, a6, .ref mm, a8, a9, a10])), (mm, .inr (7, [b0, b1, b2, b3, b4, b5, .ref lt, b7, b8, b9, b10, b11, b12, b13, b14, b15, b16, b17])), (lt, .inl (kt, 4, .inl (upd (upd (upd (upd (fun _ => 0) (0 : Int32).toNatClampNeg 0) (1 : Int32).toNatClampNeg (-1)) (2 : Int32).toNatClampNeg (-1)) (3 : Int32).toNatClampNeg (-1))))] := hD
    have hK : va_K D xcl [(kt, .int), (ko, .long), (kt, .int)] s := hK
    refine W.eq (g2 := F0 m 7 ls [.int (-1), .int 0, .ref ou]) rfl ?_
    refine W.widen (k := 0) (n := 0) (by omega) (by omega) ?_
    refine lv_i2l (v := (-1)) hx hb d_Law_trap_7 (by decide +kernel) ?_
    refine va_last (i := 0) (x := (-1)) hx hb hK hP hD hS 0 1 rfl rfl (xt_vin (by decide +kernel)) d_Law_trap_8 (fun H locs hP hD hS => ?_)
    have hP : va_P D xcl [(ou, .inl (ko, 1, .inr (.inl (vp_updL fo (0 : Int32).toNatClampNeg (-1))))), (h0, .inr (0, [a0, a1, a2, a3, a4, a5, a6, .ref mm, a8, a9, a10])), (mm, .inr (7, [b0, b1, b2, b3, b4, b5, .ref lt, b7, b8, b9, b10, b11, b12, b13, b14, b15, b16, b17])), (lt, .inl (kt, 4, .inl (upd (upd (upd (upd (fun _ => 0) (0 : Int32).toNatClampNeg 0) (1 : Int32).toNatClampNeg (-1)) (2 : Int32).toNatClampNeg (-1)) (3 : Int32).toNatClampNeg (-1))))] H := hP
    have hD : va_D A [(ou, .inl (ko, 1, .inr (.inl (vp_updL fo (0 : Int32).toNatClampNeg (-1))))), (h0, .inr (0, [a0, a1, a2, a3, a4, a5, a6, .ref mm, a8, a9, a10])), (mm, .inr (7, [b0, b1, b2, b3, b4, b5, .ref lt, b7, b8, b9, b10, b11, b12, b13, b14, b15, b16, b17])), (lt, .inl (kt, 4, .inl (upd (upd (upd (upd (fun _ => 0) (0 : Int32).toNatClampNeg 0) (1 : Int32).toNatClampNeg (-1)) (2 : Int32).toNatClampNeg (-1)) (3 : Int32).toNatClampNeg (-1))))] := hD
    refine lv_goto (tgt := 15) hx hb d_Law_trap_9 rfl ?_
    refine lv_iconst (v := 0) hx hb d_Law_trap_15 (by decide) ?_
    refine W.widen (k := 0) (n := 0) (by decide) (by decide) ?_
    refine xt_mono xt_ofMQ ?_
    exact W.iret hx hb hr (fun t ht hW => ⟨(fun _ => 0), Or.inl ⟨_, rfl, rfl⟩, by rw [ht]; exact hP.sub [0, 1, 2, 3] rfl, va_K.moved hW.alike (hK.sub [1, 0] rfl), hD.sub [0, 1, 2, 3] (by decide) rfl, hS.F ht⟩) hS.2.2 d_Law_trap_16 hlocks
  · exact False.elim hp

set_option maxHeartbeats 4000000 in
set_option maxRecDepth 100000 in
theorem c_Law_trap_t (l : Launch) (hfl : l.flags = pinnedFlags ++ [noTraceFlag]) (D : va_G) (h0 mm lt kt : Nat) (w : Int32) (a0 a1 a2 a3 a4 a5 a6 a8 a9 a10 : Value) (b0 b1 b2 b3 b4 b5 b7 b8 b9 b10 b11 b12 b13 b14 b15 b16 b17 : Value) (ou ko : Nat) (fo : Nat → Int64) (sz : Nat) (hw : w < 0 ∨ 3 < w) : xt_Met l y_Law_trap [.codeWith y_Law_trap b_Law_trap 4 (some .int) [(0, 9, 12, 29)]] ({ frames := 9, cells := 1, slots := 6, locals := 220 }) (xt_P D xcl [.ref h0, .int w, .ref ou] [(h0, .inr (0, [a0, a1, a2, a3, a4, a5, a6, .ref mm, a8, a9, a10])), (mm, .inr (7, [b0, b1, b2, b3, b4, b5, .ref lt, b7, b8, b9, b10, b11, b12, b13, b14, b15, b16, b17])), (lt, .inl (kt, 4, .inl (upd (upd (upd (upd (fun _ => 0) (0 : Int32).toNatClampNeg 0) (1 : Int32).toNatClampNeg (-1)) (2 : Int32).toNatClampNeg (-1)) (3 : Int32).toNatClampNeg (-1)))), (ou, .inl (ko, 1, .inr (.inl fo)))] [(kt, .int), (ko, .long)] sz) (xt_Q (S := Nat → Nat) D xcl (va_A [(h0, .inr (0, [a0, a1, a2, a3, a4, a5, a6, .ref mm, a8, a9, a10])), (mm, .inr (7, [b0, b1, b2, b3, b4, b5, .ref lt, b7, b8, b9, b10, b11, b12, b13, b14, b15, b16, b17])), (lt, .inl (kt, 4, .inl (upd (upd (upd (upd (fun _ => 0) (0 : Int32).toNatClampNeg 0) (1 : Int32).toNatClampNeg (-1)) (2 : Int32).toNatClampNeg (-1)) (3 : Int32).toNatClampNeg (-1)))), (ou, .inl (ko, 1, .inr (.inl fo)))] sz) (fun v u => v = some (.int 1)) (fun _ _ => False) (fun u => [(ou, .inl (ko, 1, .inr (.inl fo))), (h0, .inr (0, [a0, a1, a2, a3, a4, a5, a6, .ref mm, a8, a9, a10])), (mm, .inr (7, [b0, b1, b2, b3, b4, b5, .ref lt, b7, b8, b9, b10, b11, b12, b13, b14, b15, b16, b17])), (lt, .inl (kt, 4, .inl (upd (upd (upd (upd (fun _ => 0) (0 : Int32).toNatClampNeg 0) (1 : Int32).toNatClampNeg (-1)) (2 : Int32).toNatClampNeg (-1)) (3 : Int32).toNatClampNeg (-1))))]) (fun u => [(ko, .long), (kt, .int)])) 1 6 (va_A [(h0, .inr (0, [a0, a1, a2, a3, a4, a5, a6, .ref mm, a8, a9, a10])), (mm, .inr (7, [b0, b1, b2, b3, b4, b5, .ref lt, b7, b8, b9, b10, b11, b12, b13, b14, b15, b16, b17])), (lt, .inl (kt, 4, .inl (upd (upd (upd (upd (fun _ => 0) (0 : Int32).toNatClampNeg 0) (1 : Int32).toNatClampNeg (-1)) (2 : Int32).toNatClampNeg (-1)) (3 : Int32).toNatClampNeg (-1)))), (ou, .inl (ko, 1, .inr (.inl fo)))] sz) := by
  refine xt_ofWH (cc := b_Law_trap) (maxL := 4) (ret := (some .int)) (by decide) (List.mem_singleton.mpr rfl) ?_
  intro p e s m args below meth c s₁ B hml htab hv
  obtain ⟨rfl, hsz, hB, hP, hK, hD0⟩ := hv
  subst hsz
  have hx := B.exec
  have hb := B.bytes
  have hr := B.returns
  have hts := hB.1.at ([.ref h0, .int w, .ref ou] : List Value).toArray
  have hown : s.vm.findClass "StackHostLaw" = some m.cls := findClass_of_methodNamed B.named
  have hlocks := B.notSynchronized
  have hD := hD0.self (sz := s.heap.size)
  generalize hAe : va_A [(h0, .inr (0, [a0, a1, a2, a3, a4, a5, a6, .ref mm, a8, a9, a10])), (mm, .inr (7, [b0, b1, b2, b3, b4, b5, .ref lt, b7, b8, b9, b10, b11, b12, b13, b14, b15, b16, b17])), (lt, .inl (kt, 4, .inl (upd (upd (upd (upd (fun _ => 0) (0 : Int32).toNatClampNeg 0) (1 : Int32).toNatClampNeg (-1)) (2 : Int32).toNatClampNeg (-1)) (3 : Int32).toNatClampNeg (-1)))), (ou, .inl (ko, 1, .inr (.inl fo)))] s.heap.size = A at hB hD ⊢
  have hA : ∀ q : Nat, s.heap.size ≤ q → A q := fun q h => by rw [← hAe]; exact Or.inr h
  have hS : va_S A s.heap s.heap [] := va_S.rf
  have hl := lv_entry ([.ref h0, .int w, .ref ou]) (n := 4) (Nat.le_of_ble_eq_true rfl)
  rw [lg_entry_eq]
  generalize (lg_sl ([.ref h0, .int w, .ref ou]) ++ List.replicate (4 - (lg_sl ([.ref h0, .int w, .ref ou])).length) Slot.unset).toArray = ls at hl ⊢
  have hl : lv_has ls 4 [(0, .ref h0), (1, .int w), (2, .ref ou)] := hl
  refine lv_aload_n hx hb d_Law_trap_0 rfl (lv_at hl 2 rfl) ?_
  refine lv_iconst (v := 0) hx hb d_Law_trap_1 (by decide) ?_
  refine lv_aload_n hx hb d_Law_trap_2 rfl (lv_at hl 0 rfl) ?_
  refine lv_iload_n hx hb d_Law_trap_3 rfl (lv_at hl 1 rfl) ?_
  refine xt_call (D := D) (cl := xcl) (wr := [(ou, .inl (ko, 1, .inr (.inl fo)))]) (fun T hT X => by
    obtain ⟨cb, r1, r2, r3⟩ := va_recv hK hP (ci := 0) (q0 := 0) rfl rfl
    exact xt_invV X hx hown (hts _ m_c91e45e3) (hts _ m_59e9042a) (hts _ m_07731f9f) (xt_sigOf (hts _ m_c02db3ff)) nm_H_trap (by rw [hT]; exact r1) r2 r3 (g := F0 m 4 ls [.int w, .ref h0, .int 0, .ref ou]) rfl (argsL := [.int w]) (rest := [.int 0, .ref ou]) rfl rfl (by rw [hb]; exact d_Law_trap_4)) (c_H_trap_t l hfl D h0 mm lt kt w (a0) (a1) (a2) (a3) (a4) (a5) (a6) (a8) (a9) (a10) (b0) (b1) (b2) (b3) (b4) (b5) (b7) (b8) (b9) (b10) (b11) (b12) (b13) (b14) (b15) (b16) (b17) s.heap.size hw) (hml.trans hl.1.symm) (by rw [hb]; exact d_Law_trap_4) (Nat.le_of_ble_eq_true rfl) rfl rfl (by decide) (by decide) (by decide) (by decide) (xt_w1 hB m_c02db3ff) (xt_cdOf hB m_c02db3ff) (hts _ m_ba0734f5) hB hK hP hD hS hA [0, 1, 2] [3] [0] rfl rfl rfl (by decide) (by decide) (by decide) (fun v2 u1 H locs hp hP hD hK hS => ?_) (fun XX9 ax9 u1 H locs hp hex hP hD hK hS => ?_)
  · exact False.elim hp
  · have hp : XX9 = "java/lang/IndexOutOfBoundsException" := hp
    subst hp
    have hP : va_P D xcl [(ou, .inl (ko, 1, .inr (.inl fo))), (h0, .inr (0, [a0, a1, a2, a3, a4, a5, a6, .ref mm, a8, a9, a10])), (mm, .inr (7, [b0, b1, b2, b3, b4, b5, .ref lt, b7, b8, b9, b10, b11, b12, b13, b14, b15, b16, b17])), (lt, .inl (kt, 4, .inl (upd (upd (upd (upd (fun _ => 0) (0 : Int32).toNatClampNeg 0) (1 : Int32).toNatClampNeg (-1)) (2 : Int32).toNatClampNeg (-1)) (3 : Int32).toNatClampNeg (-1))))] H := hP
    have hD : va_D A [(ou, .inl (ko, 1, .inr (.inl fo))), (h0, .inr (0, [a0, a1, a2, a3, a4, a5, a6, .ref mm, a8, a9, a10])), (mm, .inr (7, [b0, b1, b2, b3, b4, b5, .ref lt, b7, b8, b9, b10, b11, b12, b13, b14, b15, b16, b17])), (lt, .inl (kt, 4, .inl (upd (upd (upd (upd (fun _ => 0) (0 : Int32).toNatClampNeg 0) (1 : Int32).toNatClampNeg (-1)) (2 : Int32).toNatClampNeg (-1)) (3 : Int32).toNatClampNeg (-1))))] := hD
    have hK : va_K D xcl [(kt, .int), (ko, .long), (kt, .int)] s := hK
    refine xt_catch (own := "StackHostLaw") (name := "java/lang/IndexOutOfBoundsException") (Xn := "java/lang/IndexOutOfBoundsException") hown ⟨0, 9, 12, 29⟩ [] htab (by decide) (by decide) (hts _ m_17a0b3c6) (hts _ m_b0d3d118) hex ?_
    refine W.eq (g2 := F0 m 12 ls [.ref ax9]) rfl ?_
    refine W.widen (k := 1) (n := 6) (by omega) (by omega) ?_
    refine lv_astore_n hx hb d_Law_trap_12 rfl hl (by decide) rfl (fun ls hl => ?_)
    have hl : lv_has ls 4 [(3, .ref ax9), (0, .ref h0), (1, .int w), (2, .ref ou)] := hl
    refine lv_iconst (v := 1) hx hb d_Law_trap_13 (by decide) ?_
    refine W.widen (k := 1) (n := 6) (by decide) (by decide) ?_
    refine xt_mono xt_ofMQ ?_
    exact W.iret hx hb hr (fun t ht hW => ⟨(fun _ => 0), Or.inl ⟨_, rfl, rfl⟩, by rw [ht]; exact hP.sub [0, 1, 2, 3] rfl, va_K.moved hW.alike (hK.sub [1, 0] rfl), hD.sub [0, 1, 2, 3] (by decide) rfl, hS.F ht⟩) hS.2.2 d_Law_trap_14 hlocks

set_option maxHeartbeats 4000000 in
set_option maxRecDepth 100000 in
theorem c_Law_pages (l : Launch) (hfl : l.flags = pinnedFlags ++ [noTraceFlag]) (D : va_G) (h0 ww : Nat) (i : Int32) (a0 a1 a2 a3 a4 a5 a7 a8 a9 a10 : Value) (b0 b2 b3 b4 b5 b6 b7 b8 b9 b10 b11 b12 b13 b14 b15 : Value) (ou ko : Nat) (fo : Nat → Int64) (sz : Nat) : xt_Met l y_Law_pages [.codeWith y_Law_pages b_Law_pages 4 (some .int) [(0, 9, 12, 29)]] ({ frames := 10, cells := 1, slots := 6, locals := 320 }) (xt_P D xcl [.ref h0, .int i, .ref ou] [(h0, .inr (0, [a0, a1, a2, a3, a4, a5, .ref ww, a7, a8, a9, a10])), (ww, .inr (6, [b0, .int 0, b2, b3, b4, b5, b6, b7, b8, b9, b10, b11, b12, b13, b14, b15])), (ou, .inl (ko, 1, .inr (.inl fo)))] [(ko, .long)] sz) (xt_Q (S := Nat → Nat) D xcl (va_A [(h0, .inr (0, [a0, a1, a2, a3, a4, a5, .ref ww, a7, a8, a9, a10])), (ww, .inr (6, [b0, .int 0, b2, b3, b4, b5, b6, b7, b8, b9, b10, b11, b12, b13, b14, b15])), (ou, .inl (ko, 1, .inr (.inl fo)))] sz) (fun v u => v = some (.int 1)) (fun _ _ => False) (fun u => [(ou, .inl (ko, 1, .inr (.inl fo))), (h0, .inr (0, [a0, a1, a2, a3, a4, a5, .ref ww, a7, a8, a9, a10])), (ww, .inr (6, [b0, .int 0, b2, b3, b4, b5, b6, b7, b8, b9, b10, b11, b12, b13, b14, b15]))]) (fun u => [(ko, .long)])) 1 6 (va_A [(h0, .inr (0, [a0, a1, a2, a3, a4, a5, .ref ww, a7, a8, a9, a10])), (ww, .inr (6, [b0, .int 0, b2, b3, b4, b5, b6, b7, b8, b9, b10, b11, b12, b13, b14, b15])), (ou, .inl (ko, 1, .inr (.inl fo)))] sz) := by
  refine xt_ofWH (cc := b_Law_pages) (maxL := 4) (ret := (some .int)) (by decide) (List.mem_singleton.mpr rfl) ?_
  intro p e s m args below meth c s₁ B hml htab hv
  obtain ⟨rfl, hsz, hB, hP, hK, hD0⟩ := hv
  subst hsz
  have hx := B.exec
  have hb := B.bytes
  have hr := B.returns
  have hts := hB.1.at ([.ref h0, .int i, .ref ou] : List Value).toArray
  have hown : s.vm.findClass "StackHostLaw" = some m.cls := findClass_of_methodNamed B.named
  have hlocks := B.notSynchronized
  have hD := hD0.self (sz := s.heap.size)
  generalize hAe : va_A [(h0, .inr (0, [a0, a1, a2, a3, a4, a5, .ref ww, a7, a8, a9, a10])), (ww, .inr (6, [b0, .int 0, b2, b3, b4, b5, b6, b7, b8, b9, b10, b11, b12, b13, b14, b15])), (ou, .inl (ko, 1, .inr (.inl fo)))] s.heap.size = A at hB hD ⊢
  have hA : ∀ q : Nat, s.heap.size ≤ q → A q := fun q h => by rw [← hAe]; exact Or.inr h
  have hS : va_S A s.heap s.heap [] := va_S.rf
  have hl := lv_entry ([.ref h0, .int i, .ref ou]) (n := 4) (Nat.le_of_ble_eq_true rfl)
  rw [lg_entry_eq]
  generalize (lg_sl ([.ref h0, .int i, .ref ou]) ++ List.replicate (4 - (lg_sl ([.ref h0, .int i, .ref ou])).length) Slot.unset).toArray = ls at hl ⊢
  have hl : lv_has ls 4 [(0, .ref h0), (1, .int i), (2, .ref ou)] := hl
  refine lv_aload_n hx hb d_Law_pages_0 rfl (lv_at hl 2 rfl) ?_
  refine lv_iconst (v := 0) hx hb d_Law_pages_1 (by decide) ?_
  refine lv_aload_n hx hb d_Law_pages_2 rfl (lv_at hl 0 rfl) ?_
  refine lv_iload_n hx hb d_Law_pages_3 rfl (lv_at hl 1 rfl) ?_
  refine xt_call (D := D) (cl := xcl) (wr := [(ou, .inl (ko, 1, .inr (.inl fo)))]) (fun T hT X => by
    obtain ⟨cb, r1, r2, r3⟩ := va_recv hK hP (ci := 0) (q0 := 0) rfl rfl
    exact xt_invV X hx hown (hts _ m_e5bf94e4) (hts _ m_e0b9d044) (hts _ m_31b5e7fd) (xt_sigOf (hts _ m_2758ffe3)) nm_H_pages (by rw [hT]; exact r1) r2 r3 (g := F0 m 4 ls [.int i, .ref h0, .int 0, .ref ou]) rfl (argsL := [.int i]) (rest := [.int 0, .ref ou]) rfl rfl (by rw [hb]; exact d_Law_pages_4)) (c_H_pages l hfl D h0 ww i (a0) (a1) (a2) (a3) (a4) (a5) (a7) (a8) (a9) (a10) (b0) (b2) (b3) (b4) (b5) (b6) (b7) (b8) (b9) (b10) (b11) (b12) (b13) (b14) (b15) s.heap.size) (hml.trans hl.1.symm) (by rw [hb]; exact d_Law_pages_4) (Nat.le_of_ble_eq_true rfl) rfl rfl (by decide) (by decide) (by decide) (by decide) (xt_w1 hB m_2758ffe3) (xt_cdOf hB m_2758ffe3) (hts _ m_ba0734f5) hB hK hP hD hS hA [0, 1] [2] [] rfl rfl rfl (by decide) (by decide) (by decide) (fun v2 u1 H locs hp hP hD hK hS => ?_) (fun XX9 ax9 u1 H locs hp hex hP hD hK hS => ?_)
  · exact False.elim hp
  · have hp : XX9 = "java/lang/IndexOutOfBoundsException" := hp
    subst hp
    have hP : va_P D xcl [(ou, .inl (ko, 1, .inr (.inl fo))), (h0, .inr (0, [a0, a1, a2, a3, a4, a5, .ref ww, a7, a8, a9, a10])), (ww, .inr (6, [b0, .int 0, b2, b3, b4, b5, b6, b7, b8, b9, b10, b11, b12, b13, b14, b15]))] H := hP
    have hD : va_D A [(ou, .inl (ko, 1, .inr (.inl fo))), (h0, .inr (0, [a0, a1, a2, a3, a4, a5, .ref ww, a7, a8, a9, a10])), (ww, .inr (6, [b0, .int 0, b2, b3, b4, b5, b6, b7, b8, b9, b10, b11, b12, b13, b14, b15]))] := hD
    have hK : va_K D xcl [(ko, .long)] s := hK
    refine xt_catch (own := "StackHostLaw") (name := "java/lang/IndexOutOfBoundsException") (Xn := "java/lang/IndexOutOfBoundsException") hown ⟨0, 9, 12, 29⟩ [] htab (by decide) (by decide) (hts _ m_17a0b3c6) (hts _ m_b0d3d118) hex ?_
    refine W.eq (g2 := F0 m 12 ls [.ref ax9]) rfl ?_
    refine W.widen (k := 1) (n := 6) (by omega) (by omega) ?_
    refine lv_astore_n hx hb d_Law_pages_12 rfl hl (by decide) rfl (fun ls hl => ?_)
    have hl : lv_has ls 4 [(3, .ref ax9), (0, .ref h0), (1, .int i), (2, .ref ou)] := hl
    refine lv_iconst (v := 1) hx hb d_Law_pages_13 (by decide) ?_
    refine W.widen (k := 1) (n := 6) (by decide) (by decide) ?_
    refine xt_mono xt_ofMQ ?_
    exact W.iret hx hb hr (fun t ht hW => ⟨(fun _ => 0), Or.inl ⟨_, rfl, rfl⟩, by rw [ht]; exact hP.sub [0, 1, 2] rfl, va_K.moved hW.alike (hK.sub [0] rfl), hD.sub [0, 1, 2] (by decide) rfl, hS.F ht⟩) hS.2.2 d_Law_pages_14 hlocks

set_option maxHeartbeats 4000000 in
set_option maxRecDepth 100000 in
theorem c_Law_peek (l : Launch) (hfl : l.flags = pinnedFlags ++ [noTraceFlag]) (D : va_G) (h0 ww : Nat) (i k : Int32) (a0 a1 a2 a3 a4 a5 a7 a8 a9 a10 : Value) (b0 b2 b3 b4 b5 b6 b7 b8 b9 b10 b11 b12 b13 b14 b15 : Value) (ou ko : Nat) (fo : Nat → Int64) (sz : Nat) : xt_Met l y_Law_peek [.codeWith y_Law_peek b_Law_peek 5 (some .int) [(0, 10, 13, 29)]] ({ frames := 11, cells := 1, slots := 6, locals := 420 }) (xt_P D xcl [.ref h0, .int i, .int k, .ref ou] [(h0, .inr (0, [a0, a1, a2, a3, a4, a5, .ref ww, a7, a8, a9, a10])), (ww, .inr (6, [b0, .int 0, b2, b3, b4, b5, b6, b7, b8, b9, b10, b11, b12, b13, b14, b15])), (ou, .inl (ko, 1, .inr (.inl fo)))] [(ko, .long)] sz) (xt_Q (S := Nat → Nat) D xcl (va_A [(h0, .inr (0, [a0, a1, a2, a3, a4, a5, .ref ww, a7, a8, a9, a10])), (ww, .inr (6, [b0, .int 0, b2, b3, b4, b5, b6, b7, b8, b9, b10, b11, b12, b13, b14, b15])), (ou, .inl (ko, 1, .inr (.inl fo)))] sz) (fun v u => v = some (.int 1)) (fun _ _ => False) (fun u => [(ou, .inl (ko, 1, .inr (.inl fo))), (h0, .inr (0, [a0, a1, a2, a3, a4, a5, .ref ww, a7, a8, a9, a10])), (ww, .inr (6, [b0, .int 0, b2, b3, b4, b5, b6, b7, b8, b9, b10, b11, b12, b13, b14, b15]))]) (fun u => [(ko, .long)])) 1 6 (va_A [(h0, .inr (0, [a0, a1, a2, a3, a4, a5, .ref ww, a7, a8, a9, a10])), (ww, .inr (6, [b0, .int 0, b2, b3, b4, b5, b6, b7, b8, b9, b10, b11, b12, b13, b14, b15])), (ou, .inl (ko, 1, .inr (.inl fo)))] sz) := by
  refine xt_ofWH (cc := b_Law_peek) (maxL := 5) (ret := (some .int)) (by decide) (List.mem_singleton.mpr rfl) ?_
  intro p e s m args below meth c s₁ B hml htab hv
  obtain ⟨rfl, hsz, hB, hP, hK, hD0⟩ := hv
  subst hsz
  have hx := B.exec
  have hb := B.bytes
  have hr := B.returns
  have hts := hB.1.at ([.ref h0, .int i, .int k, .ref ou] : List Value).toArray
  have hown : s.vm.findClass "StackHostLaw" = some m.cls := findClass_of_methodNamed B.named
  have hlocks := B.notSynchronized
  have hD := hD0.self (sz := s.heap.size)
  generalize hAe : va_A [(h0, .inr (0, [a0, a1, a2, a3, a4, a5, .ref ww, a7, a8, a9, a10])), (ww, .inr (6, [b0, .int 0, b2, b3, b4, b5, b6, b7, b8, b9, b10, b11, b12, b13, b14, b15])), (ou, .inl (ko, 1, .inr (.inl fo)))] s.heap.size = A at hB hD ⊢
  have hA : ∀ q : Nat, s.heap.size ≤ q → A q := fun q h => by rw [← hAe]; exact Or.inr h
  have hS : va_S A s.heap s.heap [] := va_S.rf
  have hl := lv_entry ([.ref h0, .int i, .int k, .ref ou]) (n := 5) (Nat.le_of_ble_eq_true rfl)
  rw [lg_entry_eq]
  generalize (lg_sl ([.ref h0, .int i, .int k, .ref ou]) ++ List.replicate (5 - (lg_sl ([.ref h0, .int i, .int k, .ref ou])).length) Slot.unset).toArray = ls at hl ⊢
  have hl : lv_has ls 5 [(0, .ref h0), (1, .int i), (2, .int k), (3, .ref ou)] := hl
  refine lv_aload_n hx hb d_Law_peek_0 rfl (lv_at hl 3 rfl) ?_
  refine lv_iconst (v := 0) hx hb d_Law_peek_1 (by decide) ?_
  refine lv_aload_n hx hb d_Law_peek_2 rfl (lv_at hl 0 rfl) ?_
  refine lv_iload_n hx hb d_Law_peek_3 rfl (lv_at hl 1 rfl) ?_
  refine lv_iload_n hx hb d_Law_peek_4 rfl (lv_at hl 2 rfl) ?_
  refine xt_call (D := D) (cl := xcl) (wr := [(ou, .inl (ko, 1, .inr (.inl fo)))]) (fun T hT X => by
    obtain ⟨cb, r1, r2, r3⟩ := va_recv hK hP (ci := 0) (q0 := 0) rfl rfl
    exact xt_invV X hx hown (hts _ m_34399e87) (hts _ m_05c78914) (hts _ m_d3034874) (xt_sigOf (hts _ m_713dd2fb)) nm_H_peek (by rw [hT]; exact r1) r2 r3 (g := F0 m 5 ls [.int k, .int i, .ref h0, .int 0, .ref ou]) rfl (argsL := [.int i, .int k]) (rest := [.int 0, .ref ou]) rfl rfl (by rw [hb]; exact d_Law_peek_5)) (c_H_peek l hfl D h0 ww i k (a0) (a1) (a2) (a3) (a4) (a5) (a7) (a8) (a9) (a10) (b0) (b2) (b3) (b4) (b5) (b6) (b7) (b8) (b9) (b10) (b11) (b12) (b13) (b14) (b15) s.heap.size) (hml.trans hl.1.symm) (by rw [hb]; exact d_Law_peek_5) (Nat.le_of_ble_eq_true rfl) rfl rfl (by decide) (by decide) (by decide) (by decide) (xt_w1 hB m_713dd2fb) (xt_cdOf hB m_713dd2fb) (hts _ m_ba0734f5) hB hK hP hD hS hA [0, 1] [2] [] rfl rfl rfl (by decide) (by decide) (by decide) (fun v2 u1 H locs hp hP hD hK hS => ?_) (fun XX9 ax9 u1 H locs hp hex hP hD hK hS => ?_)
  · exact False.elim hp
  · have hp : XX9 = "java/lang/IndexOutOfBoundsException" := hp
    subst hp
    have hP : va_P D xcl [(ou, .inl (ko, 1, .inr (.inl fo))), (h0, .inr (0, [a0, a1, a2, a3, a4, a5, .ref ww, a7, a8, a9, a10])), (ww, .inr (6, [b0, .int 0, b2, b3, b4, b5, b6, b7, b8, b9, b10, b11, b12, b13, b14, b15]))] H := hP
    have hD : va_D A [(ou, .inl (ko, 1, .inr (.inl fo))), (h0, .inr (0, [a0, a1, a2, a3, a4, a5, .ref ww, a7, a8, a9, a10])), (ww, .inr (6, [b0, .int 0, b2, b3, b4, b5, b6, b7, b8, b9, b10, b11, b12, b13, b14, b15]))] := hD
    have hK : va_K D xcl [(ko, .long)] s := hK
    refine xt_catch (own := "StackHostLaw") (name := "java/lang/IndexOutOfBoundsException") (Xn := "java/lang/IndexOutOfBoundsException") hown ⟨0, 10, 13, 29⟩ [] htab (by decide) (by decide) (hts _ m_17a0b3c6) (hts _ m_b0d3d118) hex ?_
    refine W.eq (g2 := F0 m 13 ls [.ref ax9]) rfl ?_
    refine W.widen (k := 1) (n := 6) (by omega) (by omega) ?_
    refine lv_astore hx hb d_Law_peek_13 hl (by decide) rfl (fun ls hl => ?_)
    have hl : lv_has ls 5 [(4, .ref ax9), (0, .ref h0), (1, .int i), (2, .int k), (3, .ref ou)] := hl
    refine lv_iconst (v := 1) hx hb d_Law_peek_15 (by decide) ?_
    refine W.widen (k := 1) (n := 6) (by decide) (by decide) ?_
    refine xt_mono xt_ofMQ ?_
    exact W.iret hx hb hr (fun t ht hW => ⟨(fun _ => 0), Or.inl ⟨_, rfl, rfl⟩, by rw [ht]; exact hP.sub [0, 1, 2] rfl, va_K.moved hW.alike (hK.sub [0] rfl), hD.sub [0, 1, 2] (by decide) rfl, hS.F ht⟩) hS.2.2 d_Law_peek_16 hlocks

set_option maxHeartbeats 4000000 in
set_option maxRecDepth 100000 in
theorem c_Law_poke (l : Launch) (hfl : l.flags = pinnedFlags ++ [noTraceFlag]) (D : va_G) (h0 ww : Nat) (i k w : Int32) (a0 a1 a2 a3 a4 a5 a7 a8 a9 a10 : Value) (b0 b2 b3 b4 b5 b6 b7 b8 b9 b10 b11 b12 b13 b14 b15 : Value) (sz : Nat) : xt_Met l y_Law_poke [.codeWith y_Law_poke b_Law_poke 5 (some .int) [(0, 7, 10, 29)]] ({ frames := 11, cells := 1, slots := 6, locals := 420 }) (xt_P D xcl [.ref h0, .int i, .int k, .int w] [(h0, .inr (0, [a0, a1, a2, a3, a4, a5, .ref ww, a7, a8, a9, a10])), (ww, .inr (6, [b0, .int 0, b2, b3, b4, b5, b6, b7, b8, b9, b10, b11, b12, b13, b14, b15]))] [] sz) (xt_Q (S := Nat → Nat) D xcl (va_A [(h0, .inr (0, [a0, a1, a2, a3, a4, a5, .ref ww, a7, a8, a9, a10])), (ww, .inr (6, [b0, .int 0, b2, b3, b4, b5, b6, b7, b8, b9, b10, b11, b12, b13, b14, b15]))] sz) (fun v u => v = some (.int 1)) (fun _ _ => False) (fun u => [(h0, .inr (0, [a0, a1, a2, a3, a4, a5, .ref ww, a7, a8, a9, a10])), (ww, .inr (6, [b0, .int 0, b2, b3, b4, b5, b6, b7, b8, b9, b10, b11, b12, b13, b14, b15]))]) (fun u => [])) 1 6 (va_A [(h0, .inr (0, [a0, a1, a2, a3, a4, a5, .ref ww, a7, a8, a9, a10])), (ww, .inr (6, [b0, .int 0, b2, b3, b4, b5, b6, b7, b8, b9, b10, b11, b12, b13, b14, b15]))] sz) := by
  refine xt_ofWH (cc := b_Law_poke) (maxL := 5) (ret := (some .int)) (by decide) (List.mem_singleton.mpr rfl) ?_
  intro p e s m args below meth c s₁ B hml htab hv
  obtain ⟨rfl, hsz, hB, hP, hK, hD0⟩ := hv
  subst hsz
  have hx := B.exec
  have hb := B.bytes
  have hr := B.returns
  have hts := hB.1.at ([.ref h0, .int i, .int k, .int w] : List Value).toArray
  have hown : s.vm.findClass "StackHostLaw" = some m.cls := findClass_of_methodNamed B.named
  have hlocks := B.notSynchronized
  have hD := hD0.self (sz := s.heap.size)
  generalize hAe : va_A [(h0, .inr (0, [a0, a1, a2, a3, a4, a5, .ref ww, a7, a8, a9, a10])), (ww, .inr (6, [b0, .int 0, b2, b3, b4, b5, b6, b7, b8, b9, b10, b11, b12, b13, b14, b15]))] s.heap.size = A at hB hD ⊢
  have hA : ∀ q : Nat, s.heap.size ≤ q → A q := fun q h => by rw [← hAe]; exact Or.inr h
  have hS : va_S A s.heap s.heap [] := va_S.rf
  have hl := lv_entry ([.ref h0, .int i, .int k, .int w]) (n := 5) (Nat.le_of_ble_eq_true rfl)
  rw [lg_entry_eq]
  generalize (lg_sl ([.ref h0, .int i, .int k, .int w]) ++ List.replicate (5 - (lg_sl ([.ref h0, .int i, .int k, .int w])).length) Slot.unset).toArray = ls at hl ⊢
  have hl : lv_has ls 5 [(0, .ref h0), (1, .int i), (2, .int k), (3, .int w)] := hl
  refine lv_aload_n hx hb d_Law_poke_0 rfl (lv_at hl 0 rfl) ?_
  refine lv_iload_n hx hb d_Law_poke_1 rfl (lv_at hl 1 rfl) ?_
  refine lv_iload_n hx hb d_Law_poke_2 rfl (lv_at hl 2 rfl) ?_
  refine lv_iload_n hx hb d_Law_poke_3 rfl (lv_at hl 3 rfl) ?_
  refine xt_call (D := D) (cl := xcl) (wr := []) (fun T hT X => by
    obtain ⟨cb, r1, r2, r3⟩ := va_recv hK hP (ci := 0) (q0 := 0) rfl rfl
    exact xt_invV X hx hown (hts _ m_ef70ac1e) (hts _ m_b4e69a1f) (hts _ m_bbfe7c7c) (xt_sigOf (hts _ m_6cbce5f0)) nm_H_poke (by rw [hT]; exact r1) r2 r3 (g := F0 m 4 ls [.int w, .int k, .int i, .ref h0]) rfl (argsL := [.int i, .int k, .int w]) (rest := []) rfl rfl (by rw [hb]; exact d_Law_poke_4)) (c_H_poke l hfl D h0 ww i k w (a0) (a1) (a2) (a3) (a4) (a5) (a7) (a8) (a9) (a10) (b0) (b2) (b3) (b4) (b5) (b6) (b7) (b8) (b9) (b10) (b11) (b12) (b13) (b14) (b15) s.heap.size) (hml.trans hl.1.symm) (by rw [hb]; exact d_Law_poke_4) (Nat.le_of_ble_eq_true rfl) rfl rfl (by decide) (by decide) (by decide) (by decide) (xt_w1 hB m_6cbce5f0) (xt_cdOf hB m_6cbce5f0) (hts _ m_ba0734f5) hB hK hP hD hS hA [0, 1] [] [] rfl rfl rfl (by decide) (by decide) (by decide) (fun v2 u1 H locs hp hP hD hK hS => ?_) (fun XX9 ax9 u1 H locs hp hex hP hD hK hS => ?_)
  · exact False.elim hp
  · have hp : XX9 = "java/lang/IndexOutOfBoundsException" := hp
    subst hp
    have hP : va_P D xcl [(h0, .inr (0, [a0, a1, a2, a3, a4, a5, .ref ww, a7, a8, a9, a10])), (ww, .inr (6, [b0, .int 0, b2, b3, b4, b5, b6, b7, b8, b9, b10, b11, b12, b13, b14, b15]))] H := hP
    have hD : va_D A [(h0, .inr (0, [a0, a1, a2, a3, a4, a5, .ref ww, a7, a8, a9, a10])), (ww, .inr (6, [b0, .int 0, b2, b3, b4, b5, b6, b7, b8, b9, b10, b11, b12, b13, b14, b15]))] := hD
    have hK : va_K D xcl [] s := hK
    refine xt_catch (own := "StackHostLaw") (name := "java/lang/IndexOutOfBoundsException") (Xn := "java/lang/IndexOutOfBoundsException") hown ⟨0, 7, 10, 29⟩ [] htab (by decide) (by decide) (hts _ m_17a0b3c6) (hts _ m_b0d3d118) hex ?_
    refine W.eq (g2 := F0 m 10 ls [.ref ax9]) rfl ?_
    refine W.widen (k := 1) (n := 6) (by omega) (by omega) ?_
    refine lv_astore hx hb d_Law_poke_10 hl (by decide) rfl (fun ls hl => ?_)
    have hl : lv_has ls 5 [(4, .ref ax9), (0, .ref h0), (1, .int i), (2, .int k), (3, .int w)] := hl
    refine lv_iconst (v := 1) hx hb d_Law_poke_12 (by decide) ?_
    refine W.widen (k := 1) (n := 6) (by decide) (by decide) ?_
    refine xt_mono xt_ofMQ ?_
    exact W.iret hx hb hr (fun t ht hW => ⟨(fun _ => 0), Or.inl ⟨_, rfl, rfl⟩, by rw [ht]; exact hP.sub [0, 1] rfl, va_K.moved hW.alike (hK.sub [] rfl), hD.sub [0, 1] (by decide) rfl, hS.F ht⟩) hS.2.2 d_Law_poke_13 hlocks

set_option maxHeartbeats 4000000 in
set_option maxRecDepth 100000 in
theorem c_Law_variable (l : Launch) (hfl : l.flags = pinnedFlags ++ [noTraceFlag]) (D : va_G) (h0 ww : Nat) (i k : Int32) (a0 a1 a2 a3 a4 a5 a7 a8 a9 a10 : Value) (b0 b2 b3 b4 b5 b6 b7 b8 b9 b10 b11 b12 b13 b14 b15 : Value) (ou ko : Nat) (fo : Nat → Int64) (sz : Nat) : xt_Met l y_Law_variable [.codeWith y_Law_variable b_Law_variable 5 (some .int) [(0, 9, 12, 29)]] ({ frames := 10, cells := 1, slots := 6, locals := 320 }) (xt_P D xcl [.ref h0, .int i, .int k, .ref ou] [(h0, .inr (0, [a0, a1, a2, a3, a4, a5, .ref ww, a7, a8, a9, a10])), (ww, .inr (6, [b0, .int 0, b2, b3, b4, b5, b6, b7, b8, b9, b10, b11, b12, b13, b14, b15])), (ou, .inl (ko, 1, .inr (.inl fo)))] [(ko, .long)] sz) (xt_Q (S := Nat → Nat) D xcl (va_A [(h0, .inr (0, [a0, a1, a2, a3, a4, a5, .ref ww, a7, a8, a9, a10])), (ww, .inr (6, [b0, .int 0, b2, b3, b4, b5, b6, b7, b8, b9, b10, b11, b12, b13, b14, b15])), (ou, .inl (ko, 1, .inr (.inl fo)))] sz) (fun v u => v = some (.int 1)) (fun _ _ => False) (fun u => [(ou, .inl (ko, 1, .inr (.inl fo))), (h0, .inr (0, [a0, a1, a2, a3, a4, a5, .ref ww, a7, a8, a9, a10])), (ww, .inr (6, [b0, .int 0, b2, b3, b4, b5, b6, b7, b8, b9, b10, b11, b12, b13, b14, b15]))]) (fun u => [(ko, .long)])) 1 6 (va_A [(h0, .inr (0, [a0, a1, a2, a3, a4, a5, .ref ww, a7, a8, a9, a10])), (ww, .inr (6, [b0, .int 0, b2, b3, b4, b5, b6, b7, b8, b9, b10, b11, b12, b13, b14, b15])), (ou, .inl (ko, 1, .inr (.inl fo)))] sz) := by
  refine xt_ofWH (cc := b_Law_variable) (maxL := 5) (ret := (some .int)) (by decide) (List.mem_singleton.mpr rfl) ?_
  intro p e s m args below meth c s₁ B hml htab hv
  obtain ⟨rfl, hsz, hB, hP, hK, hD0⟩ := hv
  subst hsz
  have hx := B.exec
  have hb := B.bytes
  have hr := B.returns
  have hts := hB.1.at ([.ref h0, .int i, .int k, .ref ou] : List Value).toArray
  have hown : s.vm.findClass "StackHostLaw" = some m.cls := findClass_of_methodNamed B.named
  have hlocks := B.notSynchronized
  have hD := hD0.self (sz := s.heap.size)
  generalize hAe : va_A [(h0, .inr (0, [a0, a1, a2, a3, a4, a5, .ref ww, a7, a8, a9, a10])), (ww, .inr (6, [b0, .int 0, b2, b3, b4, b5, b6, b7, b8, b9, b10, b11, b12, b13, b14, b15])), (ou, .inl (ko, 1, .inr (.inl fo)))] s.heap.size = A at hB hD ⊢
  have hA : ∀ q : Nat, s.heap.size ≤ q → A q := fun q h => by rw [← hAe]; exact Or.inr h
  have hS : va_S A s.heap s.heap [] := va_S.rf
  have hl := lv_entry ([.ref h0, .int i, .int k, .ref ou]) (n := 5) (Nat.le_of_ble_eq_true rfl)
  rw [lg_entry_eq]
  generalize (lg_sl ([.ref h0, .int i, .int k, .ref ou]) ++ List.replicate (5 - (lg_sl ([.ref h0, .int i, .int k, .ref ou])).length) Slot.unset).toArray = ls at hl ⊢
  have hl : lv_has ls 5 [(0, .ref h0), (1, .int i), (2, .int k), (3, .ref ou)] := hl
  refine lv_aload_n hx hb d_Law_variable_0 rfl (lv_at hl 3 rfl) ?_
  refine lv_iconst (v := 0) hx hb d_Law_variable_1 (by decide) ?_
  refine lv_aload_n hx hb d_Law_variable_2 rfl (lv_at hl 0 rfl) ?_
  refine lv_iload_n hx hb d_Law_variable_3 rfl (lv_at hl 1 rfl) ?_
  refine lv_iload_n hx hb d_Law_variable_4 rfl (lv_at hl 2 rfl) ?_
  refine xt_call (D := D) (cl := xcl) (wr := [(ou, .inl (ko, 1, .inr (.inl fo)))]) (fun T hT X => by
    obtain ⟨cb, r1, r2, r3⟩ := va_recv hK hP (ci := 0) (q0 := 0) rfl rfl
    exact xt_invV X hx hown (hts _ m_51df03df) (hts _ m_34f01bf5) (hts _ m_acef4832) (xt_sigOf (hts _ m_8eb297bc)) nm_H_variable (by rw [hT]; exact r1) r2 r3 (g := F0 m 5 ls [.int k, .int i, .ref h0, .int 0, .ref ou]) rfl (argsL := [.int i, .int k]) (rest := [.int 0, .ref ou]) rfl rfl (by rw [hb]; exact d_Law_variable_5)) (c_H_variable l hfl D h0 ww i k (a0) (a1) (a2) (a3) (a4) (a5) (a7) (a8) (a9) (a10) (b0) (b2) (b3) (b4) (b5) (b6) (b7) (b8) (b9) (b10) (b11) (b12) (b13) (b14) (b15) s.heap.size) (hml.trans hl.1.symm) (by rw [hb]; exact d_Law_variable_5) (Nat.le_of_ble_eq_true rfl) rfl rfl (by decide) (by decide) (by decide) (by decide) (xt_w1 hB m_8eb297bc) (xt_cdOf hB m_8eb297bc) (hts _ m_ba0734f5) hB hK hP hD hS hA [0, 1] [2] [] rfl rfl rfl (by decide) (by decide) (by decide) (fun v2 u1 H locs hp hP hD hK hS => ?_) (fun XX9 ax9 u1 H locs hp hex hP hD hK hS => ?_)
  · exact False.elim hp
  · have hp : XX9 = "java/lang/IndexOutOfBoundsException" := hp
    subst hp
    have hP : va_P D xcl [(ou, .inl (ko, 1, .inr (.inl fo))), (h0, .inr (0, [a0, a1, a2, a3, a4, a5, .ref ww, a7, a8, a9, a10])), (ww, .inr (6, [b0, .int 0, b2, b3, b4, b5, b6, b7, b8, b9, b10, b11, b12, b13, b14, b15]))] H := hP
    have hD : va_D A [(ou, .inl (ko, 1, .inr (.inl fo))), (h0, .inr (0, [a0, a1, a2, a3, a4, a5, .ref ww, a7, a8, a9, a10])), (ww, .inr (6, [b0, .int 0, b2, b3, b4, b5, b6, b7, b8, b9, b10, b11, b12, b13, b14, b15]))] := hD
    have hK : va_K D xcl [(ko, .long)] s := hK
    refine xt_catch (own := "StackHostLaw") (name := "java/lang/IndexOutOfBoundsException") (Xn := "java/lang/IndexOutOfBoundsException") hown ⟨0, 9, 12, 29⟩ [] htab (by decide) (by decide) (hts _ m_17a0b3c6) (hts _ m_b0d3d118) hex ?_
    refine W.eq (g2 := F0 m 12 ls [.ref ax9]) rfl ?_
    refine W.widen (k := 1) (n := 6) (by omega) (by omega) ?_
    refine lv_astore hx hb d_Law_variable_12 hl (by decide) rfl (fun ls hl => ?_)
    have hl : lv_has ls 5 [(4, .ref ax9), (0, .ref h0), (1, .int i), (2, .int k), (3, .ref ou)] := hl
    refine lv_iconst (v := 1) hx hb d_Law_variable_14 (by decide) ?_
    refine W.widen (k := 1) (n := 6) (by decide) (by decide) ?_
    refine xt_mono xt_ofMQ ?_
    exact W.iret hx hb hr (fun t ht hW => ⟨(fun _ => 0), Or.inl ⟨_, rfl, rfl⟩, by rw [ht]; exact hP.sub [0, 1, 2] rfl, va_K.moved hW.alike (hK.sub [0] rfl), hD.sub [0, 1, 2] (by decide) rfl, hS.F ht⟩) hS.2.2 d_Law_variable_15 hlocks

set_option maxHeartbeats 4000000 in
set_option maxRecDepth 100000 in
theorem c_Law_element (l : Launch) (hfl : l.flags = pinnedFlags ++ [noTraceFlag]) (D : va_G) (h0 ww : Nat) (i k : Int32) (a0 a1 a2 a3 a4 a5 a7 a8 a9 a10 : Value) (b0 b2 b3 b4 b5 b6 b7 b8 b9 b10 b11 b12 b13 b14 b15 : Value) (ou ko : Nat) (fo : Nat → Int64) (sz : Nat) : xt_Met l y_Law_element [.codeWith y_Law_element b_Law_element 5 (some .int) [(0, 10, 13, 29)]] ({ frames := 10, cells := 1, slots := 6, locals := 320 }) (xt_P D xcl [.ref h0, .int i, .int k, .ref ou] [(h0, .inr (0, [a0, a1, a2, a3, a4, a5, .ref ww, a7, a8, a9, a10])), (ww, .inr (6, [b0, .int 0, b2, b3, b4, b5, b6, b7, b8, b9, b10, b11, b12, b13, b14, b15])), (ou, .inl (ko, 1, .inr (.inl fo)))] [(ko, .long)] sz) (xt_Q (S := Nat → Nat) D xcl (va_A [(h0, .inr (0, [a0, a1, a2, a3, a4, a5, .ref ww, a7, a8, a9, a10])), (ww, .inr (6, [b0, .int 0, b2, b3, b4, b5, b6, b7, b8, b9, b10, b11, b12, b13, b14, b15])), (ou, .inl (ko, 1, .inr (.inl fo)))] sz) (fun v u => v = some (.int 1)) (fun _ _ => False) (fun u => [(ou, .inl (ko, 1, .inr (.inl fo))), (h0, .inr (0, [a0, a1, a2, a3, a4, a5, .ref ww, a7, a8, a9, a10])), (ww, .inr (6, [b0, .int 0, b2, b3, b4, b5, b6, b7, b8, b9, b10, b11, b12, b13, b14, b15]))]) (fun u => [(ko, .long)])) 1 6 (va_A [(h0, .inr (0, [a0, a1, a2, a3, a4, a5, .ref ww, a7, a8, a9, a10])), (ww, .inr (6, [b0, .int 0, b2, b3, b4, b5, b6, b7, b8, b9, b10, b11, b12, b13, b14, b15])), (ou, .inl (ko, 1, .inr (.inl fo)))] sz) := by
  refine xt_ofWH (cc := b_Law_element) (maxL := 5) (ret := (some .int)) (by decide) (List.mem_singleton.mpr rfl) ?_
  intro p e s m args below meth c s₁ B hml htab hv
  obtain ⟨rfl, hsz, hB, hP, hK, hD0⟩ := hv
  subst hsz
  have hx := B.exec
  have hb := B.bytes
  have hr := B.returns
  have hts := hB.1.at ([.ref h0, .int i, .int k, .ref ou] : List Value).toArray
  have hown : s.vm.findClass "StackHostLaw" = some m.cls := findClass_of_methodNamed B.named
  have hlocks := B.notSynchronized
  have hD := hD0.self (sz := s.heap.size)
  generalize hAe : va_A [(h0, .inr (0, [a0, a1, a2, a3, a4, a5, .ref ww, a7, a8, a9, a10])), (ww, .inr (6, [b0, .int 0, b2, b3, b4, b5, b6, b7, b8, b9, b10, b11, b12, b13, b14, b15])), (ou, .inl (ko, 1, .inr (.inl fo)))] s.heap.size = A at hB hD ⊢
  have hA : ∀ q : Nat, s.heap.size ≤ q → A q := fun q h => by rw [← hAe]; exact Or.inr h
  have hS : va_S A s.heap s.heap [] := va_S.rf
  have hl := lv_entry ([.ref h0, .int i, .int k, .ref ou]) (n := 5) (Nat.le_of_ble_eq_true rfl)
  rw [lg_entry_eq]
  generalize (lg_sl ([.ref h0, .int i, .int k, .ref ou]) ++ List.replicate (5 - (lg_sl ([.ref h0, .int i, .int k, .ref ou])).length) Slot.unset).toArray = ls at hl ⊢
  have hl : lv_has ls 5 [(0, .ref h0), (1, .int i), (2, .int k), (3, .ref ou)] := hl
  refine lv_aload_n hx hb d_Law_element_0 rfl (lv_at hl 3 rfl) ?_
  refine lv_iconst (v := 0) hx hb d_Law_element_1 (by decide) ?_
  refine lv_aload_n hx hb d_Law_element_2 rfl (lv_at hl 0 rfl) ?_
  refine lv_iload_n hx hb d_Law_element_3 rfl (lv_at hl 1 rfl) ?_
  refine lv_iload_n hx hb d_Law_element_4 rfl (lv_at hl 2 rfl) ?_
  refine xt_call (D := D) (cl := xcl) (wr := [(ou, .inl (ko, 1, .inr (.inl fo)))]) (fun T hT X => by
    obtain ⟨cb, r1, r2, r3⟩ := va_recv hK hP (ci := 0) (q0 := 0) rfl rfl
    exact xt_invV X hx hown (hts _ m_b73c4e92) (hts _ m_53c2b95d) (hts _ m_ac24d22f) (xt_sigOf (hts _ m_bd5661cb)) nm_H_element (by rw [hT]; exact r1) r2 r3 (g := F0 m 5 ls [.int k, .int i, .ref h0, .int 0, .ref ou]) rfl (argsL := [.int i, .int k]) (rest := [.int 0, .ref ou]) rfl rfl (by rw [hb]; exact d_Law_element_5)) (c_H_element l hfl D h0 ww i k (a0) (a1) (a2) (a3) (a4) (a5) (a7) (a8) (a9) (a10) (b0) (b2) (b3) (b4) (b5) (b6) (b7) (b8) (b9) (b10) (b11) (b12) (b13) (b14) (b15) s.heap.size) (hml.trans hl.1.symm) (by rw [hb]; exact d_Law_element_5) (Nat.le_of_ble_eq_true rfl) rfl rfl (by decide) (by decide) (by decide) (by decide) (xt_w1 hB m_bd5661cb) (xt_cdOf hB m_bd5661cb) (hts _ m_ba0734f5) hB hK hP hD hS hA [0, 1] [2] [] rfl rfl rfl (by decide) (by decide) (by decide) (fun v2 u1 H locs hp hP hD hK hS => ?_) (fun XX9 ax9 u1 H locs hp hex hP hD hK hS => ?_)
  · exact False.elim hp
  · have hp : XX9 = "java/lang/IndexOutOfBoundsException" := hp
    subst hp
    have hP : va_P D xcl [(ou, .inl (ko, 1, .inr (.inl fo))), (h0, .inr (0, [a0, a1, a2, a3, a4, a5, .ref ww, a7, a8, a9, a10])), (ww, .inr (6, [b0, .int 0, b2, b3, b4, b5, b6, b7, b8, b9, b10, b11, b12, b13, b14, b15]))] H := hP
    have hD : va_D A [(ou, .inl (ko, 1, .inr (.inl fo))), (h0, .inr (0, [a0, a1, a2, a3, a4, a5, .ref ww, a7, a8, a9, a10])), (ww, .inr (6, [b0, .int 0, b2, b3, b4, b5, b6, b7, b8, b9, b10, b11, b12, b13, b14, b15]))] := hD
    have hK : va_K D xcl [(ko, .long)] s := hK
    refine xt_catch (own := "StackHostLaw") (name := "java/lang/IndexOutOfBoundsException") (Xn := "java/lang/IndexOutOfBoundsException") hown ⟨0, 10, 13, 29⟩ [] htab (by decide) (by decide) (hts _ m_17a0b3c6) (hts _ m_b0d3d118) hex ?_
    refine W.eq (g2 := F0 m 13 ls [.ref ax9]) rfl ?_
    refine W.widen (k := 1) (n := 6) (by omega) (by omega) ?_
    refine lv_astore hx hb d_Law_element_13 hl (by decide) rfl (fun ls hl => ?_)
    have hl : lv_has ls 5 [(4, .ref ax9), (0, .ref h0), (1, .int i), (2, .int k), (3, .ref ou)] := hl
    refine lv_iconst (v := 1) hx hb d_Law_element_15 (by decide) ?_
    refine W.widen (k := 1) (n := 6) (by decide) (by decide) ?_
    refine xt_mono xt_ofMQ ?_
    exact W.iret hx hb hr (fun t ht hW => ⟨(fun _ => 0), Or.inl ⟨_, rfl, rfl⟩, by rw [ht]; exact hP.sub [0, 1, 2] rfl, va_K.moved hW.alike (hK.sub [0] rfl), hD.sub [0, 1, 2] (by decide) rfl, hS.F ht⟩) hS.2.2 d_Law_element_16 hlocks

set_option maxHeartbeats 4000000 in
set_option maxRecDepth 100000 in
theorem c_Law_out (l : Launch) (hfl : l.flags = pinnedFlags ++ [noTraceFlag]) (D : va_G) (h0 ww ro : Nat) (k : Int32) (a0 a1 a2 a3 a4 a5 a7 a8 a9 a10 : Value) (b0 b1 b2 b3 b4 b5 b7 b8 b9 b10 b11 b12 b13 b14 b15 : Value) (c0 c2 : Value) (ou ko : Nat) (fo : Nat → Int64) (sz : Nat) : xt_Met l y_Law_out [.codeWith y_Law_out b_Law_out 4 (some .int) [(0, 8, 11, 29)]] ({ frames := 9, cells := 1, slots := 6, locals := 220 }) (xt_P D xcl [.ref h0, .int k, .ref ou] [(h0, .inr (0, [a0, a1, a2, a3, a4, a5, .ref ww, a7, a8, a9, a10])), (ww, .inr (6, [b0, b1, b2, b3, b4, b5, .ref ro, b7, b8, b9, b10, b11, b12, b13, b14, b15])), (ro, .inr (1, [c0, .int 0, c2])), (ou, .inl (ko, 1, .inr (.inl fo)))] [(ko, .long)] sz) (xt_Q (S := Nat → Nat) D xcl (va_A [(h0, .inr (0, [a0, a1, a2, a3, a4, a5, .ref ww, a7, a8, a9, a10])), (ww, .inr (6, [b0, b1, b2, b3, b4, b5, .ref ro, b7, b8, b9, b10, b11, b12, b13, b14, b15])), (ro, .inr (1, [c0, .int 0, c2])), (ou, .inl (ko, 1, .inr (.inl fo)))] sz) (fun v u => v = some (.int 1)) (fun _ _ => False) (fun u => [(ou, .inl (ko, 1, .inr (.inl fo))), (h0, .inr (0, [a0, a1, a2, a3, a4, a5, .ref ww, a7, a8, a9, a10])), (ww, .inr (6, [b0, b1, b2, b3, b4, b5, .ref ro, b7, b8, b9, b10, b11, b12, b13, b14, b15])), (ro, .inr (1, [c0, .int 0, c2]))]) (fun u => [(ko, .long)])) 1 6 (va_A [(h0, .inr (0, [a0, a1, a2, a3, a4, a5, .ref ww, a7, a8, a9, a10])), (ww, .inr (6, [b0, b1, b2, b3, b4, b5, .ref ro, b7, b8, b9, b10, b11, b12, b13, b14, b15])), (ro, .inr (1, [c0, .int 0, c2])), (ou, .inl (ko, 1, .inr (.inl fo)))] sz) := by
  refine xt_ofWH (cc := b_Law_out) (maxL := 4) (ret := (some .int)) (by decide) (List.mem_singleton.mpr rfl) ?_
  intro p e s m args below meth c s₁ B hml htab hv
  obtain ⟨rfl, hsz, hB, hP, hK, hD0⟩ := hv
  subst hsz
  have hx := B.exec
  have hb := B.bytes
  have hr := B.returns
  have hts := hB.1.at ([.ref h0, .int k, .ref ou] : List Value).toArray
  have hown : s.vm.findClass "StackHostLaw" = some m.cls := findClass_of_methodNamed B.named
  have hlocks := B.notSynchronized
  have hD := hD0.self (sz := s.heap.size)
  generalize hAe : va_A [(h0, .inr (0, [a0, a1, a2, a3, a4, a5, .ref ww, a7, a8, a9, a10])), (ww, .inr (6, [b0, b1, b2, b3, b4, b5, .ref ro, b7, b8, b9, b10, b11, b12, b13, b14, b15])), (ro, .inr (1, [c0, .int 0, c2])), (ou, .inl (ko, 1, .inr (.inl fo)))] s.heap.size = A at hB hD ⊢
  have hA : ∀ q : Nat, s.heap.size ≤ q → A q := fun q h => by rw [← hAe]; exact Or.inr h
  have hS : va_S A s.heap s.heap [] := va_S.rf
  have hl := lv_entry ([.ref h0, .int k, .ref ou]) (n := 4) (Nat.le_of_ble_eq_true rfl)
  rw [lg_entry_eq]
  generalize (lg_sl ([.ref h0, .int k, .ref ou]) ++ List.replicate (4 - (lg_sl ([.ref h0, .int k, .ref ou])).length) Slot.unset).toArray = ls at hl ⊢
  have hl : lv_has ls 4 [(0, .ref h0), (1, .int k), (2, .ref ou)] := hl
  refine lv_aload_n hx hb d_Law_out_0 rfl (lv_at hl 2 rfl) ?_
  refine lv_iconst (v := 0) hx hb d_Law_out_1 (by decide) ?_
  refine lv_aload_n hx hb d_Law_out_2 rfl (lv_at hl 0 rfl) ?_
  refine lv_iload_n hx hb d_Law_out_3 rfl (lv_at hl 1 rfl) ?_
  refine xt_call (D := D) (cl := xcl) (wr := [(ou, .inl (ko, 1, .inr (.inl fo)))]) (fun T hT X => by
    obtain ⟨cb, r1, r2, r3⟩ := va_recv hK hP (ci := 0) (q0 := 0) rfl rfl
    exact xt_invV X hx hown (hts _ m_42d7cc7d) (hts _ m_688360bf) (hts _ m_992ab59d) (xt_sigOf (hts _ m_0151fcf5)) nm_H_out (by rw [hT]; exact r1) r2 r3 (g := F0 m 4 ls [.int k, .ref h0, .int 0, .ref ou]) rfl (argsL := [.int k]) (rest := [.int 0, .ref ou]) rfl rfl (by rw [hb]; exact d_Law_out_4)) (c_H_out l hfl D h0 ww ro k (a0) (a1) (a2) (a3) (a4) (a5) (a7) (a8) (a9) (a10) (b0) (b1) (b2) (b3) (b4) (b5) (b7) (b8) (b9) (b10) (b11) (b12) (b13) (b14) (b15) (c0) (c2) s.heap.size) (hml.trans hl.1.symm) (by rw [hb]; exact d_Law_out_4) (Nat.le_of_ble_eq_true rfl) rfl rfl (by decide) (by decide) (by decide) (by decide) (xt_w1 hB m_0151fcf5) (xt_cdOf hB m_0151fcf5) (hts _ m_ba0734f5) hB hK hP hD hS hA [0, 1, 2] [3] [] rfl rfl rfl (by decide) (by decide) (by decide) (fun v2 u1 H locs hp hP hD hK hS => ?_) (fun XX9 ax9 u1 H locs hp hex hP hD hK hS => ?_)
  · exact False.elim hp
  · have hp : XX9 = "java/lang/IndexOutOfBoundsException" := hp
    subst hp
    have hP : va_P D xcl [(ou, .inl (ko, 1, .inr (.inl fo))), (h0, .inr (0, [a0, a1, a2, a3, a4, a5, .ref ww, a7, a8, a9, a10])), (ww, .inr (6, [b0, b1, b2, b3, b4, b5, .ref ro, b7, b8, b9, b10, b11, b12, b13, b14, b15])), (ro, .inr (1, [c0, .int 0, c2]))] H := hP
    have hD : va_D A [(ou, .inl (ko, 1, .inr (.inl fo))), (h0, .inr (0, [a0, a1, a2, a3, a4, a5, .ref ww, a7, a8, a9, a10])), (ww, .inr (6, [b0, b1, b2, b3, b4, b5, .ref ro, b7, b8, b9, b10, b11, b12, b13, b14, b15])), (ro, .inr (1, [c0, .int 0, c2]))] := hD
    have hK : va_K D xcl [(ko, .long)] s := hK
    refine xt_catch (own := "StackHostLaw") (name := "java/lang/IndexOutOfBoundsException") (Xn := "java/lang/IndexOutOfBoundsException") hown ⟨0, 8, 11, 29⟩ [] htab (by decide) (by decide) (hts _ m_17a0b3c6) (hts _ m_b0d3d118) hex ?_
    refine W.eq (g2 := F0 m 11 ls [.ref ax9]) rfl ?_
    refine W.widen (k := 1) (n := 6) (by omega) (by omega) ?_
    refine lv_astore_n hx hb d_Law_out_11 rfl hl (by decide) rfl (fun ls hl => ?_)
    have hl : lv_has ls 4 [(3, .ref ax9), (0, .ref h0), (1, .int k), (2, .ref ou)] := hl
    refine lv_iconst (v := 1) hx hb d_Law_out_12 (by decide) ?_
    refine W.widen (k := 1) (n := 6) (by decide) (by decide) ?_
    refine xt_mono xt_ofMQ ?_
    exact W.iret hx hb hr (fun t ht hW => ⟨(fun _ => 0), Or.inl ⟨_, rfl, rfl⟩, by rw [ht]; exact hP.sub [0, 1, 2, 3] rfl, va_K.moved hW.alike (hK.sub [0] rfl), hD.sub [0, 1, 2, 3] (by decide) rfl, hS.F ht⟩) hS.2.2 d_Law_out_13 hlocks

set_option maxHeartbeats 4000000 in
set_option maxRecDepth 100000 in
theorem c_M_reserve (l : Launch) (D : va_G) (h0 so ks : Nat) (fS : Nat → Int32) (a0 a1 a2 a5 a6 a7 a8 a9 a10 a11 a12 a13 a14 a15 a16 a17 a18 a19 a20 a21 a22 a23 a24 a25 a26 a27 a28 a29 a30 a31 a32 a33 a34 a35 a36 a37 a38 a39 a40 a41 a42 a43 a44 a45 a46 a47 a48 a49 a50 a51 a52 a53 a54 a55 a56 a57 a58 a59 a60 a61 a62 a63 a64 a65 a66 a67 a68 a69 a70 a71 a72 a73 a74 a75 a76 a77 a78 a79 a80 a81 a82 a83 a84 a85 a86 a87 a88 a89 a90 a91 a92 a93 a94 a95 a96 : Value) (sz : Nat) : xt_Met l y_M_reserve [.code y_M_reserve b_M_reserve 4 none] ({ frames := 8, cells := 0, slots := 0, locals := 120 }) (xt_P D xcl [.ref h0, .int 0] [(h0, .inr (8, [a0, a1, a2, .ref so, .int 0, a5, a6, a7, a8, a9, a10, a11, a12, a13, a14, a15, a16, a17, a18, a19, a20, a21, a22, a23, a24, a25, a26, a27, a28, a29, a30, a31, a32, a33, a34, a35, a36, a37, a38, a39, a40, a41, a42, a43, a44, a45, a46, a47, a48, a49, a50, a51, a52, a53, a54, a55, a56, a57, a58, a59, a60, a61, a62, a63, a64, a65, a66, a67, a68, a69, a70, a71, a72, a73, a74, a75, a76, a77, a78, a79, a80, a81, a82, a83, a84, a85, a86, a87, a88, a89, a90, a91, a92, a93, a94, a95, a96])), (so, .inl (ks, 16384, .inl fS))] [(ks, .byte)] sz) (xt_Q (S := Nat → Nat) D xcl (va_A [(h0, .inr (8, [a0, a1, a2, .ref so, .int 0, a5, a6, a7, a8, a9, a10, a11, a12, a13, a14, a15, a16, a17, a18, a19, a20, a21, a22, a23, a24, a25, a26, a27, a28, a29, a30, a31, a32, a33, a34, a35, a36, a37, a38, a39, a40, a41, a42, a43, a44, a45, a46, a47, a48, a49, a50, a51, a52, a53, a54, a55, a56, a57, a58, a59, a60, a61, a62, a63, a64, a65, a66, a67, a68, a69, a70, a71, a72, a73, a74, a75, a76, a77, a78, a79, a80, a81, a82, a83, a84, a85, a86, a87, a88, a89, a90, a91, a92, a93, a94, a95, a96])), (so, .inl (ks, 16384, .inl fS))] sz) (fun v _ => v = none) (fun _ _ => False) (fun u => [(h0, .inr (8, [a0, a1, a2, .ref so, .int 0, a5, a6, a7, a8, a9, a10, a11, a12, a13, a14, a15, a16, a17, a18, a19, a20, a21, a22, a23, a24, a25, a26, a27, a28, a29, a30, a31, a32, a33, a34, a35, a36, a37, a38, a39, a40, a41, a42, a43, a44, a45, a46, a47, a48, a49, a50, a51, a52, a53, a54, a55, a56, a57, a58, a59, a60, a61, a62, a63, a64, a65, a66, a67, a68, a69, a70, a71, a72, a73, a74, a75, a76, a77, a78, a79, a80, a81, a82, a83, a84, a85, a86, a87, a88, a89, a90, a91, a92, a93, a94, a95, a96])), (so, .inl (ks, 16384, .inl fS))]) (fun u => [(ks, .byte)])) 0 0 (va_A [(h0, .inr (8, [a0, a1, a2, .ref so, .int 0, a5, a6, a7, a8, a9, a10, a11, a12, a13, a14, a15, a16, a17, a18, a19, a20, a21, a22, a23, a24, a25, a26, a27, a28, a29, a30, a31, a32, a33, a34, a35, a36, a37, a38, a39, a40, a41, a42, a43, a44, a45, a46, a47, a48, a49, a50, a51, a52, a53, a54, a55, a56, a57, a58, a59, a60, a61, a62, a63, a64, a65, a66, a67, a68, a69, a70, a71, a72, a73, a74, a75, a76, a77, a78, a79, a80, a81, a82, a83, a84, a85, a86, a87, a88, a89, a90, a91, a92, a93, a94, a95, a96])), (so, .inl (ks, 16384, .inl fS))] sz) := by
  refine xt_ofW (cc := b_M_reserve) (maxL := 4) (ret := none) (by decide) (List.mem_singleton.mpr rfl) ?_
  intro p e s m args below meth c s₁ B hml htab hv
  obtain ⟨rfl, hsz, hB, hP, hK, hD0⟩ := hv
  subst hsz
  have hx := B.exec
  have hb := B.bytes
  have hr := B.returns
  have hts := hB.1.at ([.ref h0, .int 0] : List Value).toArray
  have hown : s.vm.findClass "StackHostModel" = some m.cls := findClass_of_methodNamed B.named
  have hlocks := B.notSynchronized
  have hD := hD0.self (sz := s.heap.size)
  generalize hAe : va_A [(h0, .inr (8, [a0, a1, a2, .ref so, .int 0, a5, a6, a7, a8, a9, a10, a11, a12, a13, a14, a15, a16, a17, a18, a19, a20, a21, a22, a23, a24, a25, a26, a27, a28, a29, a30, a31, a32, a33, a34, a35, a36, a37, a38, a39, a40, a41, a42, a43, a44, a45, a46, a47, a48, a49, a50, a51, a52, a53, a54, a55, a56, a57, a58, a59, a60, a61, a62, a63, a64, a65, a66, a67, a68, a69, a70, a71, a72, a73, a74, a75, a76, a77, a78, a79, a80, a81, a82, a83, a84, a85, a86, a87, a88, a89, a90, a91, a92, a93, a94, a95, a96])), (so, .inl (ks, 16384, .inl fS))] s.heap.size = A at hB hD ⊢
  have hA : ∀ q : Nat, s.heap.size ≤ q → A q := fun q h => by rw [← hAe]; exact Or.inr h
  have hS : va_S A s.heap s.heap [] := va_S.rf
  have hl := lv_entry ([.ref h0, .int 0]) (n := 4) (Nat.le_of_ble_eq_true rfl)
  rw [lg_entry_eq]
  generalize (lg_sl ([.ref h0, .int 0]) ++ List.replicate (4 - (lg_sl ([.ref h0, .int 0])).length) Slot.unset).toArray = ls at hl ⊢
  have hl : lv_has ls 4 [(0, .ref h0), (1, .int 0)] := hl
  refine lv_aload_n hx hb d_M_reserve_0 rfl (lv_at hl 0 rfl) ?_
  refine va_get (D := D) (ci := 8) (v := .int 0) (C := R_M) (T := F_M) (N := 97) hx hb hts fin_M hown hK hP 0 rfl rfl 4 (by decide) (hts _ m_a4223f90) (fun _ h9 => h9) rfl d_M_reserve_1 ?_
  refine lv_iload_n hx hb d_M_reserve_4 rfl (lv_at hl 1 rfl) ?_
  refine lv_iadd hx hb d_M_reserve_5 ?_
  refine xt_numi (y := 0) (by decide) ?_
  refine lv_aload_n hx hb d_M_reserve_6 rfl (lv_at hl 0 rfl) ?_
  refine va_get (D := D) (ci := 8) (v := .ref so) (C := R_M) (T := F_M) (N := 97) hx hb hts fin_M hown hK hP 0 rfl rfl 3 (by decide) (hts _ m_4f0568af) (fun _ h9 => h9) rfl d_M_reserve_7 ?_
  refine va_alen (v := 16384) hx hb hK hP 1 0 rfl rfl (show Int32.ofNat 16384 = 16384 from by decide +kernel) d_M_reserve_10 ?_
  refine lv_icmp_le (tgt := 55) hx hb d_M_reserve_11 rfl (fun _ => ?_) (fun h9 => absurd h9 (by decide))
  refine W.widen (k := 0) (n := 0) (by decide) (by decide) ?_
  refine xt_mono xt_ofMQ ?_
  exact W.vret hx hb hr (fun t ht hW => ⟨(fun _ => 0), Or.inl ⟨_, rfl, rfl⟩, by rw [ht]; exact hP.sub [0, 1] rfl, va_K.moved hW.alike (hK.sub [0] rfl), hD.sub [0, 1] (by decide) rfl, hS.F ht⟩) hS.2.2 d_M_reserve_55 hlocks

