set_option maxHeartbeats 4000000 in
set_option maxRecDepth 100000 in
theorem c_Law_feed (l : Launch) (D : va_G) (h0 tp kt : Nat) (f : Nat → Int32) (x0 x1 x2 x3 x4 : Int32) (a2 a3 a4 a5 a6 a7 a8 a9 a10 : Value) (ou ko : Nat) (fo : Nat → Int64) (sz : Nat) : xt_Met l y_Law_feed [.codeWith y_Law_feed b_Law_feed 8 (some .int) [(0, 16, 19, 13)]] ({ frames := 10, cells := 0, slots := 0, locals := 320 }) (xt_P D xcl [.ref h0, .int x0, .int x1, .int x2, .int x3, .int x4, .ref ou] [(h0, .inr (0, [.ref tp, .int 0, a2, a3, a4, a5, a6, a7, a8, a9, a10])), (tp, .inl (kt, 20, .inl f)), (ou, .inl (ko, 1, .inr (.inl fo)))] [(kt, .byte), (ko, .long)] sz) (xt_Q (S := Nat → Nat) D xcl (va_A [(h0, .inr (0, [.ref tp, .int 0, a2, a3, a4, a5, a6, a7, a8, a9, a10])), (tp, .inl (kt, 20, .inl f)), (ou, .inl (ko, 1, .inr (.inl fo)))] sz) (fun v u => v = some (.int 0)) (fun _ _ => False) (fun u => [(ou, .inl (ko, 1, .inr (.inl (vp_updL fo (0 : Int32).toNatClampNeg 20)))), (h0, .inr (0, [.ref tp, .int 20, a2, a3, a4, a5, a6, a7, a8, a9, a10])), (tp, .inl (kt, 20, .inl (upd (upd (upd (upd (upd (upd (upd (upd (upd (upd (upd (upd (upd (upd (upd (upd (upd (upd (upd (upd f (0 : Int32).toNatClampNeg (vp_nar .byte (((x0 : Int32).toUInt32 >>> ((24 : Int32).toUInt32 &&& Int32.toUInt32 31)).toInt32 : Int32).toInt8.toInt32)) (1 : Int32).toNatClampNeg (vp_nar .byte (((x0 : Int32).toUInt32 >>> ((16 : Int32).toUInt32 &&& Int32.toUInt32 31)).toInt32 : Int32).toInt8.toInt32)) (2 : Int32).toNatClampNeg (vp_nar .byte (((x0 : Int32).toUInt32 >>> ((8 : Int32).toUInt32 &&& Int32.toUInt32 31)).toInt32 : Int32).toInt8.toInt32)) (3 : Int32).toNatClampNeg (vp_nar .byte (((x0 : Int32).toUInt32 >>> ((0 : Int32).toUInt32 &&& Int32.toUInt32 31)).toInt32 : Int32).toInt8.toInt32)) (4 : Int32).toNatClampNeg (vp_nar .byte (((x1 : Int32).toUInt32 >>> ((24 : Int32).toUInt32 &&& Int32.toUInt32 31)).toInt32 : Int32).toInt8.toInt32)) (5 : Int32).toNatClampNeg (vp_nar .byte (((x1 : Int32).toUInt32 >>> ((16 : Int32).toUInt32 &&& Int32.toUInt32 31)).toInt32 : Int32).toInt8.toInt32)) (6 : Int32).toNatClampNeg (vp_nar .byte (((x1 : Int32).toUInt32 >>> ((8 : Int32).toUInt32 &&& Int32.toUInt32 31)).toInt32 : Int32).toInt8.toInt32)) (7 : Int32).toNatClampNeg (vp_nar .byte (((x1 : Int32).toUInt32 >>> ((0 : Int32).toUInt32 &&& Int32.toUInt32 31)).toInt32 : Int32).toInt8.toInt32)) (8 : Int32).toNatClampNeg (vp_nar .byte (((x2 : Int32).toUInt32 >>> ((24 : Int32).toUInt32 &&& Int32.toUInt32 31)).toInt32 : Int32).toInt8.toInt32)) (9 : Int32).toNatClampNeg (vp_nar .byte (((x2 : Int32).toUInt32 >>> ((16 : Int32).toUInt32 &&& Int32.toUInt32 31)).toInt32 : Int32).toInt8.toInt32)) (10 : Int32).toNatClampNeg (vp_nar .byte (((x2 : Int32).toUInt32 >>> ((8 : Int32).toUInt32 &&& Int32.toUInt32 31)).toInt32 : Int32).toInt8.toInt32)) (11 : Int32).toNatClampNeg (vp_nar .byte (((x2 : Int32).toUInt32 >>> ((0 : Int32).toUInt32 &&& Int32.toUInt32 31)).toInt32 : Int32).toInt8.toInt32)) (12 : Int32).toNatClampNeg (vp_nar .byte (((x3 : Int32).toUInt32 >>> ((24 : Int32).toUInt32 &&& Int32.toUInt32 31)).toInt32 : Int32).toInt8.toInt32)) (13 : Int32).toNatClampNeg (vp_nar .byte (((x3 : Int32).toUInt32 >>> ((16 : Int32).toUInt32 &&& Int32.toUInt32 31)).toInt32 : Int32).toInt8.toInt32)) (14 : Int32).toNatClampNeg (vp_nar .byte (((x3 : Int32).toUInt32 >>> ((8 : Int32).toUInt32 &&& Int32.toUInt32 31)).toInt32 : Int32).toInt8.toInt32)) (15 : Int32).toNatClampNeg (vp_nar .byte (((x3 : Int32).toUInt32 >>> ((0 : Int32).toUInt32 &&& Int32.toUInt32 31)).toInt32 : Int32).toInt8.toInt32)) (16 : Int32).toNatClampNeg (vp_nar .byte (((x4 : Int32).toUInt32 >>> ((24 : Int32).toUInt32 &&& Int32.toUInt32 31)).toInt32 : Int32).toInt8.toInt32)) (17 : Int32).toNatClampNeg (vp_nar .byte (((x4 : Int32).toUInt32 >>> ((16 : Int32).toUInt32 &&& Int32.toUInt32 31)).toInt32 : Int32).toInt8.toInt32)) (18 : Int32).toNatClampNeg (vp_nar .byte (((x4 : Int32).toUInt32 >>> ((8 : Int32).toUInt32 &&& Int32.toUInt32 31)).toInt32 : Int32).toInt8.toInt32)) (19 : Int32).toNatClampNeg (vp_nar .byte (((x4 : Int32).toUInt32 >>> ((0 : Int32).toUInt32 &&& Int32.toUInt32 31)).toInt32 : Int32).toInt8.toInt32))))]) (fun u => [(ko, .long), (kt, .byte)])) 0 0 (va_A [(h0, .inr (0, [.ref tp, .int 0, a2, a3, a4, a5, a6, a7, a8, a9, a10])), (tp, .inl (kt, 20, .inl f)), (ou, .inl (ko, 1, .inr (.inl fo)))] sz) := by
  refine xt_ofWH (cc := b_Law_feed) (maxL := 8) (ret := (some .int)) (by decide) (List.mem_singleton.mpr rfl) ?_
  intro p e s m args below meth c s₁ B hml htab hv
  obtain ⟨rfl, hsz, hB, hP, hK, hD0⟩ := hv
  subst hsz
  have hx := B.exec
  have hb := B.bytes
  have hr := B.returns
  have hts := hB.1.at ([.ref h0, .int x0, .int x1, .int x2, .int x3, .int x4, .ref ou] : List Value).toArray
  have hown : s.vm.findClass "StackHostLaw" = some m.cls := findClass_of_methodNamed B.named
  have hlocks := B.notSynchronized
  have hD := hD0.self (sz := s.heap.size)
  generalize hAe : va_A [(h0, .inr (0, [.ref tp, .int 0, a2, a3, a4, a5, a6, a7, a8, a9, a10])), (tp, .inl (kt, 20, .inl f)), (ou, .inl (ko, 1, .inr (.inl fo)))] s.heap.size = A at hB hD ⊢
  have hA : ∀ q : Nat, s.heap.size ≤ q → A q := fun q h => by rw [← hAe]; exact Or.inr h
  have hS : va_S A s.heap s.heap [] := va_S.rf
  have hl := lv_entry ([.ref h0, .int x0, .int x1, .int x2, .int x3, .int x4, .ref ou]) (n := 8) (Nat.le_of_ble_eq_true rfl)
  rw [lg_entry_eq]
  generalize (lg_sl ([.ref h0, .int x0, .int x1, .int x2, .int x3, .int x4, .ref ou]) ++ List.replicate (8 - (lg_sl ([.ref h0, .int x0, .int x1, .int x2, .int x3, .int x4, .ref ou])).length) Slot.unset).toArray = ls at hl ⊢
  have hl : lv_has ls 8 [(0, .ref h0), (1, .int x0), (2, .int x1), (3, .int x2), (4, .int x3), (5, .int x4), (6, .ref ou)] := hl
  refine lv_aload hx hb d_Law_feed_0 (lv_at hl 6 rfl) ?_
  refine lv_iconst (v := 0) hx hb d_Law_feed_2 (by decide) ?_
  refine lv_aload_n hx hb d_Law_feed_3 rfl (lv_at hl 0 rfl) ?_
  refine lv_iload_n hx hb d_Law_feed_4 rfl (lv_at hl 1 rfl) ?_
  refine lv_iload_n hx hb d_Law_feed_5 rfl (lv_at hl 2 rfl) ?_
  refine lv_iload_n hx hb d_Law_feed_6 rfl (lv_at hl 3 rfl) ?_
  refine lv_iload hx hb d_Law_feed_7 (lv_at hl 4 rfl) ?_
  refine lv_iload hx hb d_Law_feed_9 (lv_at hl 5 rfl) ?_
  refine xt_call (D := D) (cl := xcl) (wr := [(ou, .inl (ko, 1, .inr (.inl fo)))]) (fun T hT X => by
    obtain ⟨cb, r1, r2, r3⟩ := va_recv hK hP (ci := 0) (q0 := 0) rfl rfl
    exact xt_invV X hx hown (hts _ m_b5c4b44c) (hts _ m_86133e3f) (hts _ m_5863c221) (xt_sigOf (hts _ m_382b818b)) nm_H_feed (by rw [hT]; exact r1) r2 r3 (g := F0 m 11 ls [.int x4, .int x3, .int x2, .int x1, .int x0, .ref h0, .int 0, .ref ou]) rfl (argsL := [.int x0, .int x1, .int x2, .int x3, .int x4]) (rest := [.int 0, .ref ou]) rfl rfl (by rw [hb]; exact d_Law_feed_11)) (c_H_feed l D h0 tp kt f x0 x1 x2 x3 x4 (a2) (a3) (a4) (a5) (a6) (a7) (a8) (a9) (a10) s.heap.size) (hml.trans hl.1.symm) (by rw [hb]; exact d_Law_feed_11) (Nat.le_of_ble_eq_true rfl) rfl rfl (by decide) (by decide) (by decide) (by decide) (xt_w1 hB m_382b818b) (xt_cdOf hB m_382b818b) (hts _ m_ba0734f5) hB hK hP hD hS hA [0, 1] [2] [0] rfl rfl rfl (by decide) (by decide) (by decide) (fun v2 u1 H locs hp hP hD hK hS => ?_) (fun XX9 ax9 u1 H locs hp hex hP hD hK hS => ?_)
  · obtain rfl : v2 = some (.int 20) := hp
    have hP : va_P D xcl [(ou, .inl (ko, 1, .inr (.inl fo))), (h0, .inr (0, [.ref tp, .int 20, a2, a3, a4, a5, a6, a7, a8, a9, a10])), (tp, .inl (kt, 20, .inl (upd (upd (upd (upd (upd (upd (upd (upd (upd (upd (upd (upd (upd (upd (upd (upd (upd (upd (upd (upd f (0 : Int32).toNatClampNeg (vp_nar .byte (((x0 : Int32).toUInt32 >>> ((24 : Int32).toUInt32 &&& Int32.toUInt32 31)).toInt32 : Int32).toInt8.toInt32)) (1 : Int32).toNatClampNeg (vp_nar .byte (((x0 : Int32).toUInt32 >>> ((16 : Int32).toUInt32 &&& Int32.toUInt32 31)).toInt32 : Int32).toInt8.toInt32)) (2 : Int32).toNatClampNeg (vp_nar .byte (((x0 : Int32).toUInt32 >>> ((8 : Int32).toUInt32 &&& Int32.toUInt32 31)).toInt32 : Int32).toInt8.toInt32)) (3 : Int32).toNatClampNeg (vp_nar .byte (((x0 : Int32).toUInt32 >>> ((0 : Int32).toUInt32 &&& Int32.toUInt32 31)).toInt32 : Int32).toInt8.toInt32)) (4 : Int32).toNatClampNeg (vp_nar .byte (((x1 : Int32).toUInt32 >>> ((24 : Int32).toUInt32 &&& Int32.toUInt32 31)).toInt32 : Int32).toInt8.toInt32)) (5 : Int32).toNatClampNeg (vp_nar .byte (((x1 : Int32).toUInt32 >>> ((16 : Int32).toUInt32 &&& Int32.toUInt32 31)).toInt32 : Int32).toInt8.toInt32)) (6 : Int32).toNatClampNeg (vp_nar .byte (((x1 : Int32).toUInt32 >>> ((8 : Int32).toUInt32 &&& Int32.toUInt32 31)).toInt32 : Int32).toInt8.toInt32)) (7 : Int32).toNatClampNeg (vp_nar .byte (((x1 : Int32).toUInt32 >>> ((0 : Int32).toUInt32 &&& Int32.toUInt32 31)).toInt32 : Int32).toInt8.toInt32)) (8 : Int32).toNatClampNeg (vp_nar .byte (((x2 : Int32).toUInt32 >>> ((24 : Int32).toUInt32 &&& Int32.toUInt32 31)).toInt32 : Int32).toInt8.toInt32)) (9 : Int32).toNatClampNeg (vp_nar .byte (((x2 : Int32).toUInt32 >>> ((16 : Int32).toUInt32 &&& Int32.toUInt32 31)).toInt32 : Int32).toInt8.toInt32)) (10 : Int32).toNatClampNeg (vp_nar .byte (((x2 : Int32).toUInt32 >>> ((8 : Int32).toUInt32 &&& Int32.toUInt32 31)).toInt32 : Int32).toInt8.toInt32)) (11 : Int32).toNatClampNeg (vp_nar .byte (((x2 : Int32).toUInt32 >>> ((0 : Int32).toUInt32 &&& Int32.toUInt32 31)).toInt32 : Int32).toInt8.toInt32)) (12 : Int32).toNatClampNeg (vp_nar .byte (((x3 : Int32).toUInt32 >>> ((24 : Int32).toUInt32 &&& Int32.toUInt32 31)).toInt32 : Int32).toInt8.toInt32)) (13 : Int32).toNatClampNeg (vp_nar .byte (((x3 : Int32).toUInt32 >>> ((16 : Int32).toUInt32 &&& Int32.toUInt32 31)).toInt32 : Int32).toInt8.toInt32)) (14 : Int32).toNatClampNeg (vp_nar .byte (((x3 : Int32).toUInt32 >>> ((8 : Int32).toUInt32 &&& Int32.toUInt32 31)).toInt32 : Int32).toInt8.toInt32)) (15 : Int32).toNatClampNeg (vp_nar .byte (((x3 : Int32).toUInt32 >>> ((0 : Int32).toUInt32 &&& Int32.toUInt32 31)).toInt32 : Int32).toInt8.toInt32)) (16 : Int32).toNatClampNeg (vp_nar .byte (((x4 : Int32).toUInt32 >>> ((24 : Int32).toUInt32 &&& Int32.toUInt32 31)).toInt32 : Int32).toInt8.toInt32)) (17 : Int32).toNatClampNeg (vp_nar .byte (((x4 : Int32).toUInt32 >>> ((16 : Int32).toUInt32 &&& Int32.toUInt32 31)).toInt32 : Int32).toInt8.toInt32)) (18 : Int32).toNatClampNeg (vp_nar .byte (((x4 : Int32).toUInt32 >>> ((8 : Int32).toUInt32 &&& Int32.toUInt32 31)).toInt32 : Int32).toInt8.toInt32)) (19 : Int32).toNatClampNeg (vp_nar .byte (((x4 : Int32).toUInt32 >>> ((0 : Int32).toUInt32 &&& Int32.toUInt32 31)).toInt32 : Int32).toInt8.toInt32))))] H := hP
    have hD : va_D A [(ou, .inl (ko, 1, .inr (.inl fo))), (h0, .inr (0, [.ref tp, .int 20, a2, a3, a4, a5, a6, a7, a8, a9, a10])), (tp, .inl (kt, 20, .inl (upd (upd (upd (upd (upd (upd (upd (upd (upd (upd (upd (upd (upd (upd (upd (upd (upd (upd (upd (upd f (0 : Int32).toNatClampNeg (vp_nar .byte (((x0 : Int32).toUInt32 >>> ((24 : Int32).toUInt32 &&& Int32.toUInt32 31)).toInt32 : Int32).toInt8.toInt32)) (1 : Int32).toNatClampNeg (vp_nar .byte (((x0 : Int32).toUInt32 >>> ((16 : Int32).toUInt32 &&& Int32.toUInt32 31)).toInt32 : Int32).toInt8.toInt32)) (2 : Int32).toNatClampNeg (vp_nar .byte (((x0 : Int32).toUInt32 >>> ((8 : Int32).toUInt32 &&& Int32.toUInt32 31)).toInt32 : Int32).toInt8.toInt32)) (3 : Int32).toNatClampNeg (vp_nar .byte (((x0 : Int32).toUInt32 >>> ((0 : Int32).toUInt32 &&& Int32.toUInt32 31)).toInt32 : Int32).toInt8.toInt32)) (4 : Int32).toNatClampNeg (vp_nar .byte (((x1 : Int32).toUInt32 >>> ((24 : Int32).toUInt32 &&& Int32.toUInt32 31)).toInt32 : Int32).toInt8.toInt32)) (5 : Int32).toNatClampNeg (vp_nar .byte (((x1 : Int32).toUInt32 >>> ((16 : Int32).toUInt32 &&& Int32.toUInt32 31)).toInt32 : Int32).toInt8.toInt32)) (6 : Int32).toNatClampNeg (vp_nar .byte (((x1 : Int32).toUInt32 >>> ((8 : Int32).toUInt32 &&& Int32.toUInt32 31)).toInt32 : Int32).toInt8.toInt32)) (7 : Int32).toNatClampNeg (vp_nar .byte (((x1 : Int32).toUInt32 >>> ((0 : Int32).toUInt32 &&& Int32.toUInt32 31)).toInt32 : Int32).toInt8.toInt32)) (8 : Int32).toNatClampNeg (vp_nar .byte (((x2 : Int32).toUInt32 >>> ((24 : Int32).toUInt32 &&& Int32.toUInt32 31)).toInt32 : Int32).toInt8.toInt32)) (9 : Int32).toNatClampNeg (vp_nar .byte (((x2 : Int32).toUInt32 >>> ((16 : Int32).toUInt32 &&& Int32.toUInt32 31)).toInt32 : Int32).toInt8.toInt32)) (10 : Int32).toNatClampNeg (vp_nar .byte (((x2 : Int32).toUInt32 >>> ((8 : Int32).toUInt32 &&& Int32.toUInt32 31)).toInt32 : Int32).toInt8.toInt32)) (11 : Int32).toNatClampNeg (vp_nar .byte (((x2 : Int32).toUInt32 >>> ((0 : Int32).toUInt32 &&& Int32.toUInt32 31)).toInt32 : Int32).toInt8.toInt32)) (12 : Int32).toNatClampNeg (vp_nar .byte (((x3 : Int32).toUInt32 >>> ((24 : Int32).toUInt32 &&& Int32.toUInt32 31)).toInt32 : Int32).toInt8.toInt32)) (13 : Int32).toNatClampNeg (vp_nar .byte (((x3 : Int32).toUInt32 >>> ((16 : Int32).toUInt32 &&& Int32.toUInt32 31)).toInt32 : Int32).toInt8.toInt32)) (14 : Int32).toNatClampNeg (vp_nar .byte (((x3 : Int32).toUInt32 >>> ((8 : Int32).toUInt32 &&& Int32.toUInt32 31)).toInt32 : Int32).toInt8.toInt32)) (15 : Int32).toNatClampNeg (vp_nar .byte (((x3 : Int32).toUInt32 >>> ((0 : Int32).toUInt32 &&& Int32.toUInt32 31)).toInt32 : Int32).toInt8.toInt32)) (16 : Int32).toNatClampNeg (vp_nar .byte (((x4 : Int32).toUInt32 >>> ((24 : Int32).toUInt32 &&& Int32.toUInt32 31)).toInt32 : Int32).toInt8.toInt32)) (17 : Int32).toNatClampNeg (vp_nar .byte (((x4 : Int32).toUInt32 >>> ((16 : Int32).toUInt32 &&& Int32.toUInt32 31)).toInt32 : Int32).toInt8.toInt32)) (18 : Int32).toNatClampNeg (vp_nar .byte (((x4 : Int32).toUInt32 >>> ((8 : Int32).toUInt32 &&& Int32.toUInt32 31)).toInt32 : Int32).toInt8.toInt32)) (19 : Int32).toNatClampNeg (vp_nar .byte (((x4 : Int32).toUInt32 >>> ((0 : Int32).toUInt32 &&& Int32.toUInt32 31)).toInt32 : Int32).toInt8.toInt32))))] := hD
    have hK : va_K D xcl [(kt, .byte), (ko, .long), (kt, .byte)] s := hK
    refine W.eq (g2 := F0 m 14 ls [.int 20, .int 0, .ref ou]) rfl ?_
    refine W.widen (k := 0) (n := 0) (by omega) (by omega) ?_
    refine lv_i2l (v := 20) hx hb d_Law_feed_14 (by decide +kernel) ?_
    refine va_last (i := 0) (x := 20) hx hb hK hP hD hS 0 1 rfl rfl (xt_vin (by decide +kernel)) d_Law_feed_15 (fun H locs hP hD hS => ?_)
    have hP : va_P D xcl [(ou, .inl (ko, 1, .inr (.inl (vp_updL fo (0 : Int32).toNatClampNeg 20)))), (h0, .inr (0, [.ref tp, .int 20, a2, a3, a4, a5, a6, a7, a8, a9, a10])), (tp, .inl (kt, 20, .inl (upd (upd (upd (upd (upd (upd (upd (upd (upd (upd (upd (upd (upd (upd (upd (upd (upd (upd (upd (upd f (0 : Int32).toNatClampNeg (vp_nar .byte (((x0 : Int32).toUInt32 >>> ((24 : Int32).toUInt32 &&& Int32.toUInt32 31)).toInt32 : Int32).toInt8.toInt32)) (1 : Int32).toNatClampNeg (vp_nar .byte (((x0 : Int32).toUInt32 >>> ((16 : Int32).toUInt32 &&& Int32.toUInt32 31)).toInt32 : Int32).toInt8.toInt32)) (2 : Int32).toNatClampNeg (vp_nar .byte (((x0 : Int32).toUInt32 >>> ((8 : Int32).toUInt32 &&& Int32.toUInt32 31)).toInt32 : Int32).toInt8.toInt32)) (3 : Int32).toNatClampNeg (vp_nar .byte (((x0 : Int32).toUInt32 >>> ((0 : Int32).toUInt32 &&& Int32.toUInt32 31)).toInt32 : Int32).toInt8.toInt32)) (4 : Int32).toNatClampNeg (vp_nar .byte (((x1 : Int32).toUInt32 >>> ((24 : Int32).toUInt32 &&& Int32.toUInt32 31)).toInt32 : Int32).toInt8.toInt32)) (5 : Int32).toNatClampNeg (vp_nar .byte (((x1 : Int32).toUInt32 >>> ((16 : Int32).toUInt32 &&& Int32.toUInt32 31)).toInt32 : Int32).toInt8.toInt32)) (6 : Int32).toNatClampNeg (vp_nar .byte (((x1 : Int32).toUInt32 >>> ((8 : Int32).toUInt32 &&& Int32.toUInt32 31)).toInt32 : Int32).toInt8.toInt32)) (7 : Int32).toNatClampNeg (vp_nar .byte (((x1 : Int32).toUInt32 >>> ((0 : Int32).toUInt32 &&& Int32.toUInt32 31)).toInt32 : Int32).toInt8.toInt32)) (8 : Int32).toNatClampNeg (vp_nar .byte (((x2 : Int32).toUInt32 >>> ((24 : Int32).toUInt32 &&& Int32.toUInt32 31)).toInt32 : Int32).toInt8.toInt32)) (9 : Int32).toNatClampNeg (vp_nar .byte (((x2 : Int32).toUInt32 >>> ((16 : Int32).toUInt32 &&& Int32.toUInt32 31)).toInt32 : Int32).toInt8.toInt32)) (10 : Int32).toNatClampNeg (vp_nar .byte (((x2 : Int32).toUInt32 >>> ((8 : Int32).toUInt32 &&& Int32.toUInt32 31)).toInt32 : Int32).toInt8.toInt32)) (11 : Int32).toNatClampNeg (vp_nar .byte (((x2 : Int32).toUInt32 >>> ((0 : Int32).toUInt32 &&& Int32.toUInt32 31)).toInt32 : Int32).toInt8.toInt32)) (12 : Int32).toNatClampNeg (vp_nar .byte (((x3 : Int32).toUInt32 >>> ((24 : Int32).toUInt32 &&& Int32.toUInt32 31)).toInt32 : Int32).toInt8.toInt32)) (13 : Int32).toNatClampNeg (vp_nar .byte (((x3 : Int32).toUInt32 >>> ((16 : Int32).toUInt32 &&& Int32.toUInt32 31)).toInt32 : Int32).toInt8.toInt32)) (14 : Int32).toNatClampNeg (vp_nar .byte (((x3 : Int32).toUInt32 >>> ((8 : Int32).toUInt32 &&& Int32.toUInt32 31)).toInt32 : Int32).toInt8.toInt32)) (15 : Int32).toNatClampNeg (vp_nar .byte (((x3 : Int32).toUInt32 >>> ((0 : Int32).toUInt32 &&& Int32.toUInt32 31)).toInt32 : Int32).toInt8.toInt32)) (16 : Int32).toNatClampNeg (vp_nar .byte (((x4 : Int32).toUInt32 >>> ((24 : Int32).toUInt32 &&& Int32.toUInt32 31)).toInt32 : Int32).toInt8.toInt32)) (17 : Int32).toNatClampNeg (vp_nar .byte (((x4 : Int32).toUInt32 >>> ((16 : Int32).toUInt32 &&& Int32.toUInt32 31)).toInt32 : Int32).toInt8.toInt32)) (18 : Int32).toNatClampNeg (vp_nar .byte (((x4 : Int32).toUInt32 >>> ((8 : Int32).toUInt32 &&& Int32.toUInt32 31)).toInt32 : Int32).toInt8.toInt32)) (19 : Int32).toNatClampNeg (vp_nar .byte (((x4 : Int32).toUInt32 >>> ((0 : Int32).toUInt32 &&& Int32.toUInt32 31)).toInt32 : Int32).toInt8.toInt32))))] H := hP
    have hD : va_D A [(ou, .inl (ko, 1, .inr (.inl (vp_updL fo (0 : Int32).toNatClampNeg 20)))), (h0, .inr (0, [.ref tp, .int 20, a2, a3, a4, a5, a6, a7, a8, a9, a10])), (tp, .inl (kt, 20, .inl (upd (upd (upd (upd (upd (upd (upd (upd (upd (upd (upd (upd (upd (upd (upd (upd (upd (upd (upd (upd f (0 : Int32).toNatClampNeg (vp_nar .byte (((x0 : Int32).toUInt32 >>> ((24 : Int32).toUInt32 &&& Int32.toUInt32 31)).toInt32 : Int32).toInt8.toInt32)) (1 : Int32).toNatClampNeg (vp_nar .byte (((x0 : Int32).toUInt32 >>> ((16 : Int32).toUInt32 &&& Int32.toUInt32 31)).toInt32 : Int32).toInt8.toInt32)) (2 : Int32).toNatClampNeg (vp_nar .byte (((x0 : Int32).toUInt32 >>> ((8 : Int32).toUInt32 &&& Int32.toUInt32 31)).toInt32 : Int32).toInt8.toInt32)) (3 : Int32).toNatClampNeg (vp_nar .byte (((x0 : Int32).toUInt32 >>> ((0 : Int32).toUInt32 &&& Int32.toUInt32 31)).toInt32 : Int32).toInt8.toInt32)) (4 : Int32).toNatClampNeg (vp_nar .byte (((x1 : Int32).toUInt32 >>> ((24 : Int32).toUInt32 &&& Int32.toUInt32 31)).toInt32 : Int32).toInt8.toInt32)) (5 : Int32).toNatClampNeg (vp_nar .byte (((x1 : Int32).toUInt32 >>> ((16 : Int32).toUInt32 &&& Int32.toUInt32 31)).toInt32 : Int32).toInt8.toInt32)) (6 : Int32).toNatClampNeg (vp_nar .byte (((x1 : Int32).toUInt32 >>> ((8 : Int32).toUInt32 &&& Int32.toUInt32 31)).toInt32 : Int32).toInt8.toInt32)) (7 : Int32).toNatClampNeg (vp_nar .byte (((x1 : Int32).toUInt32 >>> ((0 : Int32).toUInt32 &&& Int32.toUInt32 31)).toInt32 : Int32).toInt8.toInt32)) (8 : Int32).toNatClampNeg (vp_nar .byte (((x2 : Int32).toUInt32 >>> ((24 : Int32).toUInt32 &&& Int32.toUInt32 31)).toInt32 : Int32).toInt8.toInt32)) (9 : Int32).toNatClampNeg (vp_nar .byte (((x2 : Int32).toUInt32 >>> ((16 : Int32).toUInt32 &&& Int32.toUInt32 31)).toInt32 : Int32).toInt8.toInt32)) (10 : Int32).toNatClampNeg (vp_nar .byte (((x2 : Int32).toUInt32 >>> ((8 : Int32).toUInt32 &&& Int32.toUInt32 31)).toInt32 : Int32).toInt8.toInt32)) (11 : Int32).toNatClampNeg (vp_nar .byte (((x2 : Int32).toUInt32 >>> ((0 : Int32).toUInt32 &&& Int32.toUInt32 31)).toInt32 : Int32).toInt8.toInt32)) (12 : Int32).toNatClampNeg (vp_nar .byte (((x3 : Int32).toUInt32 >>> ((24 : Int32).toUInt32 &&& Int32.toUInt32 31)).toInt32 : Int32).toInt8.toInt32)) (13 : Int32).toNatClampNeg (vp_nar .byte (((x3 : Int32).toUInt32 >>> ((16 : Int32).toUInt32 &&& Int32.toUInt32 31)).toInt32 : Int32).toInt8.toInt32)) (14 : Int32).toNatClampNeg (vp_nar .byte (((x3 : Int32).toUInt32 >>> ((8 : Int32).toUInt32 &&& Int32.toUInt32 31)).toInt32 : Int32).toInt8.toInt32)) (15 : Int32).toNatClampNeg (vp_nar .byte (((x3 : Int32).toUInt32 >>> ((0 : Int32).toUInt32 &&& Int32.toUInt32 31)).toInt32 : Int32).toInt8.toInt32)) (16 : Int32).toNatClampNeg (vp_nar .byte (((x4 : Int32).toUInt32 >>> ((24 : Int32).toUInt32 &&& Int32.toUInt32 31)).toInt32 : Int32).toInt8.toInt32)) (17 : Int32).toNatClampNeg (vp_nar .byte (((x4 : Int32).toUInt32 >>> ((16 : Int32).toUInt32 &&& Int32.toUInt32 31)).toInt32 : Int32).toInt8.toInt32)) (18 : Int32).toNatClampNeg (vp_nar .byte (((x4 : Int32).toUInt32 >>> ((8 : Int32).toUInt32 &&& Int32.toUInt32 31)).toInt32 : Int32).toInt8.toInt32)) (19 : Int32).toNatClampNeg (vp_nar .byte (((x4 : Int32).toUInt32 >>> ((0 : Int32).toUInt32 &&& Int32.toUInt32 31)).toInt32 : Int32).toInt8.toInt32))))] := hD
    refine lv_goto (tgt := 23) hx hb d_Law_feed_16 rfl ?_
    refine lv_iconst (v := 0) hx hb d_Law_feed_23 (by decide) ?_
    refine W.widen (k := 0) (n := 0) (by decide) (by decide) ?_
    refine xt_mono xt_ofMQ ?_
    exact W.iret hx hb hr (fun t ht hW => ⟨(fun _ => 0), Or.inl ⟨_, rfl, rfl⟩, by rw [ht]; exact hP.sub [0, 1, 2] rfl, va_K.moved hW.alike (hK.sub [1, 0] rfl), hD.sub [0, 1, 2] (by decide) rfl, hS.F ht⟩) hS.2.2 d_Law_feed_24 hlocks
  · exact False.elim hp

set_option maxHeartbeats 4000000 in
set_option maxRecDepth 100000 in
theorem c_Law_end_0 (l : Launch) (D : va_G) (h0 : Nat) (a0 a2 a3 a4 a5 a6 a7 a8 a9 a10 : Value) (sz : Nat) : xt_Met l y_Law_end [.codeWith y_Law_end b_Law_end 3 (some .int) [(0, 5, 8, 19)]] ({ frames := 9, cells := 0, slots := 0, locals := 220 }) (xt_P D xcl [.ref h0, .int 0] [(h0, .inr (0, [a0, .int 0, a2, a3, a4, a5, a6, a7, a8, a9, a10]))] [] sz) (xt_Q (S := Nat → Nat) D xcl (va_A [(h0, .inr (0, [a0, .int 0, a2, a3, a4, a5, a6, a7, a8, a9, a10]))] sz) (fun v u => v = some (.int 0)) (fun _ _ => False) (fun u => [(h0, .inr (0, [a0, .int 0, a2, a3, a4, a5, a6, a7, a8, a9, a10]))]) (fun u => [])) 0 0 (va_A [(h0, .inr (0, [a0, .int 0, a2, a3, a4, a5, a6, a7, a8, a9, a10]))] sz) := by
  refine xt_ofWH (cc := b_Law_end) (maxL := 3) (ret := (some .int)) (by decide) (List.mem_singleton.mpr rfl) ?_
  intro p e s m args below meth c s₁ B hml htab hv
  obtain ⟨rfl, hsz, hB, hP, hK, hD0⟩ := hv
  subst hsz
  have hx := B.exec
  have hb := B.bytes
  have hr := B.returns
  have hts := hB.1.at ([.ref h0, .int 0] : List Value).toArray
  have hown : s.vm.findClass "StackHostLaw" = some m.cls := findClass_of_methodNamed B.named
  have hlocks := B.notSynchronized
  have hD := hD0.self (sz := s.heap.size)
  generalize hAe : va_A [(h0, .inr (0, [a0, .int 0, a2, a3, a4, a5, a6, a7, a8, a9, a10]))] s.heap.size = A at hB hD ⊢
  have hA : ∀ q : Nat, s.heap.size ≤ q → A q := fun q h => by rw [← hAe]; exact Or.inr h
  have hS : va_S A s.heap s.heap [] := va_S.rf
  have hl := lv_entry ([.ref h0, .int 0]) (n := 3) (Nat.le_of_ble_eq_true rfl)
  rw [lg_entry_eq]
  generalize (lg_sl ([.ref h0, .int 0]) ++ List.replicate (3 - (lg_sl ([.ref h0, .int 0])).length) Slot.unset).toArray = ls at hl ⊢
  have hl : lv_has ls 3 [(0, .ref h0), (1, .int 0)] := hl
  refine lv_aload_n hx hb d_Law_end_0 rfl (lv_at hl 0 rfl) ?_
  refine lv_iload_n hx hb d_Law_end_1 rfl (lv_at hl 1 rfl) ?_
  refine xt_call (D := D) (cl := xcl) (wr := []) (fun T hT X => by
    obtain ⟨cb, r1, r2, r3⟩ := va_recv hK hP (ci := 0) (q0 := 0) rfl rfl
    exact xt_invV X hx hown (hts _ m_72ab532e) (hts _ m_ca508916) (hts _ m_a7242f4f) (xt_sigOf (hts _ m_d2420a72)) nm_H_end (by rw [hT]; exact r1) r2 r3 (g := F0 m 2 ls [.int 0, .ref h0]) rfl (argsL := [.int 0]) (rest := []) rfl rfl (by rw [hb]; exact d_Law_end_2)) (c_H_end_0 l D h0 (a0) (a2) (a3) (a4) (a5) (a6) (a7) (a8) (a9) (a10) s.heap.size) (hml.trans hl.1.symm) (by rw [hb]; exact d_Law_end_2) (Nat.le_of_ble_eq_true rfl) rfl rfl (by decide) (by decide) (by decide) (by decide) (xt_w1 hB m_d2420a72) (xt_cdOf hB m_d2420a72) (hts _ m_ba0734f5) hB hK hP hD hS hA [0] [] [] rfl rfl rfl (by decide) (by decide) (by decide) (fun v2 u1 H locs hp hP hD hK hS => ?_) (fun XX9 ax9 u1 H locs hp hex hP hD hK hS => ?_)
  · obtain rfl : v2 = none := hp
    have hP : va_P D xcl [(h0, .inr (0, [a0, .int 0, a2, a3, a4, a5, a6, a7, a8, a9, a10]))] H := hP
    have hD : va_D A [(h0, .inr (0, [a0, .int 0, a2, a3, a4, a5, a6, a7, a8, a9, a10]))] := hD
    have hK : va_K D xcl [] s := hK
    refine W.eq (g2 := F0 m 5 ls []) rfl ?_
    refine W.widen (k := 0) (n := 0) (by omega) (by omega) ?_
    refine lv_goto (tgt := 11) hx hb d_Law_end_5 rfl ?_
    refine lv_iconst (v := 0) hx hb d_Law_end_11 (by decide) ?_
    refine W.widen (k := 0) (n := 0) (by decide) (by decide) ?_
    refine xt_mono xt_ofMQ ?_
    exact W.iret hx hb hr (fun t ht hW => ⟨(fun _ => 0), Or.inl ⟨_, rfl, rfl⟩, by rw [ht]; exact hP.sub [0] rfl, va_K.moved hW.alike (hK.sub [] rfl), hD.sub [0] (by decide) rfl, hS.F ht⟩) hS.2.2 d_Law_end_12 hlocks
  · exact False.elim hp

set_option maxHeartbeats 4000000 in
set_option maxRecDepth 100000 in
theorem c_Law_end_t (l : Launch) (hfl : l.flags = pinnedFlags ++ [noTraceFlag]) (D : va_G) (h0 : Nat) (ts n : Int32) (a0 a2 a3 a4 a5 a6 a7 a8 a9 a10 : Value) (sz : Nat) (hn : n < 0 ∨ ts < n) : xt_Met l y_Law_end [.codeWith y_Law_end b_Law_end 3 (some .int) [(0, 5, 8, 19)]] ({ frames := 9, cells := 1, slots := 6, locals := 220 }) (xt_P D xcl [.ref h0, .int n] [(h0, .inr (0, [a0, .int ts, a2, a3, a4, a5, a6, a7, a8, a9, a10]))] [] sz) (xt_Q (S := Nat → Nat) D xcl (va_A [(h0, .inr (0, [a0, .int ts, a2, a3, a4, a5, a6, a7, a8, a9, a10]))] sz) (fun v u => v = some (.int 1)) (fun _ _ => False) (fun u => [(h0, .inr (0, [a0, .int ts, a2, a3, a4, a5, a6, a7, a8, a9, a10]))]) (fun u => [])) 1 6 (va_A [(h0, .inr (0, [a0, .int ts, a2, a3, a4, a5, a6, a7, a8, a9, a10]))] sz) := by
  refine xt_ofWH (cc := b_Law_end) (maxL := 3) (ret := (some .int)) (by decide) (List.mem_singleton.mpr rfl) ?_
  intro p e s m args below meth c s₁ B hml htab hv
  obtain ⟨rfl, hsz, hB, hP, hK, hD0⟩ := hv
  subst hsz
  have hx := B.exec
  have hb := B.bytes
  have hr := B.returns
  have hts := hB.1.at ([.ref h0, .int n] : List Value).toArray
  have hown : s.vm.findClass "StackHostLaw" = some m.cls := findClass_of_methodNamed B.named
  have hlocks := B.notSynchronized
  have hD := hD0.self (sz := s.heap.size)
  generalize hAe : va_A [(h0, .inr (0, [a0, .int ts, a2, a3, a4, a5, a6, a7, a8, a9, a10]))] s.heap.size = A at hB hD ⊢
  have hA : ∀ q : Nat, s.heap.size ≤ q → A q := fun q h => by rw [← hAe]; exact Or.inr h
  have hS : va_S A s.heap s.heap [] := va_S.rf
  have hl := lv_entry ([.ref h0, .int n]) (n := 3) (Nat.le_of_ble_eq_true rfl)
  rw [lg_entry_eq]
  generalize (lg_sl ([.ref h0, .int n]) ++ List.replicate (3 - (lg_sl ([.ref h0, .int n])).length) Slot.unset).toArray = ls at hl ⊢
  have hl : lv_has ls 3 [(0, .ref h0), (1, .int n)] := hl
  refine lv_aload_n hx hb d_Law_end_0 rfl (lv_at hl 0 rfl) ?_
  refine lv_iload_n hx hb d_Law_end_1 rfl (lv_at hl 1 rfl) ?_
  refine xt_call (D := D) (cl := xcl) (wr := []) (fun T hT X => by
    obtain ⟨cb, r1, r2, r3⟩ := va_recv hK hP (ci := 0) (q0 := 0) rfl rfl
    exact xt_invV X hx hown (hts _ m_72ab532e) (hts _ m_ca508916) (hts _ m_a7242f4f) (xt_sigOf (hts _ m_d2420a72)) nm_H_end (by rw [hT]; exact r1) r2 r3 (g := F0 m 2 ls [.int n, .ref h0]) rfl (argsL := [.int n]) (rest := []) rfl rfl (by rw [hb]; exact d_Law_end_2)) (c_H_end_t l hfl D h0 ts n (a0) (a2) (a3) (a4) (a5) (a6) (a7) (a8) (a9) (a10) s.heap.size hn) (hml.trans hl.1.symm) (by rw [hb]; exact d_Law_end_2) (Nat.le_of_ble_eq_true rfl) rfl rfl (by decide) (by decide) (by decide) (by decide) (xt_w1 hB m_d2420a72) (xt_cdOf hB m_d2420a72) (hts _ m_ba0734f5) hB hK hP hD hS hA [0] [] [] rfl rfl rfl (by decide) (by decide) (by decide) (fun v2 u1 H locs hp hP hD hK hS => ?_) (fun XX9 ax9 u1 H locs hp hex hP hD hK hS => ?_)
  · exact False.elim hp
  · have hp : XX9 = "java/lang/IllegalArgumentException" := hp
    subst hp
    have hP : va_P D xcl [(h0, .inr (0, [a0, .int ts, a2, a3, a4, a5, a6, a7, a8, a9, a10]))] H := hP
    have hD : va_D A [(h0, .inr (0, [a0, .int ts, a2, a3, a4, a5, a6, a7, a8, a9, a10]))] := hD
    have hK : va_K D xcl [] s := hK
    refine xt_catch (own := "StackHostLaw") (name := "java/lang/IllegalArgumentException") (Xn := "java/lang/IllegalArgumentException") hown ⟨0, 5, 8, 19⟩ [] htab (by decide) (by decide) (hts _ m_3beed69a) (hts _ m_b3980edb) hex ?_
    refine W.eq (g2 := F0 m 8 ls [.ref ax9]) rfl ?_
    refine W.widen (k := 1) (n := 6) (by omega) (by omega) ?_
    refine lv_astore_n hx hb d_Law_end_8 rfl hl (by decide) rfl (fun ls hl => ?_)
    have hl : lv_has ls 3 [(2, .ref ax9), (0, .ref h0), (1, .int n)] := hl
    refine lv_iconst (v := 1) hx hb d_Law_end_9 (by decide) ?_
    refine W.widen (k := 1) (n := 6) (by decide) (by decide) ?_
    refine xt_mono xt_ofMQ ?_
    exact W.iret hx hb hr (fun t ht hW => ⟨(fun _ => 0), Or.inl ⟨_, rfl, rfl⟩, by rw [ht]; exact hP.sub [0] rfl, va_K.moved hW.alike (hK.sub [] rfl), hD.sub [0] (by decide) rfl, hS.F ht⟩) hS.2.2 d_Law_end_10 hlocks

set_option maxHeartbeats 4000000 in
set_option maxRecDepth 100000 in
theorem c_Law_fault_0 (l : Launch) (D : va_G) (h0 : Nat) (fc fp : Int32) (a0 a1 a2 a3 a4 a5 a6 a7 a8 : Value) (ou ko : Nat) (fo : Nat → Int64) (sz : Nat) : xt_Met l y_Law_fault [.codeWith y_Law_fault b_Law_fault 4 (some .int) [(0, 9, 12, 29)]] ({ frames := 9, cells := 0, slots := 0, locals := 220 }) (xt_P D xcl [.ref h0, .int 0, .ref ou] [(h0, .inr (0, [a0, a1, a2, a3, a4, a5, a6, a7, a8, .int fc, .int fp])), (ou, .inl (ko, 1, .inr (.inl fo)))] [(ko, .long)] sz) (xt_Q (S := Nat → Nat) D xcl (va_A [(h0, .inr (0, [a0, a1, a2, a3, a4, a5, a6, a7, a8, .int fc, .int fp])), (ou, .inl (ko, 1, .inr (.inl fo)))] sz) (fun v u => v = some (.int 0)) (fun _ _ => False) (fun u => [(ou, .inl (ko, 1, .inr (.inl (vp_updL fo (0 : Int32).toNatClampNeg (fc : Int32).toInt64)))), (h0, .inr (0, [a0, a1, a2, a3, a4, a5, a6, a7, a8, .int fc, .int fp]))]) (fun u => [(ko, .long)])) 0 0 (va_A [(h0, .inr (0, [a0, a1, a2, a3, a4, a5, a6, a7, a8, .int fc, .int fp])), (ou, .inl (ko, 1, .inr (.inl fo)))] sz) := by
  refine xt_ofWH (cc := b_Law_fault) (maxL := 4) (ret := (some .int)) (by decide) (List.mem_singleton.mpr rfl) ?_
  intro p e s m args below meth c s₁ B hml htab hv
  obtain ⟨rfl, hsz, hB, hP, hK, hD0⟩ := hv
  subst hsz
  have hx := B.exec
  have hb := B.bytes
  have hr := B.returns
  have hts := hB.1.at ([.ref h0, .int 0, .ref ou] : List Value).toArray
  have hown : s.vm.findClass "StackHostLaw" = some m.cls := findClass_of_methodNamed B.named
  have hlocks := B.notSynchronized
  have hD := hD0.self (sz := s.heap.size)
  generalize hAe : va_A [(h0, .inr (0, [a0, a1, a2, a3, a4, a5, a6, a7, a8, .int fc, .int fp])), (ou, .inl (ko, 1, .inr (.inl fo)))] s.heap.size = A at hB hD ⊢
  have hA : ∀ q : Nat, s.heap.size ≤ q → A q := fun q h => by rw [← hAe]; exact Or.inr h
  have hS : va_S A s.heap s.heap [] := va_S.rf
  have hl := lv_entry ([.ref h0, .int 0, .ref ou]) (n := 4) (Nat.le_of_ble_eq_true rfl)
  rw [lg_entry_eq]
  generalize (lg_sl ([.ref h0, .int 0, .ref ou]) ++ List.replicate (4 - (lg_sl ([.ref h0, .int 0, .ref ou])).length) Slot.unset).toArray = ls at hl ⊢
  have hl : lv_has ls 4 [(0, .ref h0), (1, .int 0), (2, .ref ou)] := hl
  refine lv_aload_n hx hb d_Law_fault_0 rfl (lv_at hl 2 rfl) ?_
  refine lv_iconst (v := 0) hx hb d_Law_fault_1 (by decide) ?_
  refine lv_aload_n hx hb d_Law_fault_2 rfl (lv_at hl 0 rfl) ?_
  refine lv_iload_n hx hb d_Law_fault_3 rfl (lv_at hl 1 rfl) ?_
  refine xt_call (D := D) (cl := xcl) (wr := [(ou, .inl (ko, 1, .inr (.inl fo)))]) (fun T hT X => by
    obtain ⟨cb, r1, r2, r3⟩ := va_recv hK hP (ci := 0) (q0 := 0) rfl rfl
    exact xt_invV X hx hown (hts _ m_738a85eb) (hts _ m_f43b4a5f) (hts _ m_f971e4f9) (xt_sigOf (hts _ m_f9b47110)) nm_H_fault (by rw [hT]; exact r1) r2 r3 (g := F0 m 4 ls [.int 0, .ref h0, .int 0, .ref ou]) rfl (argsL := [.int 0]) (rest := [.int 0, .ref ou]) rfl rfl (by rw [hb]; exact d_Law_fault_4)) (c_H_fault_0 l D h0 fc fp (a0) (a1) (a2) (a3) (a4) (a5) (a6) (a7) (a8) s.heap.size) (hml.trans hl.1.symm) (by rw [hb]; exact d_Law_fault_4) (Nat.le_of_ble_eq_true rfl) rfl rfl (by decide) (by decide) (by decide) (by decide) (xt_w1 hB m_f9b47110) (xt_cdOf hB m_f9b47110) (hts _ m_ba0734f5) hB hK hP hD hS hA [0] [1] [] rfl rfl rfl (by decide) (by decide) (by decide) (fun v2 u1 H locs hp hP hD hK hS => ?_) (fun XX9 ax9 u1 H locs hp hex hP hD hK hS => ?_)
  · obtain rfl : v2 = some (.int fc) := hp
    have hP : va_P D xcl [(ou, .inl (ko, 1, .inr (.inl fo))), (h0, .inr (0, [a0, a1, a2, a3, a4, a5, a6, a7, a8, .int fc, .int fp]))] H := hP
    have hD : va_D A [(ou, .inl (ko, 1, .inr (.inl fo))), (h0, .inr (0, [a0, a1, a2, a3, a4, a5, a6, a7, a8, .int fc, .int fp]))] := hD
    have hK : va_K D xcl [(ko, .long)] s := hK
    refine W.eq (g2 := F0 m 7 ls [.int fc, .int 0, .ref ou]) rfl ?_
    refine W.widen (k := 0) (n := 0) (by omega) (by omega) ?_
    refine lv_i2l hx hb d_Law_fault_7 rfl ?_
    refine va_last (i := 0) (x := (fc : Int32).toInt64) hx hb hK hP hD hS 0 0 rfl rfl (xt_vin (by decide +kernel)) d_Law_fault_8 (fun H locs hP hD hS => ?_)
    have hP : va_P D xcl [(ou, .inl (ko, 1, .inr (.inl (vp_updL fo (0 : Int32).toNatClampNeg (fc : Int32).toInt64)))), (h0, .inr (0, [a0, a1, a2, a3, a4, a5, a6, a7, a8, .int fc, .int fp]))] H := hP
    have hD : va_D A [(ou, .inl (ko, 1, .inr (.inl (vp_updL fo (0 : Int32).toNatClampNeg (fc : Int32).toInt64)))), (h0, .inr (0, [a0, a1, a2, a3, a4, a5, a6, a7, a8, .int fc, .int fp]))] := hD
    refine lv_goto (tgt := 15) hx hb d_Law_fault_9 rfl ?_
    refine lv_iconst (v := 0) hx hb d_Law_fault_15 (by decide) ?_
    refine W.widen (k := 0) (n := 0) (by decide) (by decide) ?_
    refine xt_mono xt_ofMQ ?_
    exact W.iret hx hb hr (fun t ht hW => ⟨(fun _ => 0), Or.inl ⟨_, rfl, rfl⟩, by rw [ht]; exact hP.sub [0, 1] rfl, va_K.moved hW.alike (hK.sub [0] rfl), hD.sub [0, 1] (by decide) rfl, hS.F ht⟩) hS.2.2 d_Law_fault_16 hlocks
  · exact False.elim hp

set_option maxHeartbeats 4000000 in
set_option maxRecDepth 100000 in
theorem c_Law_fault_1 (l : Launch) (D : va_G) (h0 : Nat) (fc fp : Int32) (a0 a1 a2 a3 a4 a5 a6 a7 a8 : Value) (ou ko : Nat) (fo : Nat → Int64) (sz : Nat) : xt_Met l y_Law_fault [.codeWith y_Law_fault b_Law_fault 4 (some .int) [(0, 9, 12, 29)]] ({ frames := 9, cells := 0, slots := 0, locals := 220 }) (xt_P D xcl [.ref h0, .int 1, .ref ou] [(h0, .inr (0, [a0, a1, a2, a3, a4, a5, a6, a7, a8, .int fc, .int fp])), (ou, .inl (ko, 1, .inr (.inl fo)))] [(ko, .long)] sz) (xt_Q (S := Nat → Nat) D xcl (va_A [(h0, .inr (0, [a0, a1, a2, a3, a4, a5, a6, a7, a8, .int fc, .int fp])), (ou, .inl (ko, 1, .inr (.inl fo)))] sz) (fun v u => v = some (.int 0)) (fun _ _ => False) (fun u => [(ou, .inl (ko, 1, .inr (.inl (vp_updL fo (0 : Int32).toNatClampNeg (fp : Int32).toInt64)))), (h0, .inr (0, [a0, a1, a2, a3, a4, a5, a6, a7, a8, .int fc, .int fp]))]) (fun u => [(ko, .long)])) 0 0 (va_A [(h0, .inr (0, [a0, a1, a2, a3, a4, a5, a6, a7, a8, .int fc, .int fp])), (ou, .inl (ko, 1, .inr (.inl fo)))] sz) := by
  refine xt_ofWH (cc := b_Law_fault) (maxL := 4) (ret := (some .int)) (by decide) (List.mem_singleton.mpr rfl) ?_
  intro p e s m args below meth c s₁ B hml htab hv
  obtain ⟨rfl, hsz, hB, hP, hK, hD0⟩ := hv
  subst hsz
  have hx := B.exec
  have hb := B.bytes
  have hr := B.returns
  have hts := hB.1.at ([.ref h0, .int 1, .ref ou] : List Value).toArray
  have hown : s.vm.findClass "StackHostLaw" = some m.cls := findClass_of_methodNamed B.named
  have hlocks := B.notSynchronized
  have hD := hD0.self (sz := s.heap.size)
  generalize hAe : va_A [(h0, .inr (0, [a0, a1, a2, a3, a4, a5, a6, a7, a8, .int fc, .int fp])), (ou, .inl (ko, 1, .inr (.inl fo)))] s.heap.size = A at hB hD ⊢
  have hA : ∀ q : Nat, s.heap.size ≤ q → A q := fun q h => by rw [← hAe]; exact Or.inr h
  have hS : va_S A s.heap s.heap [] := va_S.rf
  have hl := lv_entry ([.ref h0, .int 1, .ref ou]) (n := 4) (Nat.le_of_ble_eq_true rfl)
  rw [lg_entry_eq]
  generalize (lg_sl ([.ref h0, .int 1, .ref ou]) ++ List.replicate (4 - (lg_sl ([.ref h0, .int 1, .ref ou])).length) Slot.unset).toArray = ls at hl ⊢
  have hl : lv_has ls 4 [(0, .ref h0), (1, .int 1), (2, .ref ou)] := hl
  refine lv_aload_n hx hb d_Law_fault_0 rfl (lv_at hl 2 rfl) ?_
  refine lv_iconst (v := 0) hx hb d_Law_fault_1 (by decide) ?_
  refine lv_aload_n hx hb d_Law_fault_2 rfl (lv_at hl 0 rfl) ?_
  refine lv_iload_n hx hb d_Law_fault_3 rfl (lv_at hl 1 rfl) ?_
  refine xt_call (D := D) (cl := xcl) (wr := [(ou, .inl (ko, 1, .inr (.inl fo)))]) (fun T hT X => by
    obtain ⟨cb, r1, r2, r3⟩ := va_recv hK hP (ci := 0) (q0 := 0) rfl rfl
    exact xt_invV X hx hown (hts _ m_738a85eb) (hts _ m_f43b4a5f) (hts _ m_f971e4f9) (xt_sigOf (hts _ m_f9b47110)) nm_H_fault (by rw [hT]; exact r1) r2 r3 (g := F0 m 4 ls [.int 1, .ref h0, .int 0, .ref ou]) rfl (argsL := [.int 1]) (rest := [.int 0, .ref ou]) rfl rfl (by rw [hb]; exact d_Law_fault_4)) (c_H_fault_1 l D h0 fc fp (a0) (a1) (a2) (a3) (a4) (a5) (a6) (a7) (a8) s.heap.size) (hml.trans hl.1.symm) (by rw [hb]; exact d_Law_fault_4) (Nat.le_of_ble_eq_true rfl) rfl rfl (by decide) (by decide) (by decide) (by decide) (xt_w1 hB m_f9b47110) (xt_cdOf hB m_f9b47110) (hts _ m_ba0734f5) hB hK hP hD hS hA [0] [1] [] rfl rfl rfl (by decide) (by decide) (by decide) (fun v2 u1 H locs hp hP hD hK hS => ?_) (fun XX9 ax9 u1 H locs hp hex hP hD hK hS => ?_)
  · obtain rfl : v2 = some (.int fp) := hp
    have hP : va_P D xcl [(ou, .inl (ko, 1, .inr (.inl fo))), (h0, .inr (0, [a0, a1, a2, a3, a4, a5, a6, a7, a8, .int fc, .int fp]))] H := hP
    have hD : va_D A [(ou, .inl (ko, 1, .inr (.inl fo))), (h0, .inr (0, [a0, a1, a2, a3, a4, a5, a6, a7, a8, .int fc, .int fp]))] := hD
    have hK : va_K D xcl [(ko, .long)] s := hK
    refine W.eq (g2 := F0 m 7 ls [.int fp, .int 0, .ref ou]) rfl ?_
    refine W.widen (k := 0) (n := 0) (by omega) (by omega) ?_
    refine lv_i2l hx hb d_Law_fault_7 rfl ?_
    refine va_last (i := 0) (x := (fp : Int32).toInt64) hx hb hK hP hD hS 0 0 rfl rfl (xt_vin (by decide +kernel)) d_Law_fault_8 (fun H locs hP hD hS => ?_)
    have hP : va_P D xcl [(ou, .inl (ko, 1, .inr (.inl (vp_updL fo (0 : Int32).toNatClampNeg (fp : Int32).toInt64)))), (h0, .inr (0, [a0, a1, a2, a3, a4, a5, a6, a7, a8, .int fc, .int fp]))] H := hP
    have hD : va_D A [(ou, .inl (ko, 1, .inr (.inl (vp_updL fo (0 : Int32).toNatClampNeg (fp : Int32).toInt64)))), (h0, .inr (0, [a0, a1, a2, a3, a4, a5, a6, a7, a8, .int fc, .int fp]))] := hD
    refine lv_goto (tgt := 15) hx hb d_Law_fault_9 rfl ?_
    refine lv_iconst (v := 0) hx hb d_Law_fault_15 (by decide) ?_
    refine W.widen (k := 0) (n := 0) (by decide) (by decide) ?_
    refine xt_mono xt_ofMQ ?_
    exact W.iret hx hb hr (fun t ht hW => ⟨(fun _ => 0), Or.inl ⟨_, rfl, rfl⟩, by rw [ht]; exact hP.sub [0, 1] rfl, va_K.moved hW.alike (hK.sub [0] rfl), hD.sub [0, 1] (by decide) rfl, hS.F ht⟩) hS.2.2 d_Law_fault_16 hlocks
  · exact False.elim hp

set_option maxHeartbeats 4000000 in
set_option maxRecDepth 100000 in
theorem c_Law_fault_t (l : Launch) (hfl : l.flags = pinnedFlags ++ [noTraceFlag]) (D : va_G) (h0 : Nat) (fc fp w : Int32) (a0 a1 a2 a3 a4 a5 a6 a7 a8 : Value) (ou ko : Nat) (fo : Nat → Int64) (sz : Nat) (hw : w < 0 ∨ 1 < w) : xt_Met l y_Law_fault [.codeWith y_Law_fault b_Law_fault 4 (some .int) [(0, 9, 12, 29)]] ({ frames := 9, cells := 1, slots := 6, locals := 220 }) (xt_P D xcl [.ref h0, .int w, .ref ou] [(h0, .inr (0, [a0, a1, a2, a3, a4, a5, a6, a7, a8, .int fc, .int fp])), (ou, .inl (ko, 1, .inr (.inl fo)))] [(ko, .long)] sz) (xt_Q (S := Nat → Nat) D xcl (va_A [(h0, .inr (0, [a0, a1, a2, a3, a4, a5, a6, a7, a8, .int fc, .int fp])), (ou, .inl (ko, 1, .inr (.inl fo)))] sz) (fun v u => v = some (.int 1)) (fun _ _ => False) (fun u => [(ou, .inl (ko, 1, .inr (.inl fo))), (h0, .inr (0, [a0, a1, a2, a3, a4, a5, a6, a7, a8, .int fc, .int fp]))]) (fun u => [(ko, .long)])) 1 6 (va_A [(h0, .inr (0, [a0, a1, a2, a3, a4, a5, a6, a7, a8, .int fc, .int fp])), (ou, .inl (ko, 1, .inr (.inl fo)))] sz) := by
  refine xt_ofWH (cc := b_Law_fault) (maxL := 4) (ret := (some .int)) (by decide) (List.mem_singleton.mpr rfl) ?_
  intro p e s m args below meth c s₁ B hml htab hv
  obtain ⟨rfl, hsz, hB, hP, hK, hD0⟩ := hv
  subst hsz
  have hx := B.exec
  have hb := B.bytes
  have hr := B.returns
  have hts := hB.1.at ([.ref h0, .int w, .ref ou] : List Value).toArray
  have hown : s.vm.findClass "StackHostLaw" = some m.cls := findClass_of_methodNamed B.named
  have hlocks := B.notSynchronized
  have hD := hD0.self (sz := s.heap.size)
  generalize hAe : va_A [(h0, .inr (0, [a0, a1, a2, a3, a4, a5, a6, a7, a8, .int fc, .int fp])), (ou, .inl (ko, 1, .inr (.inl fo)))] s.heap.size = A at hB hD ⊢
  have hA : ∀ q : Nat, s.heap.size ≤ q → A q := fun q h => by rw [← hAe]; exact Or.inr h
  have hS : va_S A s.heap s.heap [] := va_S.rf
  have hl := lv_entry ([.ref h0, .int w, .ref ou]) (n := 4) (Nat.le_of_ble_eq_true rfl)
  rw [lg_entry_eq]
  generalize (lg_sl ([.ref h0, .int w, .ref ou]) ++ List.replicate (4 - (lg_sl ([.ref h0, .int w, .ref ou])).length) Slot.unset).toArray = ls at hl ⊢
  have hl : lv_has ls 4 [(0, .ref h0), (1, .int w), (2, .ref ou)] := hl
  refine lv_aload_n hx hb d_Law_fault_0 rfl (lv_at hl 2 rfl) ?_
  refine lv_iconst (v := 0) hx hb d_Law_fault_1 (by decide) ?_
  refine lv_aload_n hx hb d_Law_fault_2 rfl (lv_at hl 0 rfl) ?_
  refine lv_iload_n hx hb d_Law_fault_3 rfl (lv_at hl 1 rfl) ?_
  refine xt_call (D := D) (cl := xcl) (wr := [(ou, .inl (ko, 1, .inr (.inl fo)))]) (fun T hT X => by
    obtain ⟨cb, r1, r2, r3⟩ := va_recv hK hP (ci := 0) (q0 := 0) rfl rfl
    exact xt_invV X hx hown (hts _ m_738a85eb) (hts _ m_f43b4a5f) (hts _ m_f971e4f9) (xt_sigOf (hts _ m_f9b47110)) nm_H_fault (by rw [hT]; exact r1) r2 r3 (g := F0 m 4 ls [.int w, .ref h0, .int 0, .ref ou]) rfl (argsL := [.int w]) (rest := [.int 0, .ref ou]) rfl rfl (by rw [hb]; exact d_Law_fault_4)) (c_H_fault_t l hfl D h0 fc fp w (a0) (a1) (a2) (a3) (a4) (a5) (a6) (a7) (a8) s.heap.size hw) (hml.trans hl.1.symm) (by rw [hb]; exact d_Law_fault_4) (Nat.le_of_ble_eq_true rfl) rfl rfl (by decide) (by decide) (by decide) (by decide) (xt_w1 hB m_f9b47110) (xt_cdOf hB m_f9b47110) (hts _ m_ba0734f5) hB hK hP hD hS hA [0] [1] [] rfl rfl rfl (by decide) (by decide) (by decide) (fun v2 u1 H locs hp hP hD hK hS => ?_) (fun XX9 ax9 u1 H locs hp hex hP hD hK hS => ?_)
  · exact False.elim hp
  · have hp : XX9 = "java/lang/IndexOutOfBoundsException" := hp
    subst hp
    have hP : va_P D xcl [(ou, .inl (ko, 1, .inr (.inl fo))), (h0, .inr (0, [a0, a1, a2, a3, a4, a5, a6, a7, a8, .int fc, .int fp]))] H := hP
    have hD : va_D A [(ou, .inl (ko, 1, .inr (.inl fo))), (h0, .inr (0, [a0, a1, a2, a3, a4, a5, a6, a7, a8, .int fc, .int fp]))] := hD
    have hK : va_K D xcl [(ko, .long)] s := hK
    refine xt_catch (own := "StackHostLaw") (name := "java/lang/IndexOutOfBoundsException") (Xn := "java/lang/IndexOutOfBoundsException") hown ⟨0, 9, 12, 29⟩ [] htab (by decide) (by decide) (hts _ m_17a0b3c6) (hts _ m_b0d3d118) hex ?_
    refine W.eq (g2 := F0 m 12 ls [.ref ax9]) rfl ?_
    refine W.widen (k := 1) (n := 6) (by omega) (by omega) ?_
    refine lv_astore_n hx hb d_Law_fault_12 rfl hl (by decide) rfl (fun ls hl => ?_)
    have hl : lv_has ls 4 [(3, .ref ax9), (0, .ref h0), (1, .int w), (2, .ref ou)] := hl
    refine lv_iconst (v := 1) hx hb d_Law_fault_13 (by decide) ?_
    refine W.widen (k := 1) (n := 6) (by decide) (by decide) ?_
    refine xt_mono xt_ofMQ ?_
    exact W.iret hx hb hr (fun t ht hW => ⟨(fun _ => 0), Or.inl ⟨_, rfl, rfl⟩, by rw [ht]; exact hP.sub [0, 1] rfl, va_K.moved hW.alike (hK.sub [0] rfl), hD.sub [0, 1] (by decide) rfl, hS.F ht⟩) hS.2.2 d_Law_fault_14 hlocks

set_option maxHeartbeats 4000000 in
set_option maxRecDepth 100000 in
theorem c_Law_module (l : Launch) (hfl : l.flags = pinnedFlags ++ [noTraceFlag]) (D : va_G) (h0 : Nat) (i w : Int32) (a0 a1 a2 a4 a5 a6 a7 a8 a9 a10 : Value) (ou ko : Nat) (fo : Nat → Int64) (sz : Nat) : xt_Met l y_Law_module [.codeWith y_Law_module b_Law_module 5 (some .int) [(0, 10, 13, 29)]] ({ frames := 10, cells := 1, slots := 6, locals := 320 }) (xt_P D xcl [.ref h0, .int i, .int w, .ref ou] [(h0, .inr (0, [a0, a1, a2, .int 0, a4, a5, a6, a7, a8, a9, a10])), (ou, .inl (ko, 1, .inr (.inl fo)))] [(ko, .long)] sz) (xt_Q (S := Nat → Nat) D xcl (va_A [(h0, .inr (0, [a0, a1, a2, .int 0, a4, a5, a6, a7, a8, a9, a10])), (ou, .inl (ko, 1, .inr (.inl fo)))] sz) (fun v u => v = some (.int 1)) (fun _ _ => False) (fun u => [(ou, .inl (ko, 1, .inr (.inl fo))), (h0, .inr (0, [a0, a1, a2, .int 0, a4, a5, a6, a7, a8, a9, a10]))]) (fun u => [(ko, .long)])) 1 6 (va_A [(h0, .inr (0, [a0, a1, a2, .int 0, a4, a5, a6, a7, a8, a9, a10])), (ou, .inl (ko, 1, .inr (.inl fo)))] sz) := by
  refine xt_ofWH (cc := b_Law_module) (maxL := 5) (ret := (some .int)) (by decide) (List.mem_singleton.mpr rfl) ?_
  intro p e s m args below meth c s₁ B hml htab hv
  obtain ⟨rfl, hsz, hB, hP, hK, hD0⟩ := hv
  subst hsz
  have hx := B.exec
  have hb := B.bytes
  have hr := B.returns
  have hts := hB.1.at ([.ref h0, .int i, .int w, .ref ou] : List Value).toArray
  have hown : s.vm.findClass "StackHostLaw" = some m.cls := findClass_of_methodNamed B.named
  have hlocks := B.notSynchronized
  have hD := hD0.self (sz := s.heap.size)
  generalize hAe : va_A [(h0, .inr (0, [a0, a1, a2, .int 0, a4, a5, a6, a7, a8, a9, a10])), (ou, .inl (ko, 1, .inr (.inl fo)))] s.heap.size = A at hB hD ⊢
  have hA : ∀ q : Nat, s.heap.size ≤ q → A q := fun q h => by rw [← hAe]; exact Or.inr h
  have hS : va_S A s.heap s.heap [] := va_S.rf
  have hl := lv_entry ([.ref h0, .int i, .int w, .ref ou]) (n := 5) (Nat.le_of_ble_eq_true rfl)
  rw [lg_entry_eq]
  generalize (lg_sl ([.ref h0, .int i, .int w, .ref ou]) ++ List.replicate (5 - (lg_sl ([.ref h0, .int i, .int w, .ref ou])).length) Slot.unset).toArray = ls at hl ⊢
  have hl : lv_has ls 5 [(0, .ref h0), (1, .int i), (2, .int w), (3, .ref ou)] := hl
  refine lv_aload_n hx hb d_Law_module_0 rfl (lv_at hl 3 rfl) ?_
  refine lv_iconst (v := 0) hx hb d_Law_module_1 (by decide) ?_
  refine lv_aload_n hx hb d_Law_module_2 rfl (lv_at hl 0 rfl) ?_
  refine lv_iload_n hx hb d_Law_module_3 rfl (lv_at hl 1 rfl) ?_
  refine lv_iload_n hx hb d_Law_module_4 rfl (lv_at hl 2 rfl) ?_
  refine xt_call (D := D) (cl := xcl) (wr := [(ou, .inl (ko, 1, .inr (.inl fo)))]) (fun T hT X => by
    obtain ⟨cb, r1, r2, r3⟩ := va_recv hK hP (ci := 0) (q0 := 0) rfl rfl
    exact xt_invV X hx hown (hts _ m_266e88b0) (hts _ m_53d7cc28) (hts _ m_f3f143cf) (xt_sigOf (hts _ m_bd825a56)) nm_H_module (by rw [hT]; exact r1) r2 r3 (g := F0 m 5 ls [.int w, .int i, .ref h0, .int 0, .ref ou]) rfl (argsL := [.int i, .int w]) (rest := [.int 0, .ref ou]) rfl rfl (by rw [hb]; exact d_Law_module_5)) (c_H_module l hfl D h0 i w (a0) (a1) (a2) (a4) (a5) (a6) (a7) (a8) (a9) (a10) s.heap.size) (hml.trans hl.1.symm) (by rw [hb]; exact d_Law_module_5) (Nat.le_of_ble_eq_true rfl) rfl rfl (by decide) (by decide) (by decide) (by decide) (xt_w1 hB m_bd825a56) (xt_cdOf hB m_bd825a56) (hts _ m_ba0734f5) hB hK hP hD hS hA [0] [1] [] rfl rfl rfl (by decide) (by decide) (by decide) (fun v2 u1 H locs hp hP hD hK hS => ?_) (fun XX9 ax9 u1 H locs hp hex hP hD hK hS => ?_)
  · exact False.elim hp
  · have hp : XX9 = "java/lang/IndexOutOfBoundsException" := hp
    subst hp
    have hP : va_P D xcl [(ou, .inl (ko, 1, .inr (.inl fo))), (h0, .inr (0, [a0, a1, a2, .int 0, a4, a5, a6, a7, a8, a9, a10]))] H := hP
    have hD : va_D A [(ou, .inl (ko, 1, .inr (.inl fo))), (h0, .inr (0, [a0, a1, a2, .int 0, a4, a5, a6, a7, a8, a9, a10]))] := hD
    have hK : va_K D xcl [(ko, .long)] s := hK
    refine xt_catch (own := "StackHostLaw") (name := "java/lang/IndexOutOfBoundsException") (Xn := "java/lang/IndexOutOfBoundsException") hown ⟨0, 10, 13, 29⟩ [] htab (by decide) (by decide) (hts _ m_17a0b3c6) (hts _ m_b0d3d118) hex ?_
    refine W.eq (g2 := F0 m 13 ls [.ref ax9]) rfl ?_
    refine W.widen (k := 1) (n := 6) (by omega) (by omega) ?_
    refine lv_astore hx hb d_Law_module_13 hl (by decide) rfl (fun ls hl => ?_)
    have hl : lv_has ls 5 [(4, .ref ax9), (0, .ref h0), (1, .int i), (2, .int w), (3, .ref ou)] := hl
    refine lv_iconst (v := 1) hx hb d_Law_module_15 (by decide) ?_
    refine W.widen (k := 1) (n := 6) (by decide) (by decide) ?_
    refine xt_mono xt_ofMQ ?_
    exact W.iret hx hb hr (fun t ht hW => ⟨(fun _ => 0), Or.inl ⟨_, rfl, rfl⟩, by rw [ht]; exact hP.sub [0, 1] rfl, va_K.moved hW.alike (hK.sub [0] rfl), hD.sub [0, 1] (by decide) rfl, hS.F ht⟩) hS.2.2 d_Law_module_16 hlocks

set_option maxHeartbeats 4000000 in
set_option maxRecDepth 100000 in
theorem c_Law_room (l : Launch) (hfl : l.flags = pinnedFlags ++ [noTraceFlag]) (D : va_G) (h0 : Nat) (i w : Int32) (a0 a1 a2 a4 a5 a6 a7 a8 a9 a10 : Value) (ou ko : Nat) (fo : Nat → Int64) (sz : Nat) : xt_Met l y_Law_room [.codeWith y_Law_room b_Law_room 5 (some .int) [(0, 10, 13, 29)]] ({ frames := 10, cells := 1, slots := 6, locals := 320 }) (xt_P D xcl [.ref h0, .int i, .int w, .ref ou] [(h0, .inr (0, [a0, a1, a2, .int 0, a4, a5, a6, a7, a8, a9, a10])), (ou, .inl (ko, 1, .inr (.inl fo)))] [(ko, .long)] sz) (xt_Q (S := Nat → Nat) D xcl (va_A [(h0, .inr (0, [a0, a1, a2, .int 0, a4, a5, a6, a7, a8, a9, a10])), (ou, .inl (ko, 1, .inr (.inl fo)))] sz) (fun v u => v = some (.int 1)) (fun _ _ => False) (fun u => [(ou, .inl (ko, 1, .inr (.inl fo))), (h0, .inr (0, [a0, a1, a2, .int 0, a4, a5, a6, a7, a8, a9, a10]))]) (fun u => [(ko, .long)])) 1 6 (va_A [(h0, .inr (0, [a0, a1, a2, .int 0, a4, a5, a6, a7, a8, a9, a10])), (ou, .inl (ko, 1, .inr (.inl fo)))] sz) := by
  refine xt_ofWH (cc := b_Law_room) (maxL := 5) (ret := (some .int)) (by decide) (List.mem_singleton.mpr rfl) ?_
  intro p e s m args below meth c s₁ B hml htab hv
  obtain ⟨rfl, hsz, hB, hP, hK, hD0⟩ := hv
  subst hsz
  have hx := B.exec
  have hb := B.bytes
  have hr := B.returns
  have hts := hB.1.at ([.ref h0, .int i, .int w, .ref ou] : List Value).toArray
  have hown : s.vm.findClass "StackHostLaw" = some m.cls := findClass_of_methodNamed B.named
  have hlocks := B.notSynchronized
  have hD := hD0.self (sz := s.heap.size)
  generalize hAe : va_A [(h0, .inr (0, [a0, a1, a2, .int 0, a4, a5, a6, a7, a8, a9, a10])), (ou, .inl (ko, 1, .inr (.inl fo)))] s.heap.size = A at hB hD ⊢
  have hA : ∀ q : Nat, s.heap.size ≤ q → A q := fun q h => by rw [← hAe]; exact Or.inr h
  have hS : va_S A s.heap s.heap [] := va_S.rf
  have hl := lv_entry ([.ref h0, .int i, .int w, .ref ou]) (n := 5) (Nat.le_of_ble_eq_true rfl)
  rw [lg_entry_eq]
  generalize (lg_sl ([.ref h0, .int i, .int w, .ref ou]) ++ List.replicate (5 - (lg_sl ([.ref h0, .int i, .int w, .ref ou])).length) Slot.unset).toArray = ls at hl ⊢
  have hl : lv_has ls 5 [(0, .ref h0), (1, .int i), (2, .int w), (3, .ref ou)] := hl
  refine lv_aload_n hx hb d_Law_room_0 rfl (lv_at hl 3 rfl) ?_
  refine lv_iconst (v := 0) hx hb d_Law_room_1 (by decide) ?_
  refine lv_aload_n hx hb d_Law_room_2 rfl (lv_at hl 0 rfl) ?_
  refine lv_iload_n hx hb d_Law_room_3 rfl (lv_at hl 1 rfl) ?_
  refine lv_iload_n hx hb d_Law_room_4 rfl (lv_at hl 2 rfl) ?_
  refine xt_call (D := D) (cl := xcl) (wr := [(ou, .inl (ko, 1, .inr (.inl fo)))]) (fun T hT X => by
    obtain ⟨cb, r1, r2, r3⟩ := va_recv hK hP (ci := 0) (q0 := 0) rfl rfl
    exact xt_invV X hx hown (hts _ m_07cc9faa) (hts _ m_3df9cf65) (hts _ m_43295ca2) (xt_sigOf (hts _ m_39335ecb)) nm_H_room (by rw [hT]; exact r1) r2 r3 (g := F0 m 5 ls [.int w, .int i, .ref h0, .int 0, .ref ou]) rfl (argsL := [.int i, .int w]) (rest := [.int 0, .ref ou]) rfl rfl (by rw [hb]; exact d_Law_room_5)) (c_H_room l hfl D h0 i w (a0) (a1) (a2) (a4) (a5) (a6) (a7) (a8) (a9) (a10) s.heap.size) (hml.trans hl.1.symm) (by rw [hb]; exact d_Law_room_5) (Nat.le_of_ble_eq_true rfl) rfl rfl (by decide) (by decide) (by decide) (by decide) (xt_w1 hB m_39335ecb) (xt_cdOf hB m_39335ecb) (hts _ m_ba0734f5) hB hK hP hD hS hA [0] [1] [] rfl rfl rfl (by decide) (by decide) (by decide) (fun v2 u1 H locs hp hP hD hK hS => ?_) (fun XX9 ax9 u1 H locs hp hex hP hD hK hS => ?_)
  · exact False.elim hp
  · have hp : XX9 = "java/lang/IndexOutOfBoundsException" := hp
    subst hp
    have hP : va_P D xcl [(ou, .inl (ko, 1, .inr (.inl fo))), (h0, .inr (0, [a0, a1, a2, .int 0, a4, a5, a6, a7, a8, a9, a10]))] H := hP
    have hD : va_D A [(ou, .inl (ko, 1, .inr (.inl fo))), (h0, .inr (0, [a0, a1, a2, .int 0, a4, a5, a6, a7, a8, a9, a10]))] := hD
    have hK : va_K D xcl [(ko, .long)] s := hK
    refine xt_catch (own := "StackHostLaw") (name := "java/lang/IndexOutOfBoundsException") (Xn := "java/lang/IndexOutOfBoundsException") hown ⟨0, 10, 13, 29⟩ [] htab (by decide) (by decide) (hts _ m_17a0b3c6) (hts _ m_b0d3d118) hex ?_
    refine W.eq (g2 := F0 m 13 ls [.ref ax9]) rfl ?_
    refine W.widen (k := 1) (n := 6) (by omega) (by omega) ?_
    refine lv_astore hx hb d_Law_room_13 hl (by decide) rfl (fun ls hl => ?_)
    have hl : lv_has ls 5 [(4, .ref ax9), (0, .ref h0), (1, .int i), (2, .int w), (3, .ref ou)] := hl
    refine lv_iconst (v := 1) hx hb d_Law_room_15 (by decide) ?_
    refine W.widen (k := 1) (n := 6) (by decide) (by decide) ?_
    refine xt_mono xt_ofMQ ?_
    exact W.iret hx hb hr (fun t ht hW => ⟨(fun _ => 0), Or.inl ⟨_, rfl, rfl⟩, by rw [ht]; exact hP.sub [0, 1] rfl, va_K.moved hW.alike (hK.sub [0] rfl), hD.sub [0, 1] (by decide) rfl, hS.F ht⟩) hS.2.2 d_Law_room_16 hlocks

set_option maxHeartbeats 4000000 in
set_option maxRecDepth 100000 in
theorem c_Law_instantiate (l : Launch) (hfl : l.flags = pinnedFlags ++ [noTraceFlag]) (D : va_G) (h0 : Nat) (i : Int32) (a0 a1 a2 a4 a5 a6 a7 a8 a9 a10 : Value) (ou ko : Nat) (fo : Nat → Int64) (sz : Nat) : xt_Met l y_Law_instantiate [.codeWith y_Law_instantiate b_Law_instantiate 4 (some .int) [(0, 9, 12, 29), (0, 9, 15, 13)]] ({ frames := 10, cells := 1, slots := 6, locals := 320 }) (xt_P D xcl [.ref h0, .int i, .ref ou] [(h0, .inr (0, [a0, a1, a2, .int 0, a4, a5, a6, a7, a8, a9, a10])), (ou, .inl (ko, 1, .inr (.inl fo)))] [(ko, .long)] sz) (xt_Q (S := Nat → Nat) D xcl (va_A [(h0, .inr (0, [a0, a1, a2, .int 0, a4, a5, a6, a7, a8, a9, a10])), (ou, .inl (ko, 1, .inr (.inl fo)))] sz) (fun v u => v = some (.int 1)) (fun _ _ => False) (fun u => [(ou, .inl (ko, 1, .inr (.inl fo))), (h0, .inr (0, [a0, a1, a2, .int 0, a4, a5, a6, a7, a8, a9, a10]))]) (fun u => [(ko, .long)])) 1 6 (va_A [(h0, .inr (0, [a0, a1, a2, .int 0, a4, a5, a6, a7, a8, a9, a10])), (ou, .inl (ko, 1, .inr (.inl fo)))] sz) := by
  refine xt_ofWH (cc := b_Law_instantiate) (maxL := 4) (ret := (some .int)) (by decide) (List.mem_singleton.mpr rfl) ?_
  intro p e s m args below meth c s₁ B hml htab hv
  obtain ⟨rfl, hsz, hB, hP, hK, hD0⟩ := hv
  subst hsz
  have hx := B.exec
  have hb := B.bytes
  have hr := B.returns
  have hts := hB.1.at ([.ref h0, .int i, .ref ou] : List Value).toArray
  have hown : s.vm.findClass "StackHostLaw" = some m.cls := findClass_of_methodNamed B.named
  have hlocks := B.notSynchronized
  have hD := hD0.self (sz := s.heap.size)
  generalize hAe : va_A [(h0, .inr (0, [a0, a1, a2, .int 0, a4, a5, a6, a7, a8, a9, a10])), (ou, .inl (ko, 1, .inr (.inl fo)))] s.heap.size = A at hB hD ⊢
  have hA : ∀ q : Nat, s.heap.size ≤ q → A q := fun q h => by rw [← hAe]; exact Or.inr h
  have hS : va_S A s.heap s.heap [] := va_S.rf
  have hl := lv_entry ([.ref h0, .int i, .ref ou]) (n := 4) (Nat.le_of_ble_eq_true rfl)
  rw [lg_entry_eq]
  generalize (lg_sl ([.ref h0, .int i, .ref ou]) ++ List.replicate (4 - (lg_sl ([.ref h0, .int i, .ref ou])).length) Slot.unset).toArray = ls at hl ⊢
  have hl : lv_has ls 4 [(0, .ref h0), (1, .int i), (2, .ref ou)] := hl
  refine lv_aload_n hx hb d_Law_instantiate_0 rfl (lv_at hl 2 rfl) ?_
  refine lv_iconst (v := 0) hx hb d_Law_instantiate_1 (by decide) ?_
  refine lv_aload_n hx hb d_Law_instantiate_2 rfl (lv_at hl 0 rfl) ?_
  refine lv_iload_n hx hb d_Law_instantiate_3 rfl (lv_at hl 1 rfl) ?_
  refine xt_call (D := D) (cl := xcl) (wr := [(ou, .inl (ko, 1, .inr (.inl fo)))]) (fun T hT X => by
    obtain ⟨cb, r1, r2, r3⟩ := va_recv hK hP (ci := 0) (q0 := 0) rfl rfl
    exact xt_invV X hx hown (hts _ m_bc98340a) (hts _ m_bb139735) (hts _ m_92663d79) (xt_sigOf (hts _ m_5048f999)) nm_H_instantiate (by rw [hT]; exact r1) r2 r3 (g := F0 m 4 ls [.int i, .ref h0, .int 0, .ref ou]) rfl (argsL := [.int i]) (rest := [.int 0, .ref ou]) rfl rfl (by rw [hb]; exact d_Law_instantiate_4)) (c_H_instantiate l hfl D h0 i (a0) (a1) (a2) (a4) (a5) (a6) (a7) (a8) (a9) (a10) s.heap.size) (hml.trans hl.1.symm) (by rw [hb]; exact d_Law_instantiate_4) (Nat.le_of_ble_eq_true rfl) rfl rfl (by decide) (by decide) (by decide) (by decide) (xt_w1 hB m_5048f999) (xt_cdOf hB m_5048f999) (hts _ m_ba0734f5) hB hK hP hD hS hA [0] [1] [] rfl rfl rfl (by decide) (by decide) (by decide) (fun v2 u1 H locs hp hP hD hK hS => ?_) (fun XX9 ax9 u1 H locs hp hex hP hD hK hS => ?_)
  · exact False.elim hp
  · have hp : XX9 = "java/lang/IndexOutOfBoundsException" := hp
    subst hp
    have hP : va_P D xcl [(ou, .inl (ko, 1, .inr (.inl fo))), (h0, .inr (0, [a0, a1, a2, .int 0, a4, a5, a6, a7, a8, a9, a10]))] H := hP
    have hD : va_D A [(ou, .inl (ko, 1, .inr (.inl fo))), (h0, .inr (0, [a0, a1, a2, .int 0, a4, a5, a6, a7, a8, a9, a10]))] := hD
    have hK : va_K D xcl [(ko, .long)] s := hK
    refine xt_catch (own := "StackHostLaw") (name := "java/lang/IndexOutOfBoundsException") (Xn := "java/lang/IndexOutOfBoundsException") hown ⟨0, 9, 12, 29⟩ [⟨0, 9, 15, 13⟩] htab (by decide) (by decide) (hts _ m_17a0b3c6) (hts _ m_b0d3d118) hex ?_
    refine W.eq (g2 := F0 m 12 ls [.ref ax9]) rfl ?_
    refine W.widen (k := 1) (n := 6) (by omega) (by omega) ?_
    refine lv_astore_n hx hb d_Law_instantiate_12 rfl hl (by decide) rfl (fun ls hl => ?_)
    have hl : lv_has ls 4 [(3, .ref ax9), (0, .ref h0), (1, .int i), (2, .ref ou)] := hl
    refine lv_iconst (v := 1) hx hb d_Law_instantiate_13 (by decide) ?_
    refine W.widen (k := 1) (n := 6) (by decide) (by decide) ?_
    refine xt_mono xt_ofMQ ?_
    exact W.iret hx hb hr (fun t ht hW => ⟨(fun _ => 0), Or.inl ⟨_, rfl, rfl⟩, by rw [ht]; exact hP.sub [0, 1] rfl, va_K.moved hW.alike (hK.sub [0] rfl), hD.sub [0, 1] (by decide) rfl, hS.F ht⟩) hS.2.2 d_Law_instantiate_14 hlocks

set_option maxHeartbeats 4000000 in
set_option maxRecDepth 100000 in
theorem c_Law_name (l : Launch) (hfl : l.flags = pinnedFlags ++ [noTraceFlag]) (D : va_G) (h0 ww : Nat) (i : Int32) (a0 a1 a2 a3 a4 a5 a7 a8 a9 a10 : Value) (b0 b2 b3 b4 b5 b6 b7 b8 b9 b10 b11 b12 b13 b14 b15 : Value) (sz : Nat) : xt_Met l y_Law_name [.codeWith y_Law_name b_Law_name 3 (some .int) [(0, 5, 8, 29)]] ({ frames := 10, cells := 1, slots := 6, locals := 320 }) (xt_P D xcl [.ref h0, .int i] [(h0, .inr (0, [a0, a1, a2, a3, a4, a5, .ref ww, a7, a8, a9, a10])), (ww, .inr (6, [b0, .int 0, b2, b3, b4, b5, b6, b7, b8, b9, b10, b11, b12, b13, b14, b15]))] [] sz) (xt_Q (S := Nat → Nat) D xcl (va_A [(h0, .inr (0, [a0, a1, a2, a3, a4, a5, .ref ww, a7, a8, a9, a10])), (ww, .inr (6, [b0, .int 0, b2, b3, b4, b5, b6, b7, b8, b9, b10, b11, b12, b13, b14, b15]))] sz) (fun v u => v = some (.int 1)) (fun _ _ => False) (fun u => [(h0, .inr (0, [a0, a1, a2, a3, a4, a5, .ref ww, a7, a8, a9, a10])), (ww, .inr (6, [b0, .int 0, b2, b3, b4, b5, b6, b7, b8, b9, b10, b11, b12, b13, b14, b15]))]) (fun u => [])) 1 6 (va_A [(h0, .inr (0, [a0, a1, a2, a3, a4, a5, .ref ww, a7, a8, a9, a10])), (ww, .inr (6, [b0, .int 0, b2, b3, b4, b5, b6, b7, b8, b9, b10, b11, b12, b13, b14, b15]))] sz) := by
  refine xt_ofWH (cc := b_Law_name) (maxL := 3) (ret := (some .int)) (by decide) (List.mem_singleton.mpr rfl) ?_
  intro p e s m args below meth c s₁ B hml htab hv
  obtain ⟨rfl, hsz, hB, hP, hK, hD0⟩ := hv
  subst hsz
  have hx := B.exec
  have hb := B.bytes
  have hr := B.returns
  have hts := hB.1.at ([.ref h0, .int i] : List Value).toArray
  have hown : s.vm.findClass "StackHostLaw" = some m.cls := findClass_of_methodNamed B.named
  have hlocks := B.notSynchronized
  have hD := hD0.self (sz := s.heap.size)
  generalize hAe : va_A [(h0, .inr (0, [a0, a1, a2, a3, a4, a5, .ref ww, a7, a8, a9, a10])), (ww, .inr (6, [b0, .int 0, b2, b3, b4, b5, b6, b7, b8, b9, b10, b11, b12, b13, b14, b15]))] s.heap.size = A at hB hD ⊢
  have hA : ∀ q : Nat, s.heap.size ≤ q → A q := fun q h => by rw [← hAe]; exact Or.inr h
  have hS : va_S A s.heap s.heap [] := va_S.rf
  have hl := lv_entry ([.ref h0, .int i]) (n := 3) (Nat.le_of_ble_eq_true rfl)
  rw [lg_entry_eq]
  generalize (lg_sl ([.ref h0, .int i]) ++ List.replicate (3 - (lg_sl ([.ref h0, .int i])).length) Slot.unset).toArray = ls at hl ⊢
  have hl : lv_has ls 3 [(0, .ref h0), (1, .int i)] := hl
  refine lv_aload_n hx hb d_Law_name_0 rfl (lv_at hl 0 rfl) ?_
  refine lv_iload_n hx hb d_Law_name_1 rfl (lv_at hl 1 rfl) ?_
  refine xt_call (D := D) (cl := xcl) (wr := []) (fun T hT X => by
    obtain ⟨cb, r1, r2, r3⟩ := va_recv hK hP (ci := 0) (q0 := 0) rfl rfl
    exact xt_invV X hx hown (hts _ m_1e58883b) (hts _ m_16c13a2b) (hts _ m_a417b121) (xt_sigOf (hts _ m_c702f377)) nm_H_name (by rw [hT]; exact r1) r2 r3 (g := F0 m 2 ls [.int i, .ref h0]) rfl (argsL := [.int i]) (rest := []) rfl rfl (by rw [hb]; exact d_Law_name_2)) (c_H_name l hfl D h0 ww i (a0) (a1) (a2) (a3) (a4) (a5) (a7) (a8) (a9) (a10) (b0) (b2) (b3) (b4) (b5) (b6) (b7) (b8) (b9) (b10) (b11) (b12) (b13) (b14) (b15) s.heap.size) (hml.trans hl.1.symm) (by rw [hb]; exact d_Law_name_2) (Nat.le_of_ble_eq_true rfl) rfl rfl (by decide) (by decide) (by decide) (by decide) (xt_w1 hB m_c702f377) (xt_cdOf hB m_c702f377) (hts _ m_ba0734f5) hB hK hP hD hS hA [0, 1] [] [] rfl rfl rfl (by decide) (by decide) (by decide) (fun v2 u1 H locs hp hP hD hK hS => ?_) (fun XX9 ax9 u1 H locs hp hex hP hD hK hS => ?_)
  · exact False.elim hp
  · have hp : XX9 = "java/lang/IndexOutOfBoundsException" := hp
    subst hp
    have hP : va_P D xcl [(h0, .inr (0, [a0, a1, a2, a3, a4, a5, .ref ww, a7, a8, a9, a10])), (ww, .inr (6, [b0, .int 0, b2, b3, b4, b5, b6, b7, b8, b9, b10, b11, b12, b13, b14, b15]))] H := hP
    have hD : va_D A [(h0, .inr (0, [a0, a1, a2, a3, a4, a5, .ref ww, a7, a8, a9, a10])), (ww, .inr (6, [b0, .int 0, b2, b3, b4, b5, b6, b7, b8, b9, b10, b11, b12, b13, b14, b15]))] := hD
    have hK : va_K D xcl [] s := hK
    refine xt_catch (own := "StackHostLaw") (name := "java/lang/IndexOutOfBoundsException") (Xn := "java/lang/IndexOutOfBoundsException") hown ⟨0, 5, 8, 29⟩ [] htab (by decide) (by decide) (hts _ m_17a0b3c6) (hts _ m_b0d3d118) hex ?_
    refine W.eq (g2 := F0 m 8 ls [.ref ax9]) rfl ?_
    refine W.widen (k := 1) (n := 6) (by omega) (by omega) ?_
    refine lv_astore_n hx hb d_Law_name_8 rfl hl (by decide) rfl (fun ls hl => ?_)
    have hl : lv_has ls 3 [(2, .ref ax9), (0, .ref h0), (1, .int i)] := hl
    refine lv_iconst (v := 1) hx hb d_Law_name_9 (by decide) ?_
    refine W.widen (k := 1) (n := 6) (by decide) (by decide) ?_
    refine xt_mono xt_ofMQ ?_
    exact W.iret hx hb hr (fun t ht hW => ⟨(fun _ => 0), Or.inl ⟨_, rfl, rfl⟩, by rw [ht]; exact hP.sub [0, 1] rfl, va_K.moved hW.alike (hK.sub [] rfl), hD.sub [0, 1] (by decide) rfl, hS.F ht⟩) hS.2.2 d_Law_name_10 hlocks

set_option maxHeartbeats 4000000 in
set_option maxRecDepth 100000 in
theorem c_Law_find (l : Launch) (hfl : l.flags = pinnedFlags ++ [noTraceFlag]) (D : va_G) (h0 ww : Nat) (i : Int32) (a0 a1 a2 a3 a4 a5 a7 a8 a9 a10 : Value) (b0 b2 b3 b4 b5 b6 b7 b8 b9 b10 b11 b12 b13 b14 b15 : Value) (ou ko : Nat) (fo : Nat → Int64) (sz : Nat) : xt_Met l y_Law_find [.codeWith y_Law_find b_Law_find 4 (some .int) [(0, 9, 12, 29)]] ({ frames := 10, cells := 1, slots := 6, locals := 320 }) (xt_P D xcl [.ref h0, .int i, .ref ou] [(h0, .inr (0, [a0, a1, a2, a3, a4, a5, .ref ww, a7, a8, a9, a10])), (ww, .inr (6, [b0, .int 0, b2, b3, b4, b5, b6, b7, b8, b9, b10, b11, b12, b13, b14, b15])), (ou, .inl (ko, 1, .inr (.inl fo)))] [(ko, .long)] sz) (xt_Q (S := Nat → Nat) D xcl (va_A [(h0, .inr (0, [a0, a1, a2, a3, a4, a5, .ref ww, a7, a8, a9, a10])), (ww, .inr (6, [b0, .int 0, b2, b3, b4, b5, b6, b7, b8, b9, b10, b11, b12, b13, b14, b15])), (ou, .inl (ko, 1, .inr (.inl fo)))] sz) (fun v u => v = some (.int 1)) (fun _ _ => False) (fun u => [(ou, .inl (ko, 1, .inr (.inl fo))), (h0, .inr (0, [a0, a1, a2, a3, a4, a5, .ref ww, a7, a8, a9, a10])), (ww, .inr (6, [b0, .int 0, b2, b3, b4, b5, b6, b7, b8, b9, b10, b11, b12, b13, b14, b15]))]) (fun u => [(ko, .long)])) 1 6 (va_A [(h0, .inr (0, [a0, a1, a2, a3, a4, a5, .ref ww, a7, a8, a9, a10])), (ww, .inr (6, [b0, .int 0, b2, b3, b4, b5, b6, b7, b8, b9, b10, b11, b12, b13, b14, b15])), (ou, .inl (ko, 1, .inr (.inl fo)))] sz) := by
  refine xt_ofWH (cc := b_Law_find) (maxL := 4) (ret := (some .int)) (by decide) (List.mem_singleton.mpr rfl) ?_
  intro p e s m args below meth c s₁ B hml htab hv
  obtain ⟨rfl, hsz, hB, hP, hK, hD0⟩ := hv
  subst hsz
  have hx := B.exec
  have hb := B.bytes
  have hr := B.returns
  have hts := hB.1.at ([.ref h0, .int i, .ref ou] : List Value).toArray
  have hown : s.vm.findClass "StackHostLaw" = some m.cls := findClass_of_methodNamed B.named
  have hlocks := B.notSynchronized
  have hD := hD0.self (sz := s.heap.size)
  generalize hAe : va_A [(h0, .inr (0, [a0, a1, a2, a3, a4, a5, .ref ww, a7, a8, a9, a10])), (ww, .inr (6, [b0, .int 0, b2, b3, b4, b5, b6, b7, b8, b9, b10, b11, b12, b13, b14, b15])), (ou, .inl (ko, 1, .inr (.inl fo)))] s.heap.size = A at hB hD ⊢
  have hA : ∀ q : Nat, s.heap.size ≤ q → A q := fun q h => by rw [← hAe]; exact Or.inr h
  have hS : va_S A s.heap s.heap [] := va_S.rf
  have hl := lv_entry ([.ref h0, .int i, .ref ou]) (n := 4) (Nat.le_of_ble_eq_true rfl)
  rw [lg_entry_eq]
  generalize (lg_sl ([.ref h0, .int i, .ref ou]) ++ List.replicate (4 - (lg_sl ([.ref h0, .int i, .ref ou])).length) Slot.unset).toArray = ls at hl ⊢
  have hl : lv_has ls 4 [(0, .ref h0), (1, .int i), (2, .ref ou)] := hl
  refine lv_aload_n hx hb d_Law_find_0 rfl (lv_at hl 2 rfl) ?_
  refine lv_iconst (v := 0) hx hb d_Law_find_1 (by decide) ?_
  refine lv_aload_n hx hb d_Law_find_2 rfl (lv_at hl 0 rfl) ?_
  refine lv_iload_n hx hb d_Law_find_3 rfl (lv_at hl 1 rfl) ?_
  refine xt_call (D := D) (cl := xcl) (wr := [(ou, .inl (ko, 1, .inr (.inl fo)))]) (fun T hT X => by
    obtain ⟨cb, r1, r2, r3⟩ := va_recv hK hP (ci := 0) (q0 := 0) rfl rfl
    exact xt_invV X hx hown (hts _ m_ab3a3b5f) (hts _ m_58b262be) (hts _ m_aa607e03) (xt_sigOf (hts _ m_58733faf)) nm_H_find (by rw [hT]; exact r1) r2 r3 (g := F0 m 4 ls [.int i, .ref h0, .int 0, .ref ou]) rfl (argsL := [.int i]) (rest := [.int 0, .ref ou]) rfl rfl (by rw [hb]; exact d_Law_find_4)) (c_H_find l hfl D h0 ww i (a0) (a1) (a2) (a3) (a4) (a5) (a7) (a8) (a9) (a10) (b0) (b2) (b3) (b4) (b5) (b6) (b7) (b8) (b9) (b10) (b11) (b12) (b13) (b14) (b15) s.heap.size) (hml.trans hl.1.symm) (by rw [hb]; exact d_Law_find_4) (Nat.le_of_ble_eq_true rfl) rfl rfl (by decide) (by decide) (by decide) (by decide) (xt_w1 hB m_58733faf) (xt_cdOf hB m_58733faf) (hts _ m_ba0734f5) hB hK hP hD hS hA [0, 1] [2] [] rfl rfl rfl (by decide) (by decide) (by decide) (fun v2 u1 H locs hp hP hD hK hS => ?_) (fun XX9 ax9 u1 H locs hp hex hP hD hK hS => ?_)
  · exact False.elim hp
  · have hp : XX9 = "java/lang/IndexOutOfBoundsException" := hp
    subst hp
    have hP : va_P D xcl [(ou, .inl (ko, 1, .inr (.inl fo))), (h0, .inr (0, [a0, a1, a2, a3, a4, a5, .ref ww, a7, a8, a9, a10])), (ww, .inr (6, [b0, .int 0, b2, b3, b4, b5, b6, b7, b8, b9, b10, b11, b12, b13, b14, b15]))] H := hP
    have hD : va_D A [(ou, .inl (ko, 1, .inr (.inl fo))), (h0, .inr (0, [a0, a1, a2, a3, a4, a5, .ref ww, a7, a8, a9, a10])), (ww, .inr (6, [b0, .int 0, b2, b3, b4, b5, b6, b7, b8, b9, b10, b11, b12, b13, b14, b15]))] := hD
    have hK : va_K D xcl [(ko, .long)] s := hK
    refine xt_catch (own := "StackHostLaw") (name := "java/lang/IndexOutOfBoundsException") (Xn := "java/lang/IndexOutOfBoundsException") hown ⟨0, 9, 12, 29⟩ [] htab (by decide) (by decide) (hts _ m_17a0b3c6) (hts _ m_b0d3d118) hex ?_
    refine W.eq (g2 := F0 m 12 ls [.ref ax9]) rfl ?_
    refine W.widen (k := 1) (n := 6) (by omega) (by omega) ?_
    refine lv_astore_n hx hb d_Law_find_12 rfl hl (by decide) rfl (fun ls hl => ?_)
    have hl : lv_has ls 4 [(3, .ref ax9), (0, .ref h0), (1, .int i), (2, .ref ou)] := hl
    refine lv_iconst (v := 1) hx hb d_Law_find_13 (by decide) ?_
    refine W.widen (k := 1) (n := 6) (by decide) (by decide) ?_
    refine xt_mono xt_ofMQ ?_
    exact W.iret hx hb hr (fun t ht hW => ⟨(fun _ => 0), Or.inl ⟨_, rfl, rfl⟩, by rw [ht]; exact hP.sub [0, 1, 2] rfl, va_K.moved hW.alike (hK.sub [0] rfl), hD.sub [0, 1, 2] (by decide) rfl, hS.F ht⟩) hS.2.2 d_Law_find_14 hlocks

set_option maxHeartbeats 4000000 in
set_option maxRecDepth 100000 in
theorem c_Law_exported (l : Launch) (hfl : l.flags = pinnedFlags ++ [noTraceFlag]) (D : va_G) (h0 ww : Nat) (i k w : Int32) (a0 a1 a2 a3 a4 a5 a7 a8 a9 a10 : Value) (b0 b2 b3 b4 b5 b6 b7 b8 b9 b10 b11 b12 b13 b14 b15 : Value) (ou ko : Nat) (fo : Nat → Int64) (sz : Nat) : xt_Met l y_Law_exported [.codeWith y_Law_exported b_Law_exported 6 (some .int) [(0, 12, 15, 29)]] ({ frames := 10, cells := 1, slots := 6, locals := 320 }) (xt_P D xcl [.ref h0, .int i, .int k, .int w, .ref ou] [(h0, .inr (0, [a0, a1, a2, a3, a4, a5, .ref ww, a7, a8, a9, a10])), (ww, .inr (6, [b0, .int 0, b2, b3, b4, b5, b6, b7, b8, b9, b10, b11, b12, b13, b14, b15])), (ou, .inl (ko, 1, .inr (.inl fo)))] [(ko, .long)] sz) (xt_Q (S := Nat → Nat) D xcl (va_A [(h0, .inr (0, [a0, a1, a2, a3, a4, a5, .ref ww, a7, a8, a9, a10])), (ww, .inr (6, [b0, .int 0, b2, b3, b4, b5, b6, b7, b8, b9, b10, b11, b12, b13, b14, b15])), (ou, .inl (ko, 1, .inr (.inl fo)))] sz) (fun v u => v = some (.int 1)) (fun _ _ => False) (fun u => [(ou, .inl (ko, 1, .inr (.inl fo))), (h0, .inr (0, [a0, a1, a2, a3, a4, a5, .ref ww, a7, a8, a9, a10])), (ww, .inr (6, [b0, .int 0, b2, b3, b4, b5, b6, b7, b8, b9, b10, b11, b12, b13, b14, b15]))]) (fun u => [(ko, .long)])) 1 6 (va_A [(h0, .inr (0, [a0, a1, a2, a3, a4, a5, .ref ww, a7, a8, a9, a10])), (ww, .inr (6, [b0, .int 0, b2, b3, b4, b5, b6, b7, b8, b9, b10, b11, b12, b13, b14, b15])), (ou, .inl (ko, 1, .inr (.inl fo)))] sz) := by
  refine xt_ofWH (cc := b_Law_exported) (maxL := 6) (ret := (some .int)) (by decide) (List.mem_singleton.mpr rfl) ?_
  intro p e s m args below meth c s₁ B hml htab hv
  obtain ⟨rfl, hsz, hB, hP, hK, hD0⟩ := hv
  subst hsz
  have hx := B.exec
  have hb := B.bytes
  have hr := B.returns
  have hts := hB.1.at ([.ref h0, .int i, .int k, .int w, .ref ou] : List Value).toArray
  have hown : s.vm.findClass "StackHostLaw" = some m.cls := findClass_of_methodNamed B.named
  have hlocks := B.notSynchronized
  have hD := hD0.self (sz := s.heap.size)
  generalize hAe : va_A [(h0, .inr (0, [a0, a1, a2, a3, a4, a5, .ref ww, a7, a8, a9, a10])), (ww, .inr (6, [b0, .int 0, b2, b3, b4, b5, b6, b7, b8, b9, b10, b11, b12, b13, b14, b15])), (ou, .inl (ko, 1, .inr (.inl fo)))] s.heap.size = A at hB hD ⊢
  have hA : ∀ q : Nat, s.heap.size ≤ q → A q := fun q h => by rw [← hAe]; exact Or.inr h
  have hS : va_S A s.heap s.heap [] := va_S.rf
  have hl := lv_entry ([.ref h0, .int i, .int k, .int w, .ref ou]) (n := 6) (Nat.le_of_ble_eq_true rfl)
  rw [lg_entry_eq]
  generalize (lg_sl ([.ref h0, .int i, .int k, .int w, .ref ou]) ++ List.replicate (6 - (lg_sl ([.ref h0, .int i, .int k, .int w, .ref ou])).length) Slot.unset).toArray = ls at hl ⊢
  have hl : lv_has ls 6 [(0, .ref h0), (1, .int i), (2, .int k), (3, .int w), (4, .ref ou)] := hl
  refine lv_aload hx hb d_Law_exported_0 (lv_at hl 4 rfl) ?_
  refine lv_iconst (v := 0) hx hb d_Law_exported_2 (by decide) ?_
  refine lv_aload_n hx hb d_Law_exported_3 rfl (lv_at hl 0 rfl) ?_
  refine lv_iload_n hx hb d_Law_exported_4 rfl (lv_at hl 1 rfl) ?_
  refine lv_iload_n hx hb d_Law_exported_5 rfl (lv_at hl 2 rfl) ?_
  refine lv_iload_n hx hb d_Law_exported_6 rfl (lv_at hl 3 rfl) ?_
  refine xt_call (D := D) (cl := xcl) (wr := [(ou, .inl (ko, 1, .inr (.inl fo)))]) (fun T hT X => by
    obtain ⟨cb, r1, r2, r3⟩ := va_recv hK hP (ci := 0) (q0 := 0) rfl rfl
    exact xt_invV X hx hown (hts _ m_373df2c7) (hts _ m_529c5ecf) (hts _ m_12c6bf6e) (xt_sigOf (hts _ m_25daae94)) nm_H_exported (by rw [hT]; exact r1) r2 r3 (g := F0 m 7 ls [.int w, .int k, .int i, .ref h0, .int 0, .ref ou]) rfl (argsL := [.int i, .int k, .int w]) (rest := [.int 0, .ref ou]) rfl rfl (by rw [hb]; exact d_Law_exported_7)) (c_H_exported l hfl D h0 ww i k w (a0) (a1) (a2) (a3) (a4) (a5) (a7) (a8) (a9) (a10) (b0) (b2) (b3) (b4) (b5) (b6) (b7) (b8) (b9) (b10) (b11) (b12) (b13) (b14) (b15) s.heap.size) (hml.trans hl.1.symm) (by rw [hb]; exact d_Law_exported_7) (Nat.le_of_ble_eq_true rfl) rfl rfl (by decide) (by decide) (by decide) (by decide) (xt_w1 hB m_25daae94) (xt_cdOf hB m_25daae94) (hts _ m_ba0734f5) hB hK hP hD hS hA [0, 1] [2] [] rfl rfl rfl (by decide) (by decide) (by decide) (fun v2 u1 H locs hp hP hD hK hS => ?_) (fun XX9 ax9 u1 H locs hp hex hP hD hK hS => ?_)
  · exact False.elim hp
  · have hp : XX9 = "java/lang/IndexOutOfBoundsException" := hp
    subst hp
    have hP : va_P D xcl [(ou, .inl (ko, 1, .inr (.inl fo))), (h0, .inr (0, [a0, a1, a2, a3, a4, a5, .ref ww, a7, a8, a9, a10])), (ww, .inr (6, [b0, .int 0, b2, b3, b4, b5, b6, b7, b8, b9, b10, b11, b12, b13, b14, b15]))] H := hP
    have hD : va_D A [(ou, .inl (ko, 1, .inr (.inl fo))), (h0, .inr (0, [a0, a1, a2, a3, a4, a5, .ref ww, a7, a8, a9, a10])), (ww, .inr (6, [b0, .int 0, b2, b3, b4, b5, b6, b7, b8, b9, b10, b11, b12, b13, b14, b15]))] := hD
    have hK : va_K D xcl [(ko, .long)] s := hK
    refine xt_catch (own := "StackHostLaw") (name := "java/lang/IndexOutOfBoundsException") (Xn := "java/lang/IndexOutOfBoundsException") hown ⟨0, 12, 15, 29⟩ [] htab (by decide) (by decide) (hts _ m_17a0b3c6) (hts _ m_b0d3d118) hex ?_
    refine W.eq (g2 := F0 m 15 ls [.ref ax9]) rfl ?_
    refine W.widen (k := 1) (n := 6) (by omega) (by omega) ?_
    refine lv_astore hx hb d_Law_exported_15 hl (by decide) rfl (fun ls hl => ?_)
    have hl : lv_has ls 6 [(5, .ref ax9), (0, .ref h0), (1, .int i), (2, .int k), (3, .int w), (4, .ref ou)] := hl
    refine lv_iconst (v := 1) hx hb d_Law_exported_17 (by decide) ?_
    refine W.widen (k := 1) (n := 6) (by decide) (by decide) ?_
    refine xt_mono xt_ofMQ ?_
    exact W.iret hx hb hr (fun t ht hW => ⟨(fun _ => 0), Or.inl ⟨_, rfl, rfl⟩, by rw [ht]; exact hP.sub [0, 1, 2] rfl, va_K.moved hW.alike (hK.sub [0] rfl), hD.sub [0, 1, 2] (by decide) rfl, hS.F ht⟩) hS.2.2 d_Law_exported_18 hlocks

set_option maxHeartbeats 4000000 in
set_option maxRecDepth 100000 in
theorem c_Law_push (l : Launch) (D : va_G) (h0 ro it ki : Nat) (f : Nat → Int64) (x : Int64) (a0 a1 a2 a3 a4 a5 a6 a7 a9 a10 : Value) (c2 : Value) (ou ko : Nat) (fo : Nat → Int64) (sz : Nat) : xt_Met l y_Law_push [.codeWith y_Law_push b_Law_push 5 (some .int) [(0, 9, 12, 13)]] ({ frames := 11, cells := 0, slots := 0, locals := 420 }) (xt_P D xcl [.ref h0, .long x, .ref ou] [(h0, .inr (0, [a0, a1, a2, a3, a4, a5, a6, a7, .ref ro, a9, a10])), (ro, .inr (1, [.ref it, .int 0, c2])), (it, .inl (ki, 4, .inr (.inl f))), (ou, .inl (ko, 1, .inr (.inl fo)))] [(ki, .long), (ko, .long)] sz) (xt_Q (S := Nat → Nat) D xcl (va_A [(h0, .inr (0, [a0, a1, a2, a3, a4, a5, a6, a7, .ref ro, a9, a10])), (ro, .inr (1, [.ref it, .int 0, c2])), (it, .inl (ki, 4, .inr (.inl f))), (ou, .inl (ko, 1, .inr (.inl fo)))] sz) (fun v u => v = some (.int 0)) (fun _ _ => False) (fun u => [(ou, .inl (ko, 1, .inr (.inl (vp_updL fo (0 : Int32).toNatClampNeg 1)))), (h0, .inr (0, [a0, a1, a2, a3, a4, a5, a6, a7, .ref ro, a9, a10])), (ro, .inr (1, [.ref it, .int 1, c2])), (it, .inl (ki, 4, .inr (.inl (vp_updL f (0 : Int32).toNatClampNeg x))))]) (fun u => [(ko, .long), (ki, .long)])) 0 0 (va_A [(h0, .inr (0, [a0, a1, a2, a3, a4, a5, a6, a7, .ref ro, a9, a10])), (ro, .inr (1, [.ref it, .int 0, c2])), (it, .inl (ki, 4, .inr (.inl f))), (ou, .inl (ko, 1, .inr (.inl fo)))] sz) := by
  refine xt_ofWH (cc := b_Law_push) (maxL := 5) (ret := (some .int)) (by decide) (List.mem_singleton.mpr rfl) ?_
  intro p e s m args below meth c s₁ B hml htab hv
  obtain ⟨rfl, hsz, hB, hP, hK, hD0⟩ := hv
  subst hsz
  have hx := B.exec
  have hb := B.bytes
  have hr := B.returns
  have hts := hB.1.at ([.ref h0, .long x, .ref ou] : List Value).toArray
  have hown : s.vm.findClass "StackHostLaw" = some m.cls := findClass_of_methodNamed B.named
  have hlocks := B.notSynchronized
  have hD := hD0.self (sz := s.heap.size)
  generalize hAe : va_A [(h0, .inr (0, [a0, a1, a2, a3, a4, a5, a6, a7, .ref ro, a9, a10])), (ro, .inr (1, [.ref it, .int 0, c2])), (it, .inl (ki, 4, .inr (.inl f))), (ou, .inl (ko, 1, .inr (.inl fo)))] s.heap.size = A at hB hD ⊢
  have hA : ∀ q : Nat, s.heap.size ≤ q → A q := fun q h => by rw [← hAe]; exact Or.inr h
  have hS : va_S A s.heap s.heap [] := va_S.rf
  have hl := lv_entry ([.ref h0, .long x, .ref ou]) (n := 5) (Nat.le_of_ble_eq_true rfl)
  rw [lg_entry_eq]
  generalize (lg_sl ([.ref h0, .long x, .ref ou]) ++ List.replicate (5 - (lg_sl ([.ref h0, .long x, .ref ou])).length) Slot.unset).toArray = ls at hl ⊢
  have hl : lv_has ls 5 [(0, .ref h0), (1, .long x), (3, .ref ou)] := hl
  refine lv_aload_n hx hb d_Law_push_0 rfl (lv_at hl 2 rfl) ?_
  refine lv_iconst (v := 0) hx hb d_Law_push_1 (by decide) ?_
  refine lv_aload_n hx hb d_Law_push_2 rfl (lv_at hl 0 rfl) ?_
  refine lv_lload_n hx hb d_Law_push_3 rfl (lv_at hl 1 rfl) ?_
  refine xt_call (D := D) (cl := xcl) (wr := [(ou, .inl (ko, 1, .inr (.inl fo)))]) (fun T hT X => by
    obtain ⟨cb, r1, r2, r3⟩ := va_recv hK hP (ci := 0) (q0 := 0) rfl rfl
    exact xt_invV X hx hown (hts _ m_c14a98a4) (hts _ m_02f4810d) (hts _ m_3f463752) (xt_sigOf (hts _ m_38c6d04c)) nm_H_push (by rw [hT]; exact r1) r2 r3 (g := F0 m 4 ls [.long x, .ref h0, .int 0, .ref ou]) rfl (argsL := [.long x]) (rest := [.int 0, .ref ou]) rfl rfl (by rw [hb]; exact d_Law_push_4)) (c_H_push l D h0 ro it ki f x (a0) (a1) (a2) (a3) (a4) (a5) (a6) (a7) (a9) (a10) (c2) s.heap.size) (hml.trans hl.1.symm) (by rw [hb]; exact d_Law_push_4) (Nat.le_of_ble_eq_true rfl) rfl rfl (by decide) (by decide) (by decide) (by decide) (xt_w1 hB m_38c6d04c) (xt_cdOf hB m_38c6d04c) (hts _ m_ba0734f5) hB hK hP hD hS hA [0, 1, 2] [3] [0] rfl rfl rfl (by decide) (by decide) (by decide) (fun v2 u1 H locs hp hP hD hK hS => ?_) (fun XX9 ax9 u1 H locs hp hex hP hD hK hS => ?_)
  · obtain rfl : v2 = some (.int 1) := hp
    have hP : va_P D xcl [(ou, .inl (ko, 1, .inr (.inl fo))), (h0, .inr (0, [a0, a1, a2, a3, a4, a5, a6, a7, .ref ro, a9, a10])), (ro, .inr (1, [.ref it, .int 1, c2])), (it, .inl (ki, 4, .inr (.inl (vp_updL f (0 : Int32).toNatClampNeg x))))] H := hP
    have hD : va_D A [(ou, .inl (ko, 1, .inr (.inl fo))), (h0, .inr (0, [a0, a1, a2, a3, a4, a5, a6, a7, .ref ro, a9, a10])), (ro, .inr (1, [.ref it, .int 1, c2])), (it, .inl (ki, 4, .inr (.inl (vp_updL f (0 : Int32).toNatClampNeg x))))] := hD
    have hK : va_K D xcl [(ki, .long), (ko, .long), (ki, .long)] s := hK
    refine W.eq (g2 := F0 m 7 ls [.int 1, .int 0, .ref ou]) rfl ?_
    refine W.widen (k := 0) (n := 0) (by omega) (by omega) ?_
    refine lv_i2l (v := 1) hx hb d_Law_push_7 (by decide +kernel) ?_
    refine va_last (i := 0) (x := 1) hx hb hK hP hD hS 0 1 rfl rfl (xt_vin (by decide +kernel)) d_Law_push_8 (fun H locs hP hD hS => ?_)
    have hP : va_P D xcl [(ou, .inl (ko, 1, .inr (.inl (vp_updL fo (0 : Int32).toNatClampNeg 1)))), (h0, .inr (0, [a0, a1, a2, a3, a4, a5, a6, a7, .ref ro, a9, a10])), (ro, .inr (1, [.ref it, .int 1, c2])), (it, .inl (ki, 4, .inr (.inl (vp_updL f (0 : Int32).toNatClampNeg x))))] H := hP
    have hD : va_D A [(ou, .inl (ko, 1, .inr (.inl (vp_updL fo (0 : Int32).toNatClampNeg 1)))), (h0, .inr (0, [a0, a1, a2, a3, a4, a5, a6, a7, .ref ro, a9, a10])), (ro, .inr (1, [.ref it, .int 1, c2])), (it, .inl (ki, 4, .inr (.inl (vp_updL f (0 : Int32).toNatClampNeg x))))] := hD
    refine lv_goto (tgt := 16) hx hb d_Law_push_9 rfl ?_
    refine lv_iconst (v := 0) hx hb d_Law_push_16 (by decide) ?_
    refine W.widen (k := 0) (n := 0) (by decide) (by decide) ?_
    refine xt_mono xt_ofMQ ?_
    exact W.iret hx hb hr (fun t ht hW => ⟨(fun _ => 0), Or.inl ⟨_, rfl, rfl⟩, by rw [ht]; exact hP.sub [0, 1, 2, 3] rfl, va_K.moved hW.alike (hK.sub [1, 0] rfl), hD.sub [0, 1, 2, 3] (by decide) rfl, hS.F ht⟩) hS.2.2 d_Law_push_17 hlocks
  · exact False.elim hp

set_option maxHeartbeats 4000000 in
set_option maxRecDepth 100000 in
theorem c_Law_invoke (l : Launch) (hfl : l.flags = pinnedFlags ++ [noTraceFlag]) (D : va_G) (h0 ww : Nat) (i k : Int32) (a0 a1 a2 a3 a4 a5 a7 a8 a9 a10 : Value) (b0 b2 b3 b4 b5 b6 b7 b8 b9 b10 b11 b12 b13 b14 b15 : Value) (sz : Nat) : xt_Met l y_Law_invoke [.codeWith y_Law_invoke b_Law_invoke 4 (some .int) [(0, 6, 9, 29), (0, 6, 12, 19), (0, 6, 15, 13)]] ({ frames := 10, cells := 1, slots := 6, locals := 320 }) (xt_P D xcl [.ref h0, .int i, .int k] [(h0, .inr (0, [a0, a1, a2, a3, a4, a5, .ref ww, a7, a8, a9, a10])), (ww, .inr (6, [b0, .int 0, b2, b3, b4, b5, b6, b7, b8, b9, b10, b11, b12, b13, b14, b15]))] [] sz) (xt_Q (S := Nat → Nat) D xcl (va_A [(h0, .inr (0, [a0, a1, a2, a3, a4, a5, .ref ww, a7, a8, a9, a10])), (ww, .inr (6, [b0, .int 0, b2, b3, b4, b5, b6, b7, b8, b9, b10, b11, b12, b13, b14, b15]))] sz) (fun v u => v = some (.int 1)) (fun _ _ => False) (fun u => [(h0, .inr (0, [a0, a1, a2, a3, a4, a5, .ref ww, a7, a8, a9, a10])), (ww, .inr (6, [b0, .int 0, b2, b3, b4, b5, b6, b7, b8, b9, b10, b11, b12, b13, b14, b15]))]) (fun u => [])) 1 6 (va_A [(h0, .inr (0, [a0, a1, a2, a3, a4, a5, .ref ww, a7, a8, a9, a10])), (ww, .inr (6, [b0, .int 0, b2, b3, b4, b5, b6, b7, b8, b9, b10, b11, b12, b13, b14, b15]))] sz) := by
  refine xt_ofWH (cc := b_Law_invoke) (maxL := 4) (ret := (some .int)) (by decide) (List.mem_singleton.mpr rfl) ?_
  intro p e s m args below meth c s₁ B hml htab hv
  obtain ⟨rfl, hsz, hB, hP, hK, hD0⟩ := hv
  subst hsz
  have hx := B.exec
  have hb := B.bytes
  have hr := B.returns
  have hts := hB.1.at ([.ref h0, .int i, .int k] : List Value).toArray
  have hown : s.vm.findClass "StackHostLaw" = some m.cls := findClass_of_methodNamed B.named
  have hlocks := B.notSynchronized
  have hD := hD0.self (sz := s.heap.size)
  generalize hAe : va_A [(h0, .inr (0, [a0, a1, a2, a3, a4, a5, .ref ww, a7, a8, a9, a10])), (ww, .inr (6, [b0, .int 0, b2, b3, b4, b5, b6, b7, b8, b9, b10, b11, b12, b13, b14, b15]))] s.heap.size = A at hB hD ⊢
  have hA : ∀ q : Nat, s.heap.size ≤ q → A q := fun q h => by rw [← hAe]; exact Or.inr h
  have hS : va_S A s.heap s.heap [] := va_S.rf
  have hl := lv_entry ([.ref h0, .int i, .int k]) (n := 4) (Nat.le_of_ble_eq_true rfl)
  rw [lg_entry_eq]
  generalize (lg_sl ([.ref h0, .int i, .int k]) ++ List.replicate (4 - (lg_sl ([.ref h0, .int i, .int k])).length) Slot.unset).toArray = ls at hl ⊢
  have hl : lv_has ls 4 [(0, .ref h0), (1, .int i), (2, .int k)] := hl
  refine lv_aload_n hx hb d_Law_invoke_0 rfl (lv_at hl 0 rfl) ?_
  refine lv_iload_n hx hb d_Law_invoke_1 rfl (lv_at hl 1 rfl) ?_
  refine lv_iload_n hx hb d_Law_invoke_2 rfl (lv_at hl 2 rfl) ?_
  refine xt_call (D := D) (cl := xcl) (wr := []) (fun T hT X => by
    obtain ⟨cb, r1, r2, r3⟩ := va_recv hK hP (ci := 0) (q0 := 0) rfl rfl
    exact xt_invV X hx hown (hts _ m_95c15ed9) (hts _ m_1d252e68) (hts _ m_bc13a8cb) (xt_sigOf (hts _ m_f05797b2)) nm_H_invoke (by rw [hT]; exact r1) r2 r3 (g := F0 m 3 ls [.int k, .int i, .ref h0]) rfl (argsL := [.int i, .int k]) (rest := []) rfl rfl (by rw [hb]; exact d_Law_invoke_3)) (c_H_invoke l hfl D h0 ww i k (a0) (a1) (a2) (a3) (a4) (a5) (a7) (a8) (a9) (a10) (b0) (b2) (b3) (b4) (b5) (b6) (b7) (b8) (b9) (b10) (b11) (b12) (b13) (b14) (b15) s.heap.size) (hml.trans hl.1.symm) (by rw [hb]; exact d_Law_invoke_3) (Nat.le_of_ble_eq_true rfl) rfl rfl (by decide) (by decide) (by decide) (by decide) (xt_w1 hB m_f05797b2) (xt_cdOf hB m_f05797b2) (hts _ m_ba0734f5) hB hK hP hD hS hA [0, 1] [] [] rfl rfl rfl (by decide) (by decide) (by decide) (fun v2 u1 H locs hp hP hD hK hS => ?_) (fun XX9 ax9 u1 H locs hp hex hP hD hK hS => ?_)
  · exact False.elim hp
  · have hp : XX9 = "java/lang/IndexOutOfBoundsException" := hp
    subst hp
    have hP : va_P D xcl [(h0, .inr (0, [a0, a1, a2, a3, a4, a5, .ref ww, a7, a8, a9, a10])), (ww, .inr (6, [b0, .int 0, b2, b3, b4, b5, b6, b7, b8, b9, b10, b11, b12, b13, b14, b15]))] H := hP
    have hD : va_D A [(h0, .inr (0, [a0, a1, a2, a3, a4, a5, .ref ww, a7, a8, a9, a10])), (ww, .inr (6, [b0, .int 0, b2, b3, b4, b5, b6, b7, b8, b9, b10, b11, b12, b13, b14, b15]))] := hD
    have hK : va_K D xcl [] s := hK
    refine xt_catch (own := "StackHostLaw") (name := "java/lang/IndexOutOfBoundsException") (Xn := "java/lang/IndexOutOfBoundsException") hown ⟨0, 6, 9, 29⟩ [⟨0, 6, 12, 19⟩, ⟨0, 6, 15, 13⟩] htab (by decide) (by decide) (hts _ m_17a0b3c6) (hts _ m_b0d3d118) hex ?_
    refine W.eq (g2 := F0 m 9 ls [.ref ax9]) rfl ?_
    refine W.widen (k := 1) (n := 6) (by omega) (by omega) ?_
    refine lv_astore_n hx hb d_Law_invoke_9 rfl hl (by decide) rfl (fun ls hl => ?_)
    have hl : lv_has ls 4 [(3, .ref ax9), (0, .ref h0), (1, .int i), (2, .int k)] := hl
    refine lv_iconst (v := 1) hx hb d_Law_invoke_10 (by decide) ?_
    refine W.widen (k := 1) (n := 6) (by decide) (by decide) ?_
    refine xt_mono xt_ofMQ ?_
    exact W.iret hx hb hr (fun t ht hW => ⟨(fun _ => 0), Or.inl ⟨_, rfl, rfl⟩, by rw [ht]; exact hP.sub [0, 1] rfl, va_K.moved hW.alike (hK.sub [] rfl), hD.sub [0, 1] (by decide) rfl, hS.F ht⟩) hS.2.2 d_Law_invoke_11 hlocks

