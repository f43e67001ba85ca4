set_option maxHeartbeats 4000000 in
set_option maxRecDepth 100000 in
theorem c_M_feed (l : Launch) (D : va_G) (h0 tp kt : Nat) (f : Nat → Int32) (x0 x1 x2 x3 x4 : Int32) (a0 a3 a4 a5 a6 a7 a8 a9 a10 a11 a12 a13 a14 a15 a16 a17 a18 a19 a20 a21 a22 a23 a24 a25 a26 a27 a28 a29 a30 a31 a32 a33 a34 a35 a36 a37 a38 a39 a40 a41 a42 a43 a44 a45 a46 a47 a48 a49 a50 a51 a52 a53 a54 a55 a56 a57 a58 a59 a60 a61 a62 a63 a64 a65 a66 a67 a68 a69 a70 a71 a72 a73 a74 a75 a76 a77 a78 a79 a80 a81 a82 a83 a84 a85 a86 a87 a88 a89 a90 a91 a92 a93 a94 a95 a96 : Value) (sz : Nat) : xt_Met l y_M_feed [.code y_M_feed b_M_feed 8 (some .int)] ({ frames := 8, cells := 0, slots := 0, locals := 120 }) (xt_P D xcl [.ref h0, .int x0, .int x1, .int x2, .int x3, .int x4] [(h0, .inr (8, [a0, .ref tp, .int 0, a3, a4, a5, a6, a7, a8, a9, a10, a11, a12, a13, a14, a15, a16, a17, a18, a19, a20, a21, a22, a23, a24, a25, a26, a27, a28, a29, a30, a31, a32, a33, a34, a35, a36, a37, a38, a39, a40, a41, a42, a43, a44, a45, a46, a47, a48, a49, a50, a51, a52, a53, a54, a55, a56, a57, a58, a59, a60, a61, a62, a63, a64, a65, a66, a67, a68, a69, a70, a71, a72, a73, a74, a75, a76, a77, a78, a79, a80, a81, a82, a83, a84, a85, a86, a87, a88, a89, a90, a91, a92, a93, a94, a95, a96])), (tp, .inl (kt, 65536, .inl f))] [(kt, .byte)] sz) (xt_Q (S := Nat → Nat) D xcl (va_A [(h0, .inr (8, [a0, .ref tp, .int 0, a3, a4, a5, a6, a7, a8, a9, a10, a11, a12, a13, a14, a15, a16, a17, a18, a19, a20, a21, a22, a23, a24, a25, a26, a27, a28, a29, a30, a31, a32, a33, a34, a35, a36, a37, a38, a39, a40, a41, a42, a43, a44, a45, a46, a47, a48, a49, a50, a51, a52, a53, a54, a55, a56, a57, a58, a59, a60, a61, a62, a63, a64, a65, a66, a67, a68, a69, a70, a71, a72, a73, a74, a75, a76, a77, a78, a79, a80, a81, a82, a83, a84, a85, a86, a87, a88, a89, a90, a91, a92, a93, a94, a95, a96])), (tp, .inl (kt, 65536, .inl f))] sz) (fun v u => v = some (.int 20)) (fun _ _ => False) (fun u => [(h0, .inr (8, [.int 0, .ref tp, .int 20, a3, a4, a5, a6, a7, a8, a9, a10, a11, a12, a13, a14, a15, a16, a17, a18, a19, a20, a21, a22, a23, a24, a25, a26, a27, a28, a29, a30, a31, a32, a33, a34, a35, a36, a37, a38, a39, a40, a41, a42, a43, a44, a45, a46, a47, a48, a49, a50, a51, a52, a53, a54, a55, a56, a57, a58, a59, a60, a61, a62, a63, a64, a65, a66, a67, a68, a69, a70, a71, a72, a73, a74, a75, a76, a77, a78, a79, a80, a81, a82, a83, a84, a85, a86, a87, a88, a89, a90, a91, a92, a93, a94, a95, a96])), (tp, .inl (kt, 65536, .inl (upd (upd (upd (upd (upd (upd (upd (upd (upd (upd (upd (upd (upd (upd (upd (upd (upd (upd (upd (upd f (0 : Int32).toNatClampNeg (vp_nar .byte ((x0 >>> (24 &&& 31)) : Int32).toInt8.toInt32)) (1 : Int32).toNatClampNeg (vp_nar .byte ((x0 >>> (16 &&& 31)) : Int32).toInt8.toInt32)) (2 : Int32).toNatClampNeg (vp_nar .byte ((x0 >>> (8 &&& 31)) : Int32).toInt8.toInt32)) (3 : Int32).toNatClampNeg (vp_nar .byte ((x0 >>> (0 &&& 31)) : Int32).toInt8.toInt32)) (4 : Int32).toNatClampNeg (vp_nar .byte ((x1 >>> (24 &&& 31)) : Int32).toInt8.toInt32)) (5 : Int32).toNatClampNeg (vp_nar .byte ((x1 >>> (16 &&& 31)) : Int32).toInt8.toInt32)) (6 : Int32).toNatClampNeg (vp_nar .byte ((x1 >>> (8 &&& 31)) : Int32).toInt8.toInt32)) (7 : Int32).toNatClampNeg (vp_nar .byte ((x1 >>> (0 &&& 31)) : Int32).toInt8.toInt32)) (8 : Int32).toNatClampNeg (vp_nar .byte ((x2 >>> (24 &&& 31)) : Int32).toInt8.toInt32)) (9 : Int32).toNatClampNeg (vp_nar .byte ((x2 >>> (16 &&& 31)) : Int32).toInt8.toInt32)) (10 : Int32).toNatClampNeg (vp_nar .byte ((x2 >>> (8 &&& 31)) : Int32).toInt8.toInt32)) (11 : Int32).toNatClampNeg (vp_nar .byte ((x2 >>> (0 &&& 31)) : Int32).toInt8.toInt32)) (12 : Int32).toNatClampNeg (vp_nar .byte ((x3 >>> (24 &&& 31)) : Int32).toInt8.toInt32)) (13 : Int32).toNatClampNeg (vp_nar .byte ((x3 >>> (16 &&& 31)) : Int32).toInt8.toInt32)) (14 : Int32).toNatClampNeg (vp_nar .byte ((x3 >>> (8 &&& 31)) : Int32).toInt8.toInt32)) (15 : Int32).toNatClampNeg (vp_nar .byte ((x3 >>> (0 &&& 31)) : Int32).toInt8.toInt32)) (16 : Int32).toNatClampNeg (vp_nar .byte ((x4 >>> (24 &&& 31)) : Int32).toInt8.toInt32)) (17 : Int32).toNatClampNeg (vp_nar .byte ((x4 >>> (16 &&& 31)) : Int32).toInt8.toInt32)) (18 : Int32).toNatClampNeg (vp_nar .byte ((x4 >>> (8 &&& 31)) : Int32).toInt8.toInt32)) (19 : Int32).toNatClampNeg (vp_nar .byte ((x4 >>> (0 &&& 31)) : Int32).toInt8.toInt32))))]) (fun u => [(kt, .byte)])) 0 0 (va_A [(h0, .inr (8, [a0, .ref tp, .int 0, a3, a4, a5, a6, a7, a8, a9, a10, a11, a12, a13, a14, a15, a16, a17, a18, a19, a20, a21, a22, a23, a24, a25, a26, a27, a28, a29, a30, a31, a32, a33, a34, a35, a36, a37, a38, a39, a40, a41, a42, a43, a44, a45, a46, a47, a48, a49, a50, a51, a52, a53, a54, a55, a56, a57, a58, a59, a60, a61, a62, a63, a64, a65, a66, a67, a68, a69, a70, a71, a72, a73, a74, a75, a76, a77, a78, a79, a80, a81, a82, a83, a84, a85, a86, a87, a88, a89, a90, a91, a92, a93, a94, a95, a96])), (tp, .inl (kt, 65536, .inl f))] sz) := by
  refine xt_ofW (cc := b_M_feed) (maxL := 8) (ret := (some .int)) (by decide) (List.mem_singleton.mpr rfl) ?_
  intro p e s m args below meth c s₁ B hml htab hv
  obtain ⟨rfl, hsz, hB, hP, hK, hD0⟩ := hv
  subst hsz
  have hx := B.exec
  have hb := B.bytes
  have hr := B.returns
  have hts := hB.1.at ([.ref h0, .int x0, .int x1, .int x2, .int x3, .int x4] : List Value).toArray
  have hown : s.vm.findClass "StackHostModel" = some m.cls := findClass_of_methodNamed B.named
  have hlocks := B.notSynchronized
  have hD := hD0.self (sz := s.heap.size)
  generalize hAe : va_A [(h0, .inr (8, [a0, .ref tp, .int 0, a3, a4, a5, a6, a7, a8, a9, a10, a11, a12, a13, a14, a15, a16, a17, a18, a19, a20, a21, a22, a23, a24, a25, a26, a27, a28, a29, a30, a31, a32, a33, a34, a35, a36, a37, a38, a39, a40, a41, a42, a43, a44, a45, a46, a47, a48, a49, a50, a51, a52, a53, a54, a55, a56, a57, a58, a59, a60, a61, a62, a63, a64, a65, a66, a67, a68, a69, a70, a71, a72, a73, a74, a75, a76, a77, a78, a79, a80, a81, a82, a83, a84, a85, a86, a87, a88, a89, a90, a91, a92, a93, a94, a95, a96])), (tp, .inl (kt, 65536, .inl f))] s.heap.size = A at hB hD ⊢
  have hA : ∀ q : Nat, s.heap.size ≤ q → A q := fun q h => by rw [← hAe]; exact Or.inr h
  have hS : va_S A s.heap s.heap [] := va_S.rf
  have hl := lv_entry ([.ref h0, .int x0, .int x1, .int x2, .int x3, .int x4]) (n := 8) (Nat.le_of_ble_eq_true rfl)
  rw [lg_entry_eq]
  generalize (lg_sl ([.ref h0, .int x0, .int x1, .int x2, .int x3, .int x4]) ++ List.replicate (8 - (lg_sl ([.ref h0, .int x0, .int x1, .int x2, .int x3, .int x4])).length) Slot.unset).toArray = ls at hl ⊢
  have hl : lv_has ls 8 [(0, .ref h0), (1, .int x0), (2, .int x1), (3, .int x2), (4, .int x3), (5, .int x4)] := hl
  refine lv_aload_n hx hb d_M_feed_0 rfl (lv_at hl 0 rfl) ?_
  refine lv_aload_n hx hb d_M_feed_1 rfl (lv_at hl 0 rfl) ?_
  refine va_get (D := D) (ci := 8) (v := .int 0) (C := R_M) (T := F_M) (N := 97) hx hb hts fin_M hown hK hP 0 rfl rfl 2 (by decide) (hts _ m_7895fa0a) (fun _ h9 => h9) rfl d_M_feed_2 ?_
  refine lv_bipush (v := 20) hx hb d_M_feed_5 (by decide) ?_
  refine lv_iadd hx hb d_M_feed_7 ?_
  refine xt_numi (y := 20) (by decide) ?_
  refine lv_aload_n hx hb d_M_feed_8 rfl (lv_at hl 0 rfl) ?_
  refine va_get (D := D) (ci := 8) (v := .ref tp) (C := R_M) (T := F_M) (N := 97) hx hb hts fin_M hown hK hP 0 rfl rfl 1 (by decide) (hts _ m_95b40228) (fun _ h9 => h9) rfl d_M_feed_9 ?_
  refine va_alen (v := 65536) hx hb hK hP 1 0 rfl rfl (show Int32.ofNat 65536 = 65536 from by decide +kernel) d_M_feed_12 ?_
  refine lv_icmp_le (tgt := 20) hx hb d_M_feed_13 rfl (fun _ => ?_) (fun h9 => absurd h9 (by decide))
  refine lv_iconst (v := 0) hx hb d_M_feed_20 (by decide) ?_
  refine va_put (D := D) (ci := 8) (v := .int 0) (ty := .int) (C := R_M) (T := F_M) (N := 97) hx hb hts fin_M t_M t_M_ok n_M hown hK hP hD hS 0 rfl rfl 0 (by decide) (hts _ m_afabd6a0) (fun _ h9 => h9) rfl (by decide +kernel) (by first | rfl | decide) (by first | rfl | decide) (Nat.le_of_ble_eq_true rfl) d_M_feed_21 (fun H locs hP hD hS => ?_)
  have hP : va_P D xcl [(h0, .inr (8, [.int 0, .ref tp, .int 0, a3, a4, a5, a6, a7, a8, a9, a10, a11, a12, a13, a14, a15, a16, a17, a18, a19, a20, a21, a22, a23, a24, a25, a26, a27, a28, a29, a30, a31, a32, a33, a34, a35, a36, a37, a38, a39, a40, a41, a42, a43, a44, a45, a46, a47, a48, a49, a50, a51, a52, a53, a54, a55, a56, a57, a58, a59, a60, a61, a62, a63, a64, a65, a66, a67, a68, a69, a70, a71, a72, a73, a74, a75, a76, a77, a78, a79, a80, a81, a82, a83, a84, a85, a86, a87, a88, a89, a90, a91, a92, a93, a94, a95, a96])), (tp, .inl (kt, 65536, .inl f))] H := hP
  have hD : va_D A [(h0, .inr (8, [.int 0, .ref tp, .int 0, a3, a4, a5, a6, a7, a8, a9, a10, a11, a12, a13, a14, a15, a16, a17, a18, a19, a20, a21, a22, a23, a24, a25, a26, a27, a28, a29, a30, a31, a32, a33, a34, a35, a36, a37, a38, a39, a40, a41, a42, a43, a44, a45, a46, a47, a48, a49, a50, a51, a52, a53, a54, a55, a56, a57, a58, a59, a60, a61, a62, a63, a64, a65, a66, a67, a68, a69, a70, a71, a72, a73, a74, a75, a76, a77, a78, a79, a80, a81, a82, a83, a84, a85, a86, a87, a88, a89, a90, a91, a92, a93, a94, a95, a96])), (tp, .inl (kt, 65536, .inl f))] := hD
  refine lv_aload_n hx hb d_M_feed_24 rfl (lv_at hl 0 rfl) ?_
  refine va_get (D := D) (ci := 8) (v := .int 0) (C := R_M) (T := F_M) (N := 97) hx hb hts fin_M hown hK hP 0 rfl rfl 0 (by decide) (hts _ m_afabd6a0) (fun _ h9 => h9) rfl d_M_feed_25 ?_
  refine lv_if_le (tgt := 33) hx hb d_M_feed_28 rfl (fun _ => ?_) (fun h9 => absurd h9 (by decide))
  refine lv_iconst (v := 0) hx hb d_M_feed_33 (by decide) ?_
  refine lv_istore hx hb d_M_feed_34 hl (by decide) rfl (fun ls hl => ?_)
  have hl : lv_has ls 8 [(6, .int 0), (0, .ref h0), (1, .int x0), (2, .int x1), (3, .int x2), (4, .int x3), (5, .int x4)] := hl
  refine lv_iload hx hb d_M_feed_36 (lv_at hl 0 rfl) ?_
  refine lv_bipush (v := 20) hx hb d_M_feed_38 (by decide) ?_
  refine lv_icmp_ge (tgt := 123) hx hb d_M_feed_40 rfl (fun h9 => absurd h9 (by decide)) (fun _ => ?_)
  refine lv_iload hx hb d_M_feed_43 (lv_at hl 0 rfl) ?_
  refine lv_iconst (v := 4) hx hb d_M_feed_45 (by decide) ?_
  refine lv_icmp_ge (tgt := 53) hx hb d_M_feed_46 rfl (fun h9 => absurd h9 (by decide)) (fun _ => ?_)
  refine lv_iload_n hx hb d_M_feed_49 rfl (lv_at hl 2 rfl) ?_
  refine lv_goto (tgt := 89) hx hb d_M_feed_50 rfl ?_
  refine lv_istore hx hb d_M_feed_89 hl (by decide) rfl (fun ls hl => ?_)
  have hl : lv_has ls 8 [(7, .int x0), (6, .int 0), (0, .ref h0), (1, .int x0), (2, .int x1), (3, .int x2), (4, .int x3), (5, .int x4)] := hl
  refine lv_aload_n hx hb d_M_feed_91 rfl (lv_at hl 2 rfl) ?_
  refine va_get (D := D) (ci := 8) (v := .ref tp) (C := R_M) (T := F_M) (N := 97) hx hb hts fin_M hown hK hP 0 rfl rfl 1 (by decide) (hts _ m_95b40228) (fun _ h9 => h9) rfl d_M_feed_92 ?_
  refine lv_aload_n hx hb d_M_feed_95 rfl (lv_at hl 2 rfl) ?_
  refine va_get (D := D) (ci := 8) (v := .int 0) (C := R_M) (T := F_M) (N := 97) hx hb hts fin_M hown hK hP 0 rfl rfl 2 (by decide) (hts _ m_7895fa0a) (fun _ h9 => h9) rfl d_M_feed_96 ?_
  refine lv_iload hx hb d_M_feed_99 (lv_at hl 1 rfl) ?_
  refine lv_iadd hx hb d_M_feed_101 ?_
  refine xt_numi (y := 0) (by decide) ?_
  refine lv_iload hx hb d_M_feed_102 (lv_at hl 0 rfl) ?_
  refine lv_bipush (v := 24) hx hb d_M_feed_104 (by decide) ?_
  refine lv_bipush (v := 8) hx hb d_M_feed_106 (by decide) ?_
  refine lv_iload hx hb d_M_feed_108 (lv_at hl 1 rfl) ?_
  refine lv_iconst (v := 4) hx hb d_M_feed_110 (by decide) ?_
  refine lv_irem hx hb d_M_feed_111 (by decide) ?_
  refine xt_numi (y := 0) (by decide +kernel) ?_
  refine lv_imul hx hb d_M_feed_112 ?_
  refine xt_numi (y := 0) (by decide) ?_
  refine lv_isub hx hb d_M_feed_113 ?_
  refine xt_numi (y := 24) (by decide) ?_
  refine lv_ishr hx hb d_M_feed_114 ?_
  refine lv_i2b hx hb d_M_feed_115 rfl ?_
  refine va_bast (i := 0) (x := ((x0 >>> (24 &&& 31)) : Int32).toInt8.toInt32) hx hb hK hP hD hS 1 0 rfl rfl (xt_vin (by decide +kernel)) d_M_feed_116 (fun H locs hP hD hS => ?_)
  have hP : va_P D xcl [(h0, .inr (8, [.int 0, .ref tp, .int 0, a3, a4, a5, a6, a7, a8, a9, a10, a11, a12, a13, a14, a15, a16, a17, a18, a19, a20, a21, a22, a23, a24, a25, a26, a27, a28, a29, a30, a31, a32, a33, a34, a35, a36, a37, a38, a39, a40, a41, a42, a43, a44, a45, a46, a47, a48, a49, a50, a51, a52, a53, a54, a55, a56, a57, a58, a59, a60, a61, a62, a63, a64, a65, a66, a67, a68, a69, a70, a71, a72, a73, a74, a75, a76, a77, a78, a79, a80, a81, a82, a83, a84, a85, a86, a87, a88, a89, a90, a91, a92, a93, a94, a95, a96])), (tp, .inl (kt, 65536, .inl (upd f (0 : Int32).toNatClampNeg (vp_nar .byte ((x0 >>> (24 &&& 31)) : Int32).toInt8.toInt32))))] H := hP
  have hD : va_D A [(h0, .inr (8, [.int 0, .ref tp, .int 0, a3, a4, a5, a6, a7, a8, a9, a10, a11, a12, a13, a14, a15, a16, a17, a18, a19, a20, a21, a22, a23, a24, a25, a26, a27, a28, a29, a30, a31, a32, a33, a34, a35, a36, a37, a38, a39, a40, a41, a42, a43, a44, a45, a46, a47, a48, a49, a50, a51, a52, a53, a54, a55, a56, a57, a58, a59, a60, a61, a62, a63, a64, a65, a66, a67, a68, a69, a70, a71, a72, a73, a74, a75, a76, a77, a78, a79, a80, a81, a82, a83, a84, a85, a86, a87, a88, a89, a90, a91, a92, a93, a94, a95, a96])), (tp, .inl (kt, 65536, .inl (upd f (0 : Int32).toNatClampNeg (vp_nar .byte ((x0 >>> (24 &&& 31)) : Int32).toInt8.toInt32))))] := hD
  refine lv_iinc (v := 1) (k := 1) hx hb d_M_feed_117 hl rfl (by first | decide | rfl) (by decide) rfl (fun ls hl => ?_)
  have hl : lv_has ls 8 [(6, .int 1), (7, .int x0), (0, .ref h0), (1, .int x0), (2, .int x1), (3, .int x2), (4, .int x3), (5, .int x4)] := hl
  refine lv_goto (tgt := 36) hx hb d_M_feed_120 rfl ?_
  refine lv_iload hx hb d_M_feed_36 (lv_at hl 0 rfl) ?_
  refine lv_bipush (v := 20) hx hb d_M_feed_38 (by decide) ?_
  refine lv_icmp_ge (tgt := 123) hx hb d_M_feed_40 rfl (fun h9 => absurd h9 (by decide)) (fun _ => ?_)
  refine lv_iload hx hb d_M_feed_43 (lv_at hl 0 rfl) ?_
  refine lv_iconst (v := 4) hx hb d_M_feed_45 (by decide) ?_
  refine lv_icmp_ge (tgt := 53) hx hb d_M_feed_46 rfl (fun h9 => absurd h9 (by decide)) (fun _ => ?_)
  refine lv_iload_n hx hb d_M_feed_49 rfl (lv_at hl 3 rfl) ?_
  refine lv_goto (tgt := 89) hx hb d_M_feed_50 rfl ?_
  refine lv_istore hx hb d_M_feed_89 hl (by decide) rfl (fun ls hl => ?_)
  have hl : lv_has ls 8 [(7, .int x0), (6, .int 1), (0, .ref h0), (1, .int x0), (2, .int x1), (3, .int x2), (4, .int x3), (5, .int x4)] := hl
  refine lv_aload_n hx hb d_M_feed_91 rfl (lv_at hl 2 rfl) ?_
  refine va_get (D := D) (ci := 8) (v := .ref tp) (C := R_M) (T := F_M) (N := 97) hx hb hts fin_M hown hK hP 0 rfl rfl 1 (by decide) (hts _ m_95b40228) (fun _ h9 => h9) rfl d_M_feed_92 ?_
  refine lv_aload_n hx hb d_M_feed_95 rfl (lv_at hl 2 rfl) ?_
  refine va_get (D := D) (ci := 8) (v := .int 0) (C := R_M) (T := F_M) (N := 97) hx hb hts fin_M hown hK hP 0 rfl rfl 2 (by decide) (hts _ m_7895fa0a) (fun _ h9 => h9) rfl d_M_feed_96 ?_
  refine lv_iload hx hb d_M_feed_99 (lv_at hl 1 rfl) ?_
  refine lv_iadd hx hb d_M_feed_101 ?_
  refine xt_numi (y := 1) (by decide) ?_
  refine lv_iload hx hb d_M_feed_102 (lv_at hl 0 rfl) ?_
  refine lv_bipush (v := 24) hx hb d_M_feed_104 (by decide) ?_
  refine lv_bipush (v := 8) hx hb d_M_feed_106 (by decide) ?_
  refine lv_iload hx hb d_M_feed_108 (lv_at hl 1 rfl) ?_
  refine lv_iconst (v := 4) hx hb d_M_feed_110 (by decide) ?_
  refine lv_irem hx hb d_M_feed_111 (by decide) ?_
  refine xt_numi (y := 1) (by decide +kernel) ?_
  refine lv_imul hx hb d_M_feed_112 ?_
  refine xt_numi (y := 8) (by decide) ?_
  refine lv_isub hx hb d_M_feed_113 ?_
  refine xt_numi (y := 16) (by decide) ?_
  refine lv_ishr hx hb d_M_feed_114 ?_
  refine lv_i2b hx hb d_M_feed_115 rfl ?_
  refine va_bast (i := 1) (x := ((x0 >>> (16 &&& 31)) : Int32).toInt8.toInt32) hx hb hK hP hD hS 1 0 rfl rfl (xt_vin (by decide +kernel)) d_M_feed_116 (fun H locs hP hD hS => ?_)
  have hP : va_P D xcl [(h0, .inr (8, [.int 0, .ref tp, .int 0, a3, a4, a5, a6, a7, a8, a9, a10, a11, a12, a13, a14, a15, a16, a17, a18, a19, a20, a21, a22, a23, a24, a25, a26, a27, a28, a29, a30, a31, a32, a33, a34, a35, a36, a37, a38, a39, a40, a41, a42, a43, a44, a45, a46, a47, a48, a49, a50, a51, a52, a53, a54, a55, a56, a57, a58, a59, a60, a61, a62, a63, a64, a65, a66, a67, a68, a69, a70, a71, a72, a73, a74, a75, a76, a77, a78, a79, a80, a81, a82, a83, a84, a85, a86, a87, a88, a89, a90, a91, a92, a93, a94, a95, a96])), (tp, .inl (kt, 65536, .inl (upd (upd f (0 : Int32).toNatClampNeg (vp_nar .byte ((x0 >>> (24 &&& 31)) : Int32).toInt8.toInt32)) (1 : Int32).toNatClampNeg (vp_nar .byte ((x0 >>> (16 &&& 31)) : Int32).toInt8.toInt32))))] H := hP
  have hD : va_D A [(h0, .inr (8, [.int 0, .ref tp, .int 0, a3, a4, a5, a6, a7, a8, a9, a10, a11, a12, a13, a14, a15, a16, a17, a18, a19, a20, a21, a22, a23, a24, a25, a26, a27, a28, a29, a30, a31, a32, a33, a34, a35, a36, a37, a38, a39, a40, a41, a42, a43, a44, a45, a46, a47, a48, a49, a50, a51, a52, a53, a54, a55, a56, a57, a58, a59, a60, a61, a62, a63, a64, a65, a66, a67, a68, a69, a70, a71, a72, a73, a74, a75, a76, a77, a78, a79, a80, a81, a82, a83, a84, a85, a86, a87, a88, a89, a90, a91, a92, a93, a94, a95, a96])), (tp, .inl (kt, 65536, .inl (upd (upd f (0 : Int32).toNatClampNeg (vp_nar .byte ((x0 >>> (24 &&& 31)) : Int32).toInt8.toInt32)) (1 : Int32).toNatClampNeg (vp_nar .byte ((x0 >>> (16 &&& 31)) : Int32).toInt8.toInt32))))] := hD
  refine lv_iinc (v := 2) (k := 1) hx hb d_M_feed_117 hl rfl (by first | decide | rfl) (by decide) rfl (fun ls hl => ?_)
  have hl : lv_has ls 8 [(6, .int 2), (7, .int x0), (0, .ref h0), (1, .int x0), (2, .int x1), (3, .int x2), (4, .int x3), (5, .int x4)] := hl
  refine lv_goto (tgt := 36) hx hb d_M_feed_120 rfl ?_
  refine lv_iload hx hb d_M_feed_36 (lv_at hl 0 rfl) ?_
  refine lv_bipush (v := 20) hx hb d_M_feed_38 (by decide) ?_
  refine lv_icmp_ge (tgt := 123) hx hb d_M_feed_40 rfl (fun h9 => absurd h9 (by decide)) (fun _ => ?_)
  refine lv_iload hx hb d_M_feed_43 (lv_at hl 0 rfl) ?_
  refine lv_iconst (v := 4) hx hb d_M_feed_45 (by decide) ?_
  refine lv_icmp_ge (tgt := 53) hx hb d_M_feed_46 rfl (fun h9 => absurd h9 (by decide)) (fun _ => ?_)
  refine lv_iload_n hx hb d_M_feed_49 rfl (lv_at hl 3 rfl) ?_
  refine lv_goto (tgt := 89) hx hb d_M_feed_50 rfl ?_
  refine lv_istore hx hb d_M_feed_89 hl (by decide) rfl (fun ls hl => ?_)
  have hl : lv_has ls 8 [(7, .int x0), (6, .int 2), (0, .ref h0), (1, .int x0), (2, .int x1), (3, .int x2), (4, .int x3), (5, .int x4)] := hl
  refine lv_aload_n hx hb d_M_feed_91 rfl (lv_at hl 2 rfl) ?_
  refine va_get (D := D) (ci := 8) (v := .ref tp) (C := R_M) (T := F_M) (N := 97) hx hb hts fin_M hown hK hP 0 rfl rfl 1 (by decide) (hts _ m_95b40228) (fun _ h9 => h9) rfl d_M_feed_92 ?_
  refine lv_aload_n hx hb d_M_feed_95 rfl (lv_at hl 2 rfl) ?_
  refine va_get (D := D) (ci := 8) (v := .int 0) (C := R_M) (T := F_M) (N := 97) hx hb hts fin_M hown hK hP 0 rfl rfl 2 (by decide) (hts _ m_7895fa0a) (fun _ h9 => h9) rfl d_M_feed_96 ?_
  refine lv_iload hx hb d_M_feed_99 (lv_at hl 1 rfl) ?_
  refine lv_iadd hx hb d_M_feed_101 ?_
  refine xt_numi (y := 2) (by decide) ?_
  refine lv_iload hx hb d_M_feed_102 (lv_at hl 0 rfl) ?_
  refine lv_bipush (v := 24) hx hb d_M_feed_104 (by decide) ?_
  refine lv_bipush (v := 8) hx hb d_M_feed_106 (by decide) ?_
  refine lv_iload hx hb d_M_feed_108 (lv_at hl 1 rfl) ?_
  refine lv_iconst (v := 4) hx hb d_M_feed_110 (by decide) ?_
  refine lv_irem hx hb d_M_feed_111 (by decide) ?_
  refine xt_numi (y := 2) (by decide +kernel) ?_
  refine lv_imul hx hb d_M_feed_112 ?_
  refine xt_numi (y := 16) (by decide) ?_
  refine lv_isub hx hb d_M_feed_113 ?_
  refine xt_numi (y := 8) (by decide) ?_
  refine lv_ishr hx hb d_M_feed_114 ?_
  refine lv_i2b hx hb d_M_feed_115 rfl ?_
  refine va_bast (i := 2) (x := ((x0 >>> (8 &&& 31)) : Int32).toInt8.toInt32) hx hb hK hP hD hS 1 0 rfl rfl (xt_vin (by decide +kernel)) d_M_feed_116 (fun H locs hP hD hS => ?_)
  have hP : va_P D xcl [(h0, .inr (8, [.int 0, .ref tp, .int 0, a3, a4, a5, a6, a7, a8, a9, a10, a11, a12, a13, a14, a15, a16, a17, a18, a19, a20, a21, a22, a23, a24, a25, a26, a27, a28, a29, a30, a31, a32, a33, a34, a35, a36, a37, a38, a39, a40, a41, a42, a43, a44, a45, a46, a47, a48, a49, a50, a51, a52, a53, a54, a55, a56, a57, a58, a59, a60, a61, a62, a63, a64, a65, a66, a67, a68, a69, a70, a71, a72, a73, a74, a75, a76, a77, a78, a79, a80, a81, a82, a83, a84, a85, a86, a87, a88, a89, a90, a91, a92, a93, a94, a95, a96])), (tp, .inl (kt, 65536, .inl (upd (upd (upd f (0 : Int32).toNatClampNeg (vp_nar .byte ((x0 >>> (24 &&& 31)) : Int32).toInt8.toInt32)) (1 : Int32).toNatClampNeg (vp_nar .byte ((x0 >>> (16 &&& 31)) : Int32).toInt8.toInt32)) (2 : Int32).toNatClampNeg (vp_nar .byte ((x0 >>> (8 &&& 31)) : Int32).toInt8.toInt32))))] H := hP
  have hD : va_D A [(h0, .inr (8, [.int 0, .ref tp, .int 0, a3, a4, a5, a6, a7, a8, a9, a10, a11, a12, a13, a14, a15, a16, a17, a18, a19, a20, a21, a22, a23, a24, a25, a26, a27, a28, a29, a30, a31, a32, a33, a34, a35, a36, a37, a38, a39, a40, a41, a42, a43, a44, a45, a46, a47, a48, a49, a50, a51, a52, a53, a54, a55, a56, a57, a58, a59, a60, a61, a62, a63, a64, a65, a66, a67, a68, a69, a70, a71, a72, a73, a74, a75, a76, a77, a78, a79, a80, a81, a82, a83, a84, a85, a86, a87, a88, a89, a90, a91, a92, a93, a94, a95, a96])), (tp, .inl (kt, 65536, .inl (upd (upd (upd f (0 : Int32).toNatClampNeg (vp_nar .byte ((x0 >>> (24 &&& 31)) : Int32).toInt8.toInt32)) (1 : Int32).toNatClampNeg (vp_nar .byte ((x0 >>> (16 &&& 31)) : Int32).toInt8.toInt32)) (2 : Int32).toNatClampNeg (vp_nar .byte ((x0 >>> (8 &&& 31)) : Int32).toInt8.toInt32))))] := hD
  refine lv_iinc (v := 3) (k := 1) hx hb d_M_feed_117 hl rfl (by first | decide | rfl) (by decide) rfl (fun ls hl => ?_)
  have hl : lv_has ls 8 [(6, .int 3), (7, .int x0), (0, .ref h0), (1, .int x0), (2, .int x1), (3, .int x2), (4, .int x3), (5, .int x4)] := hl
  refine lv_goto (tgt := 36) hx hb d_M_feed_120 rfl ?_
  refine lv_iload hx hb d_M_feed_36 (lv_at hl 0 rfl) ?_
  refine lv_bipush (v := 20) hx hb d_M_feed_38 (by decide) ?_
  refine lv_icmp_ge (tgt := 123) hx hb d_M_feed_40 rfl (fun h9 => absurd h9 (by decide)) (fun _ => ?_)
  refine lv_iload hx hb d_M_feed_43 (lv_at hl 0 rfl) ?_
  refine lv_iconst (v := 4) hx hb d_M_feed_45 (by decide) ?_
  refine lv_icmp_ge (tgt := 53) hx hb d_M_feed_46 rfl (fun h9 => absurd h9 (by decide)) (fun _ => ?_)
  refine lv_iload_n hx hb d_M_feed_49 rfl (lv_at hl 3 rfl) ?_
  refine lv_goto (tgt := 89) hx hb d_M_feed_50 rfl ?_
  refine lv_istore hx hb d_M_feed_89 hl (by decide) rfl (fun ls hl => ?_)
  have hl : lv_has ls 8 [(7, .int x0), (6, .int 3), (0, .ref h0), (1, .int x0), (2, .int x1), (3, .int x2), (4, .int x3), (5, .int x4)] := hl
  refine lv_aload_n hx hb d_M_feed_91 rfl (lv_at hl 2 rfl) ?_
  refine va_get (D := D) (ci := 8) (v := .ref tp) (C := R_M) (T := F_M) (N := 97) hx hb hts fin_M hown hK hP 0 rfl rfl 1 (by decide) (hts _ m_95b40228) (fun _ h9 => h9) rfl d_M_feed_92 ?_
  refine lv_aload_n hx hb d_M_feed_95 rfl (lv_at hl 2 rfl) ?_
  refine va_get (D := D) (ci := 8) (v := .int 0) (C := R_M) (T := F_M) (N := 97) hx hb hts fin_M hown hK hP 0 rfl rfl 2 (by decide) (hts _ m_7895fa0a) (fun _ h9 => h9) rfl d_M_feed_96 ?_
  refine lv_iload hx hb d_M_feed_99 (lv_at hl 1 rfl) ?_
  refine lv_iadd hx hb d_M_feed_101 ?_
  refine xt_numi (y := 3) (by decide) ?_
  refine lv_iload hx hb d_M_feed_102 (lv_at hl 0 rfl) ?_
  refine lv_bipush (v := 24) hx hb d_M_feed_104 (by decide) ?_
  refine lv_bipush (v := 8) hx hb d_M_feed_106 (by decide) ?_
  refine lv_iload hx hb d_M_feed_108 (lv_at hl 1 rfl) ?_
  refine lv_iconst (v := 4) hx hb d_M_feed_110 (by decide) ?_
  refine lv_irem hx hb d_M_feed_111 (by decide) ?_
  refine xt_numi (y := 3) (by decide +kernel) ?_
  refine lv_imul hx hb d_M_feed_112 ?_
  refine xt_numi (y := 24) (by decide) ?_
  refine lv_isub hx hb d_M_feed_113 ?_
  refine xt_numi (y := 0) (by decide) ?_
  refine lv_ishr hx hb d_M_feed_114 ?_
  refine lv_i2b hx hb d_M_feed_115 rfl ?_
  refine va_bast (i := 3) (x := ((x0 >>> (0 &&& 31)) : Int32).toInt8.toInt32) hx hb hK hP hD hS 1 0 rfl rfl (xt_vin (by decide +kernel)) d_M_feed_116 (fun H locs hP hD hS => ?_)
  have hP : va_P D xcl [(h0, .inr (8, [.int 0, .ref tp, .int 0, a3, a4, a5, a6, a7, a8, a9, a10, a11, a12, a13, a14, a15, a16, a17, a18, a19, a20, a21, a22, a23, a24, a25, a26, a27, a28, a29, a30, a31, a32, a33, a34, a35, a36, a37, a38, a39, a40, a41, a42, a43, a44, a45, a46, a47, a48, a49, a50, a51, a52, a53, a54, a55, a56, a57, a58, a59, a60, a61, a62, a63, a64, a65, a66, a67, a68, a69, a70, a71, a72, a73, a74, a75, a76, a77, a78, a79, a80, a81, a82, a83, a84, a85, a86, a87, a88, a89, a90, a91, a92, a93, a94, a95, a96])), (tp, .inl (kt, 65536, .inl (upd (upd (upd (upd f (0 : Int32).toNatClampNeg (vp_nar .byte ((x0 >>> (24 &&& 31)) : Int32).toInt8.toInt32)) (1 : Int32).toNatClampNeg (vp_nar .byte ((x0 >>> (16 &&& 31)) : Int32).toInt8.toInt32)) (2 : Int32).toNatClampNeg (vp_nar .byte ((x0 >>> (8 &&& 31)) : Int32).toInt8.toInt32)) (3 : Int32).toNatClampNeg (vp_nar .byte ((x0 >>> (0 &&& 31)) : Int32).toInt8.toInt32))))] H := hP
  have hD : va_D A [(h0, .inr (8, [.int 0, .ref tp, .int 0, a3, a4, a5, a6, a7, a8, a9, a10, a11, a12, a13, a14, a15, a16, a17, a18, a19, a20, a21, a22, a23, a24, a25, a26, a27, a28, a29, a30, a31, a32, a33, a34, a35, a36, a37, a38, a39, a40, a41, a42, a43, a44, a45, a46, a47, a48, a49, a50, a51, a52, a53, a54, a55, a56, a57, a58, a59, a60, a61, a62, a63, a64, a65, a66, a67, a68, a69, a70, a71, a72, a73, a74, a75, a76, a77, a78, a79, a80, a81, a82, a83, a84, a85, a86, a87, a88, a89, a90, a91, a92, a93, a94, a95, a96])), (tp, .inl (kt, 65536, .inl (upd (upd (upd (upd f (0 : Int32).toNatClampNeg (vp_nar .byte ((x0 >>> (24 &&& 31)) : Int32).toInt8.toInt32)) (1 : Int32).toNatClampNeg (vp_nar .byte ((x0 >>> (16 &&& 31)) : Int32).toInt8.toInt32)) (2 : Int32).toNatClampNeg (vp_nar .byte ((x0 >>> (8 &&& 31)) : Int32).toInt8.toInt32)) (3 : Int32).toNatClampNeg (vp_nar .byte ((x0 >>> (0 &&& 31)) : Int32).toInt8.toInt32))))] := hD
  refine lv_iinc (v := 4) (k := 1) hx hb d_M_feed_117 hl rfl (by first | decide | rfl) (by decide) rfl (fun ls hl => ?_)
  have hl : lv_has ls 8 [(6, .int 4), (7, .int x0), (0, .ref h0), (1, .int x0), (2, .int x1), (3, .int x2), (4, .int x3), (5, .int x4)] := hl
  refine lv_goto (tgt := 36) hx hb d_M_feed_120 rfl ?_
  refine lv_iload hx hb d_M_feed_36 (lv_at hl 0 rfl) ?_
  refine lv_bipush (v := 20) hx hb d_M_feed_38 (by decide) ?_
  refine lv_icmp_ge (tgt := 123) hx hb d_M_feed_40 rfl (fun h9 => absurd h9 (by decide)) (fun _ => ?_)
  refine lv_iload hx hb d_M_feed_43 (lv_at hl 0 rfl) ?_
  refine lv_iconst (v := 4) hx hb d_M_feed_45 (by decide) ?_
  refine lv_icmp_ge (tgt := 53) hx hb d_M_feed_46 rfl (fun _ => ?_) (fun h9 => absurd h9 (by decide))
  refine lv_iload hx hb d_M_feed_53 (lv_at hl 0 rfl) ?_
  refine lv_bipush (v := 8) hx hb d_M_feed_55 (by decide) ?_
  refine lv_icmp_ge (tgt := 64) hx hb d_M_feed_57 rfl (fun h9 => absurd h9 (by decide)) (fun _ => ?_)
  refine lv_iload_n hx hb d_M_feed_60 rfl (lv_at hl 4 rfl) ?_
  refine lv_goto (tgt := 89) hx hb d_M_feed_61 rfl ?_
  refine lv_istore hx hb d_M_feed_89 hl (by decide) rfl (fun ls hl => ?_)
  have hl : lv_has ls 8 [(7, .int x1), (6, .int 4), (0, .ref h0), (1, .int x0), (2, .int x1), (3, .int x2), (4, .int x3), (5, .int x4)] := hl
  refine lv_aload_n hx hb d_M_feed_91 rfl (lv_at hl 2 rfl) ?_
  refine va_get (D := D) (ci := 8) (v := .ref tp) (C := R_M) (T := F_M) (N := 97) hx hb hts fin_M hown hK hP 0 rfl rfl 1 (by decide) (hts _ m_95b40228) (fun _ h9 => h9) rfl d_M_feed_92 ?_
  refine lv_aload_n hx hb d_M_feed_95 rfl (lv_at hl 2 rfl) ?_
  refine va_get (D := D) (ci := 8) (v := .int 0) (C := R_M) (T := F_M) (N := 97) hx hb hts fin_M hown hK hP 0 rfl rfl 2 (by decide) (hts _ m_7895fa0a) (fun _ h9 => h9) rfl d_M_feed_96 ?_
  refine lv_iload hx hb d_M_feed_99 (lv_at hl 1 rfl) ?_
  refine lv_iadd hx hb d_M_feed_101 ?_
  refine xt_numi (y := 4) (by decide) ?_
  refine lv_iload hx hb d_M_feed_102 (lv_at hl 0 rfl) ?_
  refine lv_bipush (v := 24) hx hb d_M_feed_104 (by decide) ?_
  refine lv_bipush (v := 8) hx hb d_M_feed_106 (by decide) ?_
  refine lv_iload hx hb d_M_feed_108 (lv_at hl 1 rfl) ?_
  refine lv_iconst (v := 4) hx hb d_M_feed_110 (by decide) ?_
  refine lv_irem hx hb d_M_feed_111 (by decide) ?_
  refine xt_numi (y := 0) (by decide +kernel) ?_
  refine lv_imul hx hb d_M_feed_112 ?_
  refine xt_numi (y := 0) (by decide) ?_
  refine lv_isub hx hb d_M_feed_113 ?_
  refine xt_numi (y := 24) (by decide) ?_
  refine lv_ishr hx hb d_M_feed_114 ?_
  refine lv_i2b hx hb d_M_feed_115 rfl ?_
  refine va_bast (i := 4) (x := ((x1 >>> (24 &&& 31)) : Int32).toInt8.toInt32) hx hb hK hP hD hS 1 0 rfl rfl (xt_vin (by decide +kernel)) d_M_feed_116 (fun H locs hP hD hS => ?_)
  have hP : va_P D xcl [(h0, .inr (8, [.int 0, .ref tp, .int 0, a3, a4, a5, a6, a7, a8, a9, a10, a11, a12, a13, a14, a15, a16, a17, a18, a19, a20, a21, a22, a23, a24, a25, a26, a27, a28, a29, a30, a31, a32, a33, a34, a35, a36, a37, a38, a39, a40, a41, a42, a43, a44, a45, a46, a47, a48, a49, a50, a51, a52, a53, a54, a55, a56, a57, a58, a59, a60, a61, a62, a63, a64, a65, a66, a67, a68, a69, a70, a71, a72, a73, a74, a75, a76, a77, a78, a79, a80, a81, a82, a83, a84, a85, a86, a87, a88, a89, a90, a91, a92, a93, a94, a95, a96])), (tp, .inl (kt, 65536, .inl (upd (upd (upd (upd (upd f (0 : Int32).toNatClampNeg (vp_nar .byte ((x0 >>> (24 &&& 31)) : Int32).toInt8.toInt32)) (1 : Int32).toNatClampNeg (vp_nar .byte ((x0 >>> (16 &&& 31)) : Int32).toInt8.toInt32)) (2 : Int32).toNatClampNeg (vp_nar .byte ((x0 >>> (8 &&& 31)) : Int32).toInt8.toInt32)) (3 : Int32).toNatClampNeg (vp_nar .byte ((x0 >>> (0 &&& 31)) : Int32).toInt8.toInt32)) (4 : Int32).toNatClampNeg (vp_nar .byte ((x1 >>> (24 &&& 31)) : Int32).toInt8.toInt32))))] H := hP
  have hD : va_D A [(h0, .inr (8, [.int 0, .ref tp, .int 0, a3, a4, a5, a6, a7, a8, a9, a10, a11, a12, a13, a14, a15, a16, a17, a18, a19, a20, a21, a22, a23, a24, a25, a26, a27, a28, a29, a30, a31, a32, a33, a34, a35, a36, a37, a38, a39, a40, a41, a42, a43, a44, a45, a46, a47, a48, a49, a50, a51, a52, a53, a54, a55, a56, a57, a58, a59, a60, a61, a62, a63, a64, a65, a66, a67, a68, a69, a70, a71, a72, a73, a74, a75, a76, a77, a78, a79, a80, a81, a82, a83, a84, a85, a86, a87, a88, a89, a90, a91, a92, a93, a94, a95, a96])), (tp, .inl (kt, 65536, .inl (upd (upd (upd (upd (upd f (0 : Int32).toNatClampNeg (vp_nar .byte ((x0 >>> (24 &&& 31)) : Int32).toInt8.toInt32)) (1 : Int32).toNatClampNeg (vp_nar .byte ((x0 >>> (16 &&& 31)) : Int32).toInt8.toInt32)) (2 : Int32).toNatClampNeg (vp_nar .byte ((x0 >>> (8 &&& 31)) : Int32).toInt8.toInt32)) (3 : Int32).toNatClampNeg (vp_nar .byte ((x0 >>> (0 &&& 31)) : Int32).toInt8.toInt32)) (4 : Int32).toNatClampNeg (vp_nar .byte ((x1 >>> (24 &&& 31)) : Int32).toInt8.toInt32))))] := hD
  refine lv_iinc (v := 5) (k := 1) hx hb d_M_feed_117 hl rfl (by first | decide | rfl) (by decide) rfl (fun ls hl => ?_)
  have hl : lv_has ls 8 [(6, .int 5), (7, .int x1), (0, .ref h0), (1, .int x0), (2, .int x1), (3, .int x2), (4, .int x3), (5, .int x4)] := hl
  refine lv_goto (tgt := 36) hx hb d_M_feed_120 rfl ?_
  refine lv_iload hx hb d_M_feed_36 (lv_at hl 0 rfl) ?_
  refine lv_bipush (v := 20) hx hb d_M_feed_38 (by decide) ?_
  refine lv_icmp_ge (tgt := 123) hx hb d_M_feed_40 rfl (fun h9 => absurd h9 (by decide)) (fun _ => ?_)
  refine lv_iload hx hb d_M_feed_43 (lv_at hl 0 rfl) ?_
  refine lv_iconst (v := 4) hx hb d_M_feed_45 (by decide) ?_
  refine lv_icmp_ge (tgt := 53) hx hb d_M_feed_46 rfl (fun _ => ?_) (fun h9 => absurd h9 (by decide))
  refine lv_iload hx hb d_M_feed_53 (lv_at hl 0 rfl) ?_
  refine lv_bipush (v := 8) hx hb d_M_feed_55 (by decide) ?_
  refine lv_icmp_ge (tgt := 64) hx hb d_M_feed_57 rfl (fun h9 => absurd h9 (by decide)) (fun _ => ?_)
  refine lv_iload_n hx hb d_M_feed_60 rfl (lv_at hl 4 rfl) ?_
  refine lv_goto (tgt := 89) hx hb d_M_feed_61 rfl ?_
  refine lv_istore hx hb d_M_feed_89 hl (by decide) rfl (fun ls hl => ?_)
  have hl : lv_has ls 8 [(7, .int x1), (6, .int 5), (0, .ref h0), (1, .int x0), (2, .int x1), (3, .int x2), (4, .int x3), (5, .int x4)] := hl
  refine lv_aload_n hx hb d_M_feed_91 rfl (lv_at hl 2 rfl) ?_
  refine va_get (D := D) (ci := 8) (v := .ref tp) (C := R_M) (T := F_M) (N := 97) hx hb hts fin_M hown hK hP 0 rfl rfl 1 (by decide) (hts _ m_95b40228) (fun _ h9 => h9) rfl d_M_feed_92 ?_
  refine lv_aload_n hx hb d_M_feed_95 rfl (lv_at hl 2 rfl) ?_
  refine va_get (D := D) (ci := 8) (v := .int 0) (C := R_M) (T := F_M) (N := 97) hx hb hts fin_M hown hK hP 0 rfl rfl 2 (by decide) (hts _ m_7895fa0a) (fun _ h9 => h9) rfl d_M_feed_96 ?_
  refine lv_iload hx hb d_M_feed_99 (lv_at hl 1 rfl) ?_
  refine lv_iadd hx hb d_M_feed_101 ?_
  refine xt_numi (y := 5) (by decide) ?_
  refine lv_iload hx hb d_M_feed_102 (lv_at hl 0 rfl) ?_
  refine lv_bipush (v := 24) hx hb d_M_feed_104 (by decide) ?_
  refine lv_bipush (v := 8) hx hb d_M_feed_106 (by decide) ?_
  refine lv_iload hx hb d_M_feed_108 (lv_at hl 1 rfl) ?_
  refine lv_iconst (v := 4) hx hb d_M_feed_110 (by decide) ?_
  refine lv_irem hx hb d_M_feed_111 (by decide) ?_
  refine xt_numi (y := 1) (by decide +kernel) ?_
  refine lv_imul hx hb d_M_feed_112 ?_
  refine xt_numi (y := 8) (by decide) ?_
  refine lv_isub hx hb d_M_feed_113 ?_
  refine xt_numi (y := 16) (by decide) ?_
  refine lv_ishr hx hb d_M_feed_114 ?_
  refine lv_i2b hx hb d_M_feed_115 rfl ?_
  refine va_bast (i := 5) (x := ((x1 >>> (16 &&& 31)) : Int32).toInt8.toInt32) hx hb hK hP hD hS 1 0 rfl rfl (xt_vin (by decide +kernel)) d_M_feed_116 (fun H locs hP hD hS => ?_)
  have hP : va_P D xcl [(h0, .inr (8, [.int 0, .ref tp, .int 0, a3, a4, a5, a6, a7, a8, a9, a10, a11, a12, a13, a14, a15, a16, a17, a18, a19, a20, a21, a22, a23, a24, a25, a26, a27, a28, a29, a30, a31, a32, a33, a34, a35, a36, a37, a38, a39, a40, a41, a42, a43, a44, a45, a46, a47, a48, a49, a50, a51, a52, a53, a54, a55, a56, a57, a58, a59, a60, a61, a62, a63, a64, a65, a66, a67, a68, a69, a70, a71, a72, a73, a74, a75, a76, a77, a78, a79, a80, a81, a82, a83, a84, a85, a86, a87, a88, a89, a90, a91, a92, a93, a94, a95, a96])), (tp, .inl (kt, 65536, .inl (upd (upd (upd (upd (upd (upd f (0 : Int32).toNatClampNeg (vp_nar .byte ((x0 >>> (24 &&& 31)) : Int32).toInt8.toInt32)) (1 : Int32).toNatClampNeg (vp_nar .byte ((x0 >>> (16 &&& 31)) : Int32).toInt8.toInt32)) (2 : Int32).toNatClampNeg (vp_nar .byte ((x0 >>> (8 &&& 31)) : Int32).toInt8.toInt32)) (3 : Int32).toNatClampNeg (vp_nar .byte ((x0 >>> (0 &&& 31)) : Int32).toInt8.toInt32)) (4 : Int32).toNatClampNeg (vp_nar .byte ((x1 >>> (24 &&& 31)) : Int32).toInt8.toInt32)) (5 : Int32).toNatClampNeg (vp_nar .byte ((x1 >>> (16 &&& 31)) : Int32).toInt8.toInt32))))] H := hP
  have hD : va_D A [(h0, .inr (8, [.int 0, .ref tp, .int 0, a3, a4, a5, a6, a7, a8, a9, a10, a11, a12, a13, a14, a15, a16, a17, a18, a19, a20, a21, a22, a23, a24, a25, a26, a27, a28, a29, a30, a31, a32, a33, a34, a35, a36, a37, a38, a39, a40, a41, a42, a43, a44, a45, a46, a47, a48, a49, a50, a51, a52, a53, a54, a55, a56, a57, a58, a59, a60, a61, a62, a63, a64, a65, a66, a67, a68, a69, a70, a71, a72, a73, a74, a75, a76, a77, a78, a79, a80, a81, a82, a83, a84, a85, a86, a87, a88, a89, a90, a91, a92, a93, a94, a95, a96])), (tp, .inl (kt, 65536, .inl (upd (upd (upd (upd (upd (upd f (0 : Int32).toNatClampNeg (vp_nar .byte ((x0 >>> (24 &&& 31)) : Int32).toInt8.toInt32)) (1 : Int32).toNatClampNeg (vp_nar .byte ((x0 >>> (16 &&& 31)) : Int32).toInt8.toInt32)) (2 : Int32).toNatClampNeg (vp_nar .byte ((x0 >>> (8 &&& 31)) : Int32).toInt8.toInt32)) (3 : Int32).toNatClampNeg (vp_nar .byte ((x0 >>> (0 &&& 31)) : Int32).toInt8.toInt32)) (4 : Int32).toNatClampNeg (vp_nar .byte ((x1 >>> (24 &&& 31)) : Int32).toInt8.toInt32)) (5 : Int32).toNatClampNeg (vp_nar .byte ((x1 >>> (16 &&& 31)) : Int32).toInt8.toInt32))))] := hD
  refine lv_iinc (v := 6) (k := 1) hx hb d_M_feed_117 hl rfl (by first | decide | rfl) (by decide) rfl (fun ls hl => ?_)
  have hl : lv_has ls 8 [(6, .int 6), (7, .int x1), (0, .ref h0), (1, .int x0), (2, .int x1), (3, .int x2), (4, .int x3), (5, .int x4)] := hl
  refine lv_goto (tgt := 36) hx hb d_M_feed_120 rfl ?_
  refine lv_iload hx hb d_M_feed_36 (lv_at hl 0 rfl) ?_
  refine lv_bipush (v := 20) hx hb d_M_feed_38 (by decide) ?_
  refine lv_icmp_ge (tgt := 123) hx hb d_M_feed_40 rfl (fun h9 => absurd h9 (by decide)) (fun _ => ?_)
  refine lv_iload hx hb d_M_feed_43 (lv_at hl 0 rfl) ?_
  refine lv_iconst (v := 4) hx hb d_M_feed_45 (by decide) ?_
  refine lv_icmp_ge (tgt := 53) hx hb d_M_feed_46 rfl (fun _ => ?_) (fun h9 => absurd h9 (by decide))
  refine lv_iload hx hb d_M_feed_53 (lv_at hl 0 rfl) ?_
  refine lv_bipush (v := 8) hx hb d_M_feed_55 (by decide) ?_
  refine lv_icmp_ge (tgt := 64) hx hb d_M_feed_57 rfl (fun h9 => absurd h9 (by decide)) (fun _ => ?_)
  refine lv_iload_n hx hb d_M_feed_60 rfl (lv_at hl 4 rfl) ?_
  refine lv_goto (tgt := 89) hx hb d_M_feed_61 rfl ?_
  refine lv_istore hx hb d_M_feed_89 hl (by decide) rfl (fun ls hl => ?_)
  have hl : lv_has ls 8 [(7, .int x1), (6, .int 6), (0, .ref h0), (1, .int x0), (2, .int x1), (3, .int x2), (4, .int x3), (5, .int x4)] := hl
  refine lv_aload_n hx hb d_M_feed_91 rfl (lv_at hl 2 rfl) ?_
  refine va_get (D := D) (ci := 8) (v := .ref tp) (C := R_M) (T := F_M) (N := 97) hx hb hts fin_M hown hK hP 0 rfl rfl 1 (by decide) (hts _ m_95b40228) (fun _ h9 => h9) rfl d_M_feed_92 ?_
  refine lv_aload_n hx hb d_M_feed_95 rfl (lv_at hl 2 rfl) ?_
  refine va_get (D := D) (ci := 8) (v := .int 0) (C := R_M) (T := F_M) (N := 97) hx hb hts fin_M hown hK hP 0 rfl rfl 2 (by decide) (hts _ m_7895fa0a) (fun _ h9 => h9) rfl d_M_feed_96 ?_
  refine lv_iload hx hb d_M_feed_99 (lv_at hl 1 rfl) ?_
  refine lv_iadd hx hb d_M_feed_101 ?_
  refine xt_numi (y := 6) (by decide) ?_
  refine lv_iload hx hb d_M_feed_102 (lv_at hl 0 rfl) ?_
  refine lv_bipush (v := 24) hx hb d_M_feed_104 (by decide) ?_
  refine lv_bipush (v := 8) hx hb d_M_feed_106 (by decide) ?_
  refine lv_iload hx hb d_M_feed_108 (lv_at hl 1 rfl) ?_
  refine lv_iconst (v := 4) hx hb d_M_feed_110 (by decide) ?_
  refine lv_irem hx hb d_M_feed_111 (by decide) ?_
  refine xt_numi (y := 2) (by decide +kernel) ?_
  refine lv_imul hx hb d_M_feed_112 ?_
  refine xt_numi (y := 16) (by decide) ?_
  refine lv_isub hx hb d_M_feed_113 ?_
  refine xt_numi (y := 8) (by decide) ?_
  refine lv_ishr hx hb d_M_feed_114 ?_
  refine lv_i2b hx hb d_M_feed_115 rfl ?_
  refine va_bast (i := 6) (x := ((x1 >>> (8 &&& 31)) : Int32).toInt8.toInt32) hx hb hK hP hD hS 1 0 rfl rfl (xt_vin (by decide +kernel)) d_M_feed_116 (fun H locs hP hD hS => ?_)
  have hP : va_P D xcl [(h0, .inr (8, [.int 0, .ref tp, .int 0, a3, a4, a5, a6, a7, a8, a9, a10, a11, a12, a13, a14, a15, a16, a17, a18, a19, a20, a21, a22, a23, a24, a25, a26, a27, a28, a29, a30, a31, a32, a33, a34, a35, a36, a37, a38, a39, a40, a41, a42, a43, a44, a45, a46, a47, a48, a49, a50, a51, a52, a53, a54, a55, a56, a57, a58, a59, a60, a61, a62, a63, a64, a65, a66, a67, a68, a69, a70, a71, a72, a73, a74, a75, a76, a77, a78, a79, a80, a81, a82, a83, a84, a85, a86, a87, a88, a89, a90, a91, a92, a93, a94, a95, a96])), (tp, .inl (kt, 65536, .inl (upd (upd (upd (upd (upd (upd (upd f (0 : Int32).toNatClampNeg (vp_nar .byte ((x0 >>> (24 &&& 31)) : Int32).toInt8.toInt32)) (1 : Int32).toNatClampNeg (vp_nar .byte ((x0 >>> (16 &&& 31)) : Int32).toInt8.toInt32)) (2 : Int32).toNatClampNeg (vp_nar .byte ((x0 >>> (8 &&& 31)) : Int32).toInt8.toInt32)) (3 : Int32).toNatClampNeg (vp_nar .byte ((x0 >>> (0 &&& 31)) : Int32).toInt8.toInt32)) (4 : Int32).toNatClampNeg (vp_nar .byte ((x1 >>> (24 &&& 31)) : Int32).toInt8.toInt32)) (5 : Int32).toNatClampNeg (vp_nar .byte ((x1 >>> (16 &&& 31)) : Int32).toInt8.toInt32)) (6 : Int32).toNatClampNeg (vp_nar .byte ((x1 >>> (8 &&& 31)) : Int32).toInt8.toInt32))))] H := hP
  have hD : va_D A [(h0, .inr (8, [.int 0, .ref tp, .int 0, a3, a4, a5, a6, a7, a8, a9, a10, a11, a12, a13, a14, a15, a16, a17, a18, a19, a20, a21, a22, a23, a24, a25, a26, a27, a28, a29, a30, a31, a32, a33, a34, a35, a36, a37, a38, a39, a40, a41, a42, a43, a44, a45, a46, a47, a48, a49, a50, a51, a52, a53, a54, a55, a56, a57, a58, a59, a60, a61, a62, a63, a64, a65, a66, a67, a68, a69, a70, a71, a72, a73, a74, a75, a76, a77, a78, a79, a80, a81, a82, a83, a84, a85, a86, a87, a88, a89, a90, a91, a92, a93, a94, a95, a96])), (tp, .inl (kt, 65536, .inl (upd (upd (upd (upd (upd (upd (upd f (0 : Int32).toNatClampNeg (vp_nar .byte ((x0 >>> (24 &&& 31)) : Int32).toInt8.toInt32)) (1 : Int32).toNatClampNeg (vp_nar .byte ((x0 >>> (16 &&& 31)) : Int32).toInt8.toInt32)) (2 : Int32).toNatClampNeg (vp_nar .byte ((x0 >>> (8 &&& 31)) : Int32).toInt8.toInt32)) (3 : Int32).toNatClampNeg (vp_nar .byte ((x0 >>> (0 &&& 31)) : Int32).toInt8.toInt32)) (4 : Int32).toNatClampNeg (vp_nar .byte ((x1 >>> (24 &&& 31)) : Int32).toInt8.toInt32)) (5 : Int32).toNatClampNeg (vp_nar .byte ((x1 >>> (16 &&& 31)) : Int32).toInt8.toInt32)) (6 : Int32).toNatClampNeg (vp_nar .byte ((x1 >>> (8 &&& 31)) : Int32).toInt8.toInt32))))] := hD
  refine lv_iinc (v := 7) (k := 1) hx hb d_M_feed_117 hl rfl (by first | decide | rfl) (by decide) rfl (fun ls hl => ?_)
  have hl : lv_has ls 8 [(6, .int 7), (7, .int x1), (0, .ref h0), (1, .int x0), (2, .int x1), (3, .int x2), (4, .int x3), (5, .int x4)] := hl
  refine lv_goto (tgt := 36) hx hb d_M_feed_120 rfl ?_
  refine lv_iload hx hb d_M_feed_36 (lv_at hl 0 rfl) ?_
  refine lv_bipush (v := 20) hx hb d_M_feed_38 (by decide) ?_
  refine lv_icmp_ge (tgt := 123) hx hb d_M_feed_40 rfl (fun h9 => absurd h9 (by decide)) (fun _ => ?_)
  refine lv_iload hx hb d_M_feed_43 (lv_at hl 0 rfl) ?_
  refine lv_iconst (v := 4) hx hb d_M_feed_45 (by decide) ?_
  refine lv_icmp_ge (tgt := 53) hx hb d_M_feed_46 rfl (fun _ => ?_) (fun h9 => absurd h9 (by decide))
  refine lv_iload hx hb d_M_feed_53 (lv_at hl 0 rfl) ?_
  refine lv_bipush (v := 8) hx hb d_M_feed_55 (by decide) ?_
  refine lv_icmp_ge (tgt := 64) hx hb d_M_feed_57 rfl (fun h9 => absurd h9 (by decide)) (fun _ => ?_)
  refine lv_iload_n hx hb d_M_feed_60 rfl (lv_at hl 4 rfl) ?_
  refine lv_goto (tgt := 89) hx hb d_M_feed_61 rfl ?_
  refine lv_istore hx hb d_M_feed_89 hl (by decide) rfl (fun ls hl => ?_)
  have hl : lv_has ls 8 [(7, .int x1), (6, .int 7), (0, .ref h0), (1, .int x0), (2, .int x1), (3, .int x2), (4, .int x3), (5, .int x4)] := hl
  refine lv_aload_n hx hb d_M_feed_91 rfl (lv_at hl 2 rfl) ?_
  refine va_get (D := D) (ci := 8) (v := .ref tp) (C := R_M) (T := F_M) (N := 97) hx hb hts fin_M hown hK hP 0 rfl rfl 1 (by decide) (hts _ m_95b40228) (fun _ h9 => h9) rfl d_M_feed_92 ?_
  refine lv_aload_n hx hb d_M_feed_95 rfl (lv_at hl 2 rfl) ?_
  refine va_get (D := D) (ci := 8) (v := .int 0) (C := R_M) (T := F_M) (N := 97) hx hb hts fin_M hown hK hP 0 rfl rfl 2 (by decide) (hts _ m_7895fa0a) (fun _ h9 => h9) rfl d_M_feed_96 ?_
  refine lv_iload hx hb d_M_feed_99 (lv_at hl 1 rfl) ?_
  refine lv_iadd hx hb d_M_feed_101 ?_
  refine xt_numi (y := 7) (by decide) ?_
  refine lv_iload hx hb d_M_feed_102 (lv_at hl 0 rfl) ?_
  refine lv_bipush (v := 24) hx hb d_M_feed_104 (by decide) ?_
  refine lv_bipush (v := 8) hx hb d_M_feed_106 (by decide) ?_
  refine lv_iload hx hb d_M_feed_108 (lv_at hl 1 rfl) ?_
  refine lv_iconst (v := 4) hx hb d_M_feed_110 (by decide) ?_
  refine lv_irem hx hb d_M_feed_111 (by decide) ?_
  refine xt_numi (y := 3) (by decide +kernel) ?_
  refine lv_imul hx hb d_M_feed_112 ?_
  refine xt_numi (y := 24) (by decide) ?_
  refine lv_isub hx hb d_M_feed_113 ?_
  refine xt_numi (y := 0) (by decide) ?_
  refine lv_ishr hx hb d_M_feed_114 ?_
  refine lv_i2b hx hb d_M_feed_115 rfl ?_
  refine va_bast (i := 7) (x := ((x1 >>> (0 &&& 31)) : Int32).toInt8.toInt32) hx hb hK hP hD hS 1 0 rfl rfl (xt_vin (by decide +kernel)) d_M_feed_116 (fun H locs hP hD hS => ?_)
  have hP : va_P D xcl [(h0, .inr (8, [.int 0, .ref tp, .int 0, a3, a4, a5, a6, a7, a8, a9, a10, a11, a12, a13, a14, a15, a16, a17, a18, a19, a20, a21, a22, a23, a24, a25, a26, a27, a28, a29, a30, a31, a32, a33, a34, a35, a36, a37, a38, a39, a40, a41, a42, a43, a44, a45, a46, a47, a48, a49, a50, a51, a52, a53, a54, a55, a56, a57, a58, a59, a60, a61, a62, a63, a64, a65, a66, a67, a68, a69, a70, a71, a72, a73, a74, a75, a76, a77, a78, a79, a80, a81, a82, a83, a84, a85, a86, a87, a88, a89, a90, a91, a92, a93, a94, a95, a96])), (tp, .inl (kt, 65536, .inl (upd (upd (upd (upd (upd (upd (upd (upd f (0 : Int32).toNatClampNeg (vp_nar .byte ((x0 >>> (24 &&& 31)) : Int32).toInt8.toInt32)) (1 : Int32).toNatClampNeg (vp_nar .byte ((x0 >>> (16 &&& 31)) : Int32).toInt8.toInt32)) (2 : Int32).toNatClampNeg (vp_nar .byte ((x0 >>> (8 &&& 31)) : Int32).toInt8.toInt32)) (3 : Int32).toNatClampNeg (vp_nar .byte ((x0 >>> (0 &&& 31)) : Int32).toInt8.toInt32)) (4 : Int32).toNatClampNeg (vp_nar .byte ((x1 >>> (24 &&& 31)) : Int32).toInt8.toInt32)) (5 : Int32).toNatClampNeg (vp_nar .byte ((x1 >>> (16 &&& 31)) : Int32).toInt8.toInt32)) (6 : Int32).toNatClampNeg (vp_nar .byte ((x1 >>> (8 &&& 31)) : Int32).toInt8.toInt32)) (7 : Int32).toNatClampNeg (vp_nar .byte ((x1 >>> (0 &&& 31)) : Int32).toInt8.toInt32))))] H := hP
  have hD : va_D A [(h0, .inr (8, [.int 0, .ref tp, .int 0, a3, a4, a5, a6, a7, a8, a9, a10, a11, a12, a13, a14, a15, a16, a17, a18, a19, a20, a21, a22, a23, a24, a25, a26, a27, a28, a29, a30, a31, a32, a33, a34, a35, a36, a37, a38, a39, a40, a41, a42, a43, a44, a45, a46, a47, a48, a49, a50, a51, a52, a53, a54, a55, a56, a57, a58, a59, a60, a61, a62, a63, a64, a65, a66, a67, a68, a69, a70, a71, a72, a73, a74, a75, a76, a77, a78, a79, a80, a81, a82, a83, a84, a85, a86, a87, a88, a89, a90, a91, a92, a93, a94, a95, a96])), (tp, .inl (kt, 65536, .inl (upd (upd (upd (upd (upd (upd (upd (upd f (0 : Int32).toNatClampNeg (vp_nar .byte ((x0 >>> (24 &&& 31)) : Int32).toInt8.toInt32)) (1 : Int32).toNatClampNeg (vp_nar .byte ((x0 >>> (16 &&& 31)) : Int32).toInt8.toInt32)) (2 : Int32).toNatClampNeg (vp_nar .byte ((x0 >>> (8 &&& 31)) : Int32).toInt8.toInt32)) (3 : Int32).toNatClampNeg (vp_nar .byte ((x0 >>> (0 &&& 31)) : Int32).toInt8.toInt32)) (4 : Int32).toNatClampNeg (vp_nar .byte ((x1 >>> (24 &&& 31)) : Int32).toInt8.toInt32)) (5 : Int32).toNatClampNeg (vp_nar .byte ((x1 >>> (16 &&& 31)) : Int32).toInt8.toInt32)) (6 : Int32).toNatClampNeg (vp_nar .byte ((x1 >>> (8 &&& 31)) : Int32).toInt8.toInt32)) (7 : Int32).toNatClampNeg (vp_nar .byte ((x1 >>> (0 &&& 31)) : Int32).toInt8.toInt32))))] := hD
  refine lv_iinc (v := 8) (k := 1) hx hb d_M_feed_117 hl rfl (by first | decide | rfl) (by decide) rfl (fun ls hl => ?_)
  have hl : lv_has ls 8 [(6, .int 8), (7, .int x1), (0, .ref h0), (1, .int x0), (2, .int x1), (3, .int x2), (4, .int x3), (5, .int x4)] := hl
  refine lv_goto (tgt := 36) hx hb d_M_feed_120 rfl ?_
  refine lv_iload hx hb d_M_feed_36 (lv_at hl 0 rfl) ?_
  refine lv_bipush (v := 20) hx hb d_M_feed_38 (by decide) ?_
  refine lv_icmp_ge (tgt := 123) hx hb d_M_feed_40 rfl (fun h9 => absurd h9 (by decide)) (fun _ => ?_)
  refine lv_iload hx hb d_M_feed_43 (lv_at hl 0 rfl) ?_
  refine lv_iconst (v := 4) hx hb d_M_feed_45 (by decide) ?_
  refine lv_icmp_ge (tgt := 53) hx hb d_M_feed_46 rfl (fun _ => ?_) (fun h9 => absurd h9 (by decide))
  refine lv_iload hx hb d_M_feed_53 (lv_at hl 0 rfl) ?_
  refine lv_bipush (v := 8) hx hb d_M_feed_55 (by decide) ?_
  refine lv_icmp_ge (tgt := 64) hx hb d_M_feed_57 rfl (fun _ => ?_) (fun h9 => absurd h9 (by decide))
  refine lv_iload hx hb d_M_feed_64 (lv_at hl 0 rfl) ?_
  refine lv_bipush (v := 12) hx hb d_M_feed_66 (by decide) ?_
  refine lv_icmp_ge (tgt := 75) hx hb d_M_feed_68 rfl (fun h9 => absurd h9 (by decide)) (fun _ => ?_)
  refine lv_iload_n hx hb d_M_feed_71 rfl (lv_at hl 5 rfl) ?_
  refine lv_goto (tgt := 89) hx hb d_M_feed_72 rfl ?_
  refine lv_istore hx hb d_M_feed_89 hl (by decide) rfl (fun ls hl => ?_)
  have hl : lv_has ls 8 [(7, .int x2), (6, .int 8), (0, .ref h0), (1, .int x0), (2, .int x1), (3, .int x2), (4, .int x3), (5, .int x4)] := hl
  refine lv_aload_n hx hb d_M_feed_91 rfl (lv_at hl 2 rfl) ?_
  refine va_get (D := D) (ci := 8) (v := .ref tp) (C := R_M) (T := F_M) (N := 97) hx hb hts fin_M hown hK hP 0 rfl rfl 1 (by decide) (hts _ m_95b40228) (fun _ h9 => h9) rfl d_M_feed_92 ?_
  refine lv_aload_n hx hb d_M_feed_95 rfl (lv_at hl 2 rfl) ?_
  refine va_get (D := D) (ci := 8) (v := .int 0) (C := R_M) (T := F_M) (N := 97) hx hb hts fin_M hown hK hP 0 rfl rfl 2 (by decide) (hts _ m_7895fa0a) (fun _ h9 => h9) rfl d_M_feed_96 ?_
  refine lv_iload hx hb d_M_feed_99 (lv_at hl 1 rfl) ?_
  refine lv_iadd hx hb d_M_feed_101 ?_
  refine xt_numi (y := 8) (by decide) ?_
  refine lv_iload hx hb d_M_feed_102 (lv_at hl 0 rfl) ?_
  refine lv_bipush (v := 24) hx hb d_M_feed_104 (by decide) ?_
  refine lv_bipush (v := 8) hx hb d_M_feed_106 (by decide) ?_
  refine lv_iload hx hb d_M_feed_108 (lv_at hl 1 rfl) ?_
  refine lv_iconst (v := 4) hx hb d_M_feed_110 (by decide) ?_
  refine lv_irem hx hb d_M_feed_111 (by decide) ?_
  refine xt_numi (y := 0) (by decide +kernel) ?_
  refine lv_imul hx hb d_M_feed_112 ?_
  refine xt_numi (y := 0) (by decide) ?_
  refine lv_isub hx hb d_M_feed_113 ?_
  refine xt_numi (y := 24) (by decide) ?_
  refine lv_ishr hx hb d_M_feed_114 ?_
  refine lv_i2b hx hb d_M_feed_115 rfl ?_
  refine va_bast (i := 8) (x := ((x2 >>> (24 &&& 31)) : Int32).toInt8.toInt32) hx hb hK hP hD hS 1 0 rfl rfl (xt_vin (by decide +kernel)) d_M_feed_116 (fun H locs hP hD hS => ?_)
  have hP : va_P D xcl [(h0, .inr (8, [.int 0, .ref tp, .int 0, a3, a4, a5, a6, a7, a8, a9, a10, a11, a12, a13, a14, a15, a16, a17, a18, a19, a20, a21, a22, a23, a24, a25, a26, a27, a28, a29, a30, a31, a32, a33, a34, a35, a36, a37, a38, a39, a40, a41, a42, a43, a44, a45, a46, a47, a48, a49, a50, a51, a52, a53, a54, a55, a56, a57, a58, a59, a60, a61, a62, a63, a64, a65, a66, a67, a68, a69, a70, a71, a72, a73, a74, a75, a76, a77, a78, a79, a80, a81, a82, a83, a84, a85, a86, a87, a88, a89, a90, a91, a92, a93, a94, a95, a96])), (tp, .inl (kt, 65536, .inl (upd (upd (upd (upd (upd (upd (upd (upd (upd f (0 : Int32).toNatClampNeg (vp_nar .byte ((x0 >>> (24 &&& 31)) : Int32).toInt8.toInt32)) (1 : Int32).toNatClampNeg (vp_nar .byte ((x0 >>> (16 &&& 31)) : Int32).toInt8.toInt32)) (2 : Int32).toNatClampNeg (vp_nar .byte ((x0 >>> (8 &&& 31)) : Int32).toInt8.toInt32)) (3 : Int32).toNatClampNeg (vp_nar .byte ((x0 >>> (0 &&& 31)) : Int32).toInt8.toInt32)) (4 : Int32).toNatClampNeg (vp_nar .byte ((x1 >>> (24 &&& 31)) : Int32).toInt8.toInt32)) (5 : Int32).toNatClampNeg (vp_nar .byte ((x1 >>> (16 &&& 31)) : Int32).toInt8.toInt32)) (6 : Int32).toNatClampNeg (vp_nar .byte ((x1 >>> (8 &&& 31)) : Int32).toInt8.toInt32)) (7 : Int32).toNatClampNeg (vp_nar .byte ((x1 >>> (0 &&& 31)) : Int32).toInt8.toInt32)) (8 : Int32).toNatClampNeg (vp_nar .byte ((x2 >>> (24 &&& 31)) : Int32).toInt8.toInt32))))] H := hP
  have hD : va_D A [(h0, .inr (8, [.int 0, .ref tp, .int 0, a3, a4, a5, a6, a7, a8, a9, a10, a11, a12, a13, a14, a15, a16, a17, a18, a19, a20, a21, a22, a23, a24, a25, a26, a27, a28, a29, a30, a31, a32, a33, a34, a35, a36, a37, a38, a39, a40, a41, a42, a43, a44, a45, a46, a47, a48, a49, a50, a51, a52, a53, a54, a55, a56, a57, a58, a59, a60, a61, a62, a63, a64, a65, a66, a67, a68, a69, a70, a71, a72, a73, a74, a75, a76, a77, a78, a79, a80, a81, a82, a83, a84, a85, a86, a87, a88, a89, a90, a91, a92, a93, a94, a95, a96])), (tp, .inl (kt, 65536, .inl (upd (upd (upd (upd (upd (upd (upd (upd (upd f (0 : Int32).toNatClampNeg (vp_nar .byte ((x0 >>> (24 &&& 31)) : Int32).toInt8.toInt32)) (1 : Int32).toNatClampNeg (vp_nar .byte ((x0 >>> (16 &&& 31)) : Int32).toInt8.toInt32)) (2 : Int32).toNatClampNeg (vp_nar .byte ((x0 >>> (8 &&& 31)) : Int32).toInt8.toInt32)) (3 : Int32).toNatClampNeg (vp_nar .byte ((x0 >>> (0 &&& 31)) : Int32).toInt8.toInt32)) (4 : Int32).toNatClampNeg (vp_nar .byte ((x1 >>> (24 &&& 31)) : Int32).toInt8.toInt32)) (5 : Int32).toNatClampNeg (vp_nar .byte ((x1 >>> (16 &&& 31)) : Int32).toInt8.toInt32)) (6 : Int32).toNatClampNeg (vp_nar .byte ((x1 >>> (8 &&& 31)) : Int32).toInt8.toInt32)) (7 : Int32).toNatClampNeg (vp_nar .byte ((x1 >>> (0 &&& 31)) : Int32).toInt8.toInt32)) (8 : Int32).toNatClampNeg (vp_nar .byte ((x2 >>> (24 &&& 31)) : Int32).toInt8.toInt32))))] := hD
  refine lv_iinc (v := 9) (k := 1) hx hb d_M_feed_117 hl rfl (by first | decide | rfl) (by decide) rfl (fun ls hl => ?_)
  have hl : lv_has ls 8 [(6, .int 9), (7, .int x2), (0, .ref h0), (1, .int x0), (2, .int x1), (3, .int x2), (4, .int x3), (5, .int x4)] := hl
  refine lv_goto (tgt := 36) hx hb d_M_feed_120 rfl ?_
  refine lv_iload hx hb d_M_feed_36 (lv_at hl 0 rfl) ?_
  refine lv_bipush (v := 20) hx hb d_M_feed_38 (by decide) ?_
  refine lv_icmp_ge (tgt := 123) hx hb d_M_feed_40 rfl (fun h9 => absurd h9 (by decide)) (fun _ => ?_)
  refine lv_iload hx hb d_M_feed_43 (lv_at hl 0 rfl) ?_
  refine lv_iconst (v := 4) hx hb d_M_feed_45 (by decide) ?_
  refine lv_icmp_ge (tgt := 53) hx hb d_M_feed_46 rfl (fun _ => ?_) (fun h9 => absurd h9 (by decide))
  refine lv_iload hx hb d_M_feed_53 (lv_at hl 0 rfl) ?_
  refine lv_bipush (v := 8) hx hb d_M_feed_55 (by decide) ?_
  refine lv_icmp_ge (tgt := 64) hx hb d_M_feed_57 rfl (fun _ => ?_) (fun h9 => absurd h9 (by decide))
  refine lv_iload hx hb d_M_feed_64 (lv_at hl 0 rfl) ?_
  refine lv_bipush (v := 12) hx hb d_M_feed_66 (by decide) ?_
  refine lv_icmp_ge (tgt := 75) hx hb d_M_feed_68 rfl (fun h9 => absurd h9 (by decide)) (fun _ => ?_)
  refine lv_iload_n hx hb d_M_feed_71 rfl (lv_at hl 5 rfl) ?_
  refine lv_goto (tgt := 89) hx hb d_M_feed_72 rfl ?_
  refine lv_istore hx hb d_M_feed_89 hl (by decide) rfl (fun ls hl => ?_)
  have hl : lv_has ls 8 [(7, .int x2), (6, .int 9), (0, .ref h0), (1, .int x0), (2, .int x1), (3, .int x2), (4, .int x3), (5, .int x4)] := hl
  refine lv_aload_n hx hb d_M_feed_91 rfl (lv_at hl 2 rfl) ?_
  refine va_get (D := D) (ci := 8) (v := .ref tp) (C := R_M) (T := F_M) (N := 97) hx hb hts fin_M hown hK hP 0 rfl rfl 1 (by decide) (hts _ m_95b40228) (fun _ h9 => h9) rfl d_M_feed_92 ?_
  refine lv_aload_n hx hb d_M_feed_95 rfl (lv_at hl 2 rfl) ?_
  refine va_get (D := D) (ci := 8) (v := .int 0) (C := R_M) (T := F_M) (N := 97) hx hb hts fin_M hown hK hP 0 rfl rfl 2 (by decide) (hts _ m_7895fa0a) (fun _ h9 => h9) rfl d_M_feed_96 ?_
  refine lv_iload hx hb d_M_feed_99 (lv_at hl 1 rfl) ?_
  refine lv_iadd hx hb d_M_feed_101 ?_
  refine xt_numi (y := 9) (by decide) ?_
  refine lv_iload hx hb d_M_feed_102 (lv_at hl 0 rfl) ?_
  refine lv_bipush (v := 24) hx hb d_M_feed_104 (by decide) ?_
  refine lv_bipush (v := 8) hx hb d_M_feed_106 (by decide) ?_
  refine lv_iload hx hb d_M_feed_108 (lv_at hl 1 rfl) ?_
  refine lv_iconst (v := 4) hx hb d_M_feed_110 (by decide) ?_
  refine lv_irem hx hb d_M_feed_111 (by decide) ?_
  refine xt_numi (y := 1) (by decide +kernel) ?_
  refine lv_imul hx hb d_M_feed_112 ?_
  refine xt_numi (y := 8) (by decide) ?_
  refine lv_isub hx hb d_M_feed_113 ?_
  refine xt_numi (y := 16) (by decide) ?_
  refine lv_ishr hx hb d_M_feed_114 ?_
  refine lv_i2b hx hb d_M_feed_115 rfl ?_
  refine va_bast (i := 9) (x := ((x2 >>> (16 &&& 31)) : Int32).toInt8.toInt32) hx hb hK hP hD hS 1 0 rfl rfl (xt_vin (by decide +kernel)) d_M_feed_116 (fun H locs hP hD hS => ?_)
  have hP : va_P D xcl [(h0, .inr (8, [.int 0, .ref tp, .int 0, a3, a4, a5, a6, a7, a8, a9, a10, a11, a12, a13, a14, a15, a16, a17, a18, a19, a20, a21, a22, a23, a24, a25, a26, a27, a28, a29, a30, a31, a32, a33, a34, a35, a36, a37, a38, a39, a40, a41, a42, a43, a44, a45, a46, a47, a48, a49, a50, a51, a52, a53, a54, a55, a56, a57, a58, a59, a60, a61, a62, a63, a64, a65, a66, a67, a68, a69, a70, a71, a72, a73, a74, a75, a76, a77, a78, a79, a80, a81, a82, a83, a84, a85, a86, a87, a88, a89, a90, a91, a92, a93, a94, a95, a96])), (tp, .inl (kt, 65536, .inl (upd (upd (upd (upd (upd (upd (upd (upd (upd (upd f (0 : Int32).toNatClampNeg (vp_nar .byte ((x0 >>> (24 &&& 31)) : Int32).toInt8.toInt32)) (1 : Int32).toNatClampNeg (vp_nar .byte ((x0 >>> (16 &&& 31)) : Int32).toInt8.toInt32)) (2 : Int32).toNatClampNeg (vp_nar .byte ((x0 >>> (8 &&& 31)) : Int32).toInt8.toInt32)) (3 : Int32).toNatClampNeg (vp_nar .byte ((x0 >>> (0 &&& 31)) : Int32).toInt8.toInt32)) (4 : Int32).toNatClampNeg (vp_nar .byte ((x1 >>> (24 &&& 31)) : Int32).toInt8.toInt32)) (5 : Int32).toNatClampNeg (vp_nar .byte ((x1 >>> (16 &&& 31)) : Int32).toInt8.toInt32)) (6 : Int32).toNatClampNeg (vp_nar .byte ((x1 >>> (8 &&& 31)) : Int32).toInt8.toInt32)) (7 : Int32).toNatClampNeg (vp_nar .byte ((x1 >>> (0 &&& 31)) : Int32).toInt8.toInt32)) (8 : Int32).toNatClampNeg (vp_nar .byte ((x2 >>> (24 &&& 31)) : Int32).toInt8.toInt32)) (9 : Int32).toNatClampNeg (vp_nar .byte ((x2 >>> (16 &&& 31)) : Int32).toInt8.toInt32))))] H := hP
  have hD : va_D A [(h0, .inr (8, [.int 0, .ref tp, .int 0, a3, a4, a5, a6, a7, a8, a9, a10, a11, a12, a13, a14, a15, a16, a17, a18, a19, a20, a21, a22, a23, a24, a25, a26, a27, a28, a29, a30, a31, a32, a33, a34, a35, a36, a37, a38, a39, a40, a41, a42, a43, a44, a45, a46, a47, a48, a49, a50, a51, a52, a53, a54, a55, a56, a57, a58, a59, a60, a61, a62, a63, a64, a65, a66, a67, a68, a69, a70, a71, a72, a73, a74, a75, a76, a77, a78, a79, a80, a81, a82, a83, a84, a85, a86, a87, a88, a89, a90, a91, a92, a93, a94, a95, a96])), (tp, .inl (kt, 65536, .inl (upd (upd (upd (upd (upd (upd (upd (upd (upd (upd f (0 : Int32).toNatClampNeg (vp_nar .byte ((x0 >>> (24 &&& 31)) : Int32).toInt8.toInt32)) (1 : Int32).toNatClampNeg (vp_nar .byte ((x0 >>> (16 &&& 31)) : Int32).toInt8.toInt32)) (2 : Int32).toNatClampNeg (vp_nar .byte ((x0 >>> (8 &&& 31)) : Int32).toInt8.toInt32)) (3 : Int32).toNatClampNeg (vp_nar .byte ((x0 >>> (0 &&& 31)) : Int32).toInt8.toInt32)) (4 : Int32).toNatClampNeg (vp_nar .byte ((x1 >>> (24 &&& 31)) : Int32).toInt8.toInt32)) (5 : Int32).toNatClampNeg (vp_nar .byte ((x1 >>> (16 &&& 31)) : Int32).toInt8.toInt32)) (6 : Int32).toNatClampNeg (vp_nar .byte ((x1 >>> (8 &&& 31)) : Int32).toInt8.toInt32)) (7 : Int32).toNatClampNeg (vp_nar .byte ((x1 >>> (0 &&& 31)) : Int32).toInt8.toInt32)) (8 : Int32).toNatClampNeg (vp_nar .byte ((x2 >>> (24 &&& 31)) : Int32).toInt8.toInt32)) (9 : Int32).toNatClampNeg (vp_nar .byte ((x2 >>> (16 &&& 31)) : Int32).toInt8.toInt32))))] := hD
  refine lv_iinc (v := 10) (k := 1) hx hb d_M_feed_117 hl rfl (by first | decide | rfl) (by decide) rfl (fun ls hl => ?_)
  have hl : lv_has ls 8 [(6, .int 10), (7, .int x2), (0, .ref h0), (1, .int x0), (2, .int x1), (3, .int x2), (4, .int x3), (5, .int x4)] := hl
  refine lv_goto (tgt := 36) hx hb d_M_feed_120 rfl ?_
  refine lv_iload hx hb d_M_feed_36 (lv_at hl 0 rfl) ?_
  refine lv_bipush (v := 20) hx hb d_M_feed_38 (by decide) ?_
  refine lv_icmp_ge (tgt := 123) hx hb d_M_feed_40 rfl (fun h9 => absurd h9 (by decide)) (fun _ => ?_)
  refine lv_iload hx hb d_M_feed_43 (lv_at hl 0 rfl) ?_
  refine lv_iconst (v := 4) hx hb d_M_feed_45 (by decide) ?_
  refine lv_icmp_ge (tgt := 53) hx hb d_M_feed_46 rfl (fun _ => ?_) (fun h9 => absurd h9 (by decide))
  refine lv_iload hx hb d_M_feed_53 (lv_at hl 0 rfl) ?_
  refine lv_bipush (v := 8) hx hb d_M_feed_55 (by decide) ?_
  refine lv_icmp_ge (tgt := 64) hx hb d_M_feed_57 rfl (fun _ => ?_) (fun h9 => absurd h9 (by decide))
  refine lv_iload hx hb d_M_feed_64 (lv_at hl 0 rfl) ?_
  refine lv_bipush (v := 12) hx hb d_M_feed_66 (by decide) ?_
  refine lv_icmp_ge (tgt := 75) hx hb d_M_feed_68 rfl (fun h9 => absurd h9 (by decide)) (fun _ => ?_)
  refine lv_iload_n hx hb d_M_feed_71 rfl (lv_at hl 5 rfl) ?_
  refine lv_goto (tgt := 89) hx hb d_M_feed_72 rfl ?_
  refine lv_istore hx hb d_M_feed_89 hl (by decide) rfl (fun ls hl => ?_)
  have hl : lv_has ls 8 [(7, .int x2), (6, .int 10), (0, .ref h0), (1, .int x0), (2, .int x1), (3, .int x2), (4, .int x3), (5, .int x4)] := hl
  refine lv_aload_n hx hb d_M_feed_91 rfl (lv_at hl 2 rfl) ?_
  refine va_get (D := D) (ci := 8) (v := .ref tp) (C := R_M) (T := F_M) (N := 97) hx hb hts fin_M hown hK hP 0 rfl rfl 1 (by decide) (hts _ m_95b40228) (fun _ h9 => h9) rfl d_M_feed_92 ?_
  refine lv_aload_n hx hb d_M_feed_95 rfl (lv_at hl 2 rfl) ?_
  refine va_get (D := D) (ci := 8) (v := .int 0) (C := R_M) (T := F_M) (N := 97) hx hb hts fin_M hown hK hP 0 rfl rfl 2 (by decide) (hts _ m_7895fa0a) (fun _ h9 => h9) rfl d_M_feed_96 ?_
  refine lv_iload hx hb d_M_feed_99 (lv_at hl 1 rfl) ?_
  refine lv_iadd hx hb d_M_feed_101 ?_
  refine xt_numi (y := 10) (by decide) ?_
  refine lv_iload hx hb d_M_feed_102 (lv_at hl 0 rfl) ?_
  refine lv_bipush (v := 24) hx hb d_M_feed_104 (by decide) ?_
  refine lv_bipush (v := 8) hx hb d_M_feed_106 (by decide) ?_
  refine lv_iload hx hb d_M_feed_108 (lv_at hl 1 rfl) ?_
  refine lv_iconst (v := 4) hx hb d_M_feed_110 (by decide) ?_
  refine lv_irem hx hb d_M_feed_111 (by decide) ?_
  refine xt_numi (y := 2) (by decide +kernel) ?_
  refine lv_imul hx hb d_M_feed_112 ?_
  refine xt_numi (y := 16) (by decide) ?_
  refine lv_isub hx hb d_M_feed_113 ?_
  refine xt_numi (y := 8) (by decide) ?_
  refine lv_ishr hx hb d_M_feed_114 ?_
  refine lv_i2b hx hb d_M_feed_115 rfl ?_
  refine va_bast (i := 10) (x := ((x2 >>> (8 &&& 31)) : Int32).toInt8.toInt32) hx hb hK hP hD hS 1 0 rfl rfl (xt_vin (by decide +kernel)) d_M_feed_116 (fun H locs hP hD hS => ?_)
  have hP : va_P D xcl [(h0, .inr (8, [.int 0, .ref tp, .int 0, a3, a4, a5, a6, a7, a8, a9, a10, a11, a12, a13, a14, a15, a16, a17, a18, a19, a20, a21, a22, a23, a24, a25, a26, a27, a28, a29, a30, a31, a32, a33, a34, a35, a36, a37, a38, a39, a40, a41, a42, a43, a44, a45, a46, a47, a48, a49, a50, a51, a52, a53, a54, a55, a56, a57, a58, a59, a60, a61, a62, a63, a64, a65, a66, a67, a68, a69, a70, a71, a72, a73, a74, a75, a76, a77, a78, a79, a80, a81, a82, a83, a84, a85, a86, a87, a88, a89, a90, a91, a92, a93, a94, a95, a96])), (tp, .inl (kt, 65536, .inl (upd (upd (upd (upd (upd (upd (upd (upd (upd (upd (upd f (0 : Int32).toNatClampNeg (vp_nar .byte ((x0 >>> (24 &&& 31)) : Int32).toInt8.toInt32)) (1 : Int32).toNatClampNeg (vp_nar .byte ((x0 >>> (16 &&& 31)) : Int32).toInt8.toInt32)) (2 : Int32).toNatClampNeg (vp_nar .byte ((x0 >>> (8 &&& 31)) : Int32).toInt8.toInt32)) (3 : Int32).toNatClampNeg (vp_nar .byte ((x0 >>> (0 &&& 31)) : Int32).toInt8.toInt32)) (4 : Int32).toNatClampNeg (vp_nar .byte ((x1 >>> (24 &&& 31)) : Int32).toInt8.toInt32)) (5 : Int32).toNatClampNeg (vp_nar .byte ((x1 >>> (16 &&& 31)) : Int32).toInt8.toInt32)) (6 : Int32).toNatClampNeg (vp_nar .byte ((x1 >>> (8 &&& 31)) : Int32).toInt8.toInt32)) (7 : Int32).toNatClampNeg (vp_nar .byte ((x1 >>> (0 &&& 31)) : Int32).toInt8.toInt32)) (8 : Int32).toNatClampNeg (vp_nar .byte ((x2 >>> (24 &&& 31)) : Int32).toInt8.toInt32)) (9 : Int32).toNatClampNeg (vp_nar .byte ((x2 >>> (16 &&& 31)) : Int32).toInt8.toInt32)) (10 : Int32).toNatClampNeg (vp_nar .byte ((x2 >>> (8 &&& 31)) : Int32).toInt8.toInt32))))] H := hP
  have hD : va_D A [(h0, .inr (8, [.int 0, .ref tp, .int 0, a3, a4, a5, a6, a7, a8, a9, a10, a11, a12, a13, a14, a15, a16, a17, a18, a19, a20, a21, a22, a23, a24, a25, a26, a27, a28, a29, a30, a31, a32, a33, a34, a35, a36, a37, a38, a39, a40, a41, a42, a43, a44, a45, a46, a47, a48, a49, a50, a51, a52, a53, a54, a55, a56, a57, a58, a59, a60, a61, a62, a63, a64, a65, a66, a67, a68, a69, a70, a71, a72, a73, a74, a75, a76, a77, a78, a79, a80, a81, a82, a83, a84, a85, a86, a87, a88, a89, a90, a91, a92, a93, a94, a95, a96])), (tp, .inl (kt, 65536, .inl (upd (upd (upd (upd (upd (upd (upd (upd (upd (upd (upd f (0 : Int32).toNatClampNeg (vp_nar .byte ((x0 >>> (24 &&& 31)) : Int32).toInt8.toInt32)) (1 : Int32).toNatClampNeg (vp_nar .byte ((x0 >>> (16 &&& 31)) : Int32).toInt8.toInt32)) (2 : Int32).toNatClampNeg (vp_nar .byte ((x0 >>> (8 &&& 31)) : Int32).toInt8.toInt32)) (3 : Int32).toNatClampNeg (vp_nar .byte ((x0 >>> (0 &&& 31)) : Int32).toInt8.toInt32)) (4 : Int32).toNatClampNeg (vp_nar .byte ((x1 >>> (24 &&& 31)) : Int32).toInt8.toInt32)) (5 : Int32).toNatClampNeg (vp_nar .byte ((x1 >>> (16 &&& 31)) : Int32).toInt8.toInt32)) (6 : Int32).toNatClampNeg (vp_nar .byte ((x1 >>> (8 &&& 31)) : Int32).toInt8.toInt32)) (7 : Int32).toNatClampNeg (vp_nar .byte ((x1 >>> (0 &&& 31)) : Int32).toInt8.toInt32)) (8 : Int32).toNatClampNeg (vp_nar .byte ((x2 >>> (24 &&& 31)) : Int32).toInt8.toInt32)) (9 : Int32).toNatClampNeg (vp_nar .byte ((x2 >>> (16 &&& 31)) : Int32).toInt8.toInt32)) (10 : Int32).toNatClampNeg (vp_nar .byte ((x2 >>> (8 &&& 31)) : Int32).toInt8.toInt32))))] := hD
  refine lv_iinc (v := 11) (k := 1) hx hb d_M_feed_117 hl rfl (by first | decide | rfl) (by decide) rfl (fun ls hl => ?_)
  have hl : lv_has ls 8 [(6, .int 11), (7, .int x2), (0, .ref h0), (1, .int x0), (2, .int x1), (3, .int x2), (4, .int x3), (5, .int x4)] := hl
  refine lv_goto (tgt := 36) hx hb d_M_feed_120 rfl ?_
  refine lv_iload hx hb d_M_feed_36 (lv_at hl 0 rfl) ?_
  refine lv_bipush (v := 20) hx hb d_M_feed_38 (by decide) ?_
  refine lv_icmp_ge (tgt := 123) hx hb d_M_feed_40 rfl (fun h9 => absurd h9 (by decide)) (fun _ => ?_)
  refine lv_iload hx hb d_M_feed_43 (lv_at hl 0 rfl) ?_
  refine lv_iconst (v := 4) hx hb d_M_feed_45 (by decide) ?_
  refine lv_icmp_ge (tgt := 53) hx hb d_M_feed_46 rfl (fun _ => ?_) (fun h9 => absurd h9 (by decide))
  refine lv_iload hx hb d_M_feed_53 (lv_at hl 0 rfl) ?_
  refine lv_bipush (v := 8) hx hb d_M_feed_55 (by decide) ?_
  refine lv_icmp_ge (tgt := 64) hx hb d_M_feed_57 rfl (fun _ => ?_) (fun h9 => absurd h9 (by decide))
  refine lv_iload hx hb d_M_feed_64 (lv_at hl 0 rfl) ?_
  refine lv_bipush (v := 12) hx hb d_M_feed_66 (by decide) ?_
  refine lv_icmp_ge (tgt := 75) hx hb d_M_feed_68 rfl (fun h9 => absurd h9 (by decide)) (fun _ => ?_)
  refine lv_iload_n hx hb d_M_feed_71 rfl (lv_at hl 5 rfl) ?_
  refine lv_goto (tgt := 89) hx hb d_M_feed_72 rfl ?_
  refine lv_istore hx hb d_M_feed_89 hl (by decide) rfl (fun ls hl => ?_)
  have hl : lv_has ls 8 [(7, .int x2), (6, .int 11), (0, .ref h0), (1, .int x0), (2, .int x1), (3, .int x2), (4, .int x3), (5, .int x4)] := hl
  refine lv_aload_n hx hb d_M_feed_91 rfl (lv_at hl 2 rfl) ?_
  refine va_get (D := D) (ci := 8) (v := .ref tp) (C := R_M) (T := F_M) (N := 97) hx hb hts fin_M hown hK hP 0 rfl rfl 1 (by decide) (hts _ m_95b40228) (fun _ h9 => h9) rfl d_M_feed_92 ?_
  refine lv_aload_n hx hb d_M_feed_95 rfl (lv_at hl 2 rfl) ?_
  refine va_get (D := D) (ci := 8) (v := .int 0) (C := R_M) (T := F_M) (N := 97) hx hb hts fin_M hown hK hP 0 rfl rfl 2 (by decide) (hts _ m_7895fa0a) (fun _ h9 => h9) rfl d_M_feed_96 ?_
  refine lv_iload hx hb d_M_feed_99 (lv_at hl 1 rfl) ?_
  refine lv_iadd hx hb d_M_feed_101 ?_
  refine xt_numi (y := 11) (by decide) ?_
  refine lv_iload hx hb d_M_feed_102 (lv_at hl 0 rfl) ?_
  refine lv_bipush (v := 24) hx hb d_M_feed_104 (by decide) ?_
  refine lv_bipush (v := 8) hx hb d_M_feed_106 (by decide) ?_
  refine lv_iload hx hb d_M_feed_108 (lv_at hl 1 rfl) ?_
  refine lv_iconst (v := 4) hx hb d_M_feed_110 (by decide) ?_
  refine lv_irem hx hb d_M_feed_111 (by decide) ?_
  refine xt_numi (y := 3) (by decide +kernel) ?_
  refine lv_imul hx hb d_M_feed_112 ?_
  refine xt_numi (y := 24) (by decide) ?_
  refine lv_isub hx hb d_M_feed_113 ?_
  refine xt_numi (y := 0) (by decide) ?_
  refine lv_ishr hx hb d_M_feed_114 ?_
  refine lv_i2b hx hb d_M_feed_115 rfl ?_
  refine va_bast (i := 11) (x := ((x2 >>> (0 &&& 31)) : Int32).toInt8.toInt32) hx hb hK hP hD hS 1 0 rfl rfl (xt_vin (by decide +kernel)) d_M_feed_116 (fun H locs hP hD hS => ?_)
  have hP : va_P D xcl [(h0, .inr (8, [.int 0, .ref tp, .int 0, a3, a4, a5, a6, a7, a8, a9, a10, a11, a12, a13, a14, a15, a16, a17, a18, a19, a20, a21, a22, a23, a24, a25, a26, a27, a28, a29, a30, a31, a32, a33, a34, a35, a36, a37, a38, a39, a40, a41, a42, a43, a44, a45, a46, a47, a48, a49, a50, a51, a52, a53, a54, a55, a56, a57, a58, a59, a60, a61, a62, a63, a64, a65, a66, a67, a68, a69, a70, a71, a72, a73, a74, a75, a76, a77, a78, a79, a80, a81, a82, a83, a84, a85, a86, a87, a88, a89, a90, a91, a92, a93, a94, a95, a96])), (tp, .inl (kt, 65536, .inl (upd (upd (upd (upd (upd (upd (upd (upd (upd (upd (upd (upd f (0 : Int32).toNatClampNeg (vp_nar .byte ((x0 >>> (24 &&& 31)) : Int32).toInt8.toInt32)) (1 : Int32).toNatClampNeg (vp_nar .byte ((x0 >>> (16 &&& 31)) : Int32).toInt8.toInt32)) (2 : Int32).toNatClampNeg (vp_nar .byte ((x0 >>> (8 &&& 31)) : Int32).toInt8.toInt32)) (3 : Int32).toNatClampNeg (vp_nar .byte ((x0 >>> (0 &&& 31)) : Int32).toInt8.toInt32)) (4 : Int32).toNatClampNeg (vp_nar .byte ((x1 >>> (24 &&& 31)) : Int32).toInt8.toInt32)) (5 : Int32).toNatClampNeg (vp_nar .byte ((x1 >>> (16 &&& 31)) : Int32).toInt8.toInt32)) (6 : Int32).toNatClampNeg (vp_nar .byte ((x1 >>> (8 &&& 31)) : Int32).toInt8.toInt32)) (7 : Int32).toNatClampNeg (vp_nar .byte ((x1 >>> (0 &&& 31)) : Int32).toInt8.toInt32)) (8 : Int32).toNatClampNeg (vp_nar .byte ((x2 >>> (24 &&& 31)) : Int32).toInt8.toInt32)) (9 : Int32).toNatClampNeg (vp_nar .byte ((x2 >>> (16 &&& 31)) : Int32).toInt8.toInt32)) (10 : Int32).toNatClampNeg (vp_nar .byte ((x2 >>> (8 &&& 31)) : Int32).toInt8.toInt32)) (11 : Int32).toNatClampNeg (vp_nar .byte ((x2 >>> (0 &&& 31)) : Int32).toInt8.toInt32))))] H := hP
  have hD : va_D A [(h0, .inr (8, [.int 0, .ref tp, .int 0, a3, a4, a5, a6, a7, a8, a9, a10, a11, a12, a13, a14, a15, a16, a17, a18, a19, a20, a21, a22, a23, a24, a25, a26, a27, a28, a29, a30, a31, a32, a33, a34, a35, a36, a37, a38, a39, a40, a41, a42, a43, a44, a45, a46, a47, a48, a49, a50, a51, a52, a53, a54, a55, a56, a57, a58, a59, a60, a61, a62, a63, a64, a65, a66, a67, a68, a69, a70, a71, a72, a73, a74, a75, a76, a77, a78, a79, a80, a81, a82, a83, a84, a85, a86, a87, a88, a89, a90, a91, a92, a93, a94, a95, a96])), (tp, .inl (kt, 65536, .inl (upd (upd (upd (upd (upd (upd (upd (upd (upd (upd (upd (upd f (0 : Int32).toNatClampNeg (vp_nar .byte ((x0 >>> (24 &&& 31)) : Int32).toInt8.toInt32)) (1 : Int32).toNatClampNeg (vp_nar .byte ((x0 >>> (16 &&& 31)) : Int32).toInt8.toInt32)) (2 : Int32).toNatClampNeg (vp_nar .byte ((x0 >>> (8 &&& 31)) : Int32).toInt8.toInt32)) (3 : Int32).toNatClampNeg (vp_nar .byte ((x0 >>> (0 &&& 31)) : Int32).toInt8.toInt32)) (4 : Int32).toNatClampNeg (vp_nar .byte ((x1 >>> (24 &&& 31)) : Int32).toInt8.toInt32)) (5 : Int32).toNatClampNeg (vp_nar .byte ((x1 >>> (16 &&& 31)) : Int32).toInt8.toInt32)) (6 : Int32).toNatClampNeg (vp_nar .byte ((x1 >>> (8 &&& 31)) : Int32).toInt8.toInt32)) (7 : Int32).toNatClampNeg (vp_nar .byte ((x1 >>> (0 &&& 31)) : Int32).toInt8.toInt32)) (8 : Int32).toNatClampNeg (vp_nar .byte ((x2 >>> (24 &&& 31)) : Int32).toInt8.toInt32)) (9 : Int32).toNatClampNeg (vp_nar .byte ((x2 >>> (16 &&& 31)) : Int32).toInt8.toInt32)) (10 : Int32).toNatClampNeg (vp_nar .byte ((x2 >>> (8 &&& 31)) : Int32).toInt8.toInt32)) (11 : Int32).toNatClampNeg (vp_nar .byte ((x2 >>> (0 &&& 31)) : Int32).toInt8.toInt32))))] := hD
  refine lv_iinc (v := 12) (k := 1) hx hb d_M_feed_117 hl rfl (by first | decide | rfl) (by decide) rfl (fun ls hl => ?_)
  have hl : lv_has ls 8 [(6, .int 12), (7, .int x2), (0, .ref h0), (1, .int x0), (2, .int x1), (3, .int x2), (4, .int x3), (5, .int x4)] := hl
  refine lv_goto (tgt := 36) hx hb d_M_feed_120 rfl ?_
  refine lv_iload hx hb d_M_feed_36 (lv_at hl 0 rfl) ?_
  refine lv_bipush (v := 20) hx hb d_M_feed_38 (by decide) ?_
  refine lv_icmp_ge (tgt := 123) hx hb d_M_feed_40 rfl (fun h9 => absurd h9 (by decide)) (fun _ => ?_)
  refine lv_iload hx hb d_M_feed_43 (lv_at hl 0 rfl) ?_
  refine lv_iconst (v := 4) hx hb d_M_feed_45 (by decide) ?_
  refine lv_icmp_ge (tgt := 53) hx hb d_M_feed_46 rfl (fun _ => ?_) (fun h9 => absurd h9 (by decide))
  refine lv_iload hx hb d_M_feed_53 (lv_at hl 0 rfl) ?_
  refine lv_bipush (v := 8) hx hb d_M_feed_55 (by decide) ?_
  refine lv_icmp_ge (tgt := 64) hx hb d_M_feed_57 rfl (fun _ => ?_) (fun h9 => absurd h9 (by decide))
  refine lv_iload hx hb d_M_feed_64 (lv_at hl 0 rfl) ?_
  refine lv_bipush (v := 12) hx hb d_M_feed_66 (by decide) ?_
  refine lv_icmp_ge (tgt := 75) hx hb d_M_feed_68 rfl (fun _ => ?_) (fun h9 => absurd h9 (by decide))
  refine lv_iload hx hb d_M_feed_75 (lv_at hl 0 rfl) ?_
  refine lv_bipush (v := 16) hx hb d_M_feed_77 (by decide) ?_
  refine lv_icmp_ge (tgt := 87) hx hb d_M_feed_79 rfl (fun h9 => absurd h9 (by decide)) (fun _ => ?_)
  refine lv_iload hx hb d_M_feed_82 (lv_at hl 6 rfl) ?_
  refine lv_goto (tgt := 89) hx hb d_M_feed_84 rfl ?_
  refine lv_istore hx hb d_M_feed_89 hl (by decide) rfl (fun ls hl => ?_)
  have hl : lv_has ls 8 [(7, .int x3), (6, .int 12), (0, .ref h0), (1, .int x0), (2, .int x1), (3, .int x2), (4, .int x3), (5, .int x4)] := hl
  refine lv_aload_n hx hb d_M_feed_91 rfl (lv_at hl 2 rfl) ?_
  refine va_get (D := D) (ci := 8) (v := .ref tp) (C := R_M) (T := F_M) (N := 97) hx hb hts fin_M hown hK hP 0 rfl rfl 1 (by decide) (hts _ m_95b40228) (fun _ h9 => h9) rfl d_M_feed_92 ?_
  refine lv_aload_n hx hb d_M_feed_95 rfl (lv_at hl 2 rfl) ?_
  refine va_get (D := D) (ci := 8) (v := .int 0) (C := R_M) (T := F_M) (N := 97) hx hb hts fin_M hown hK hP 0 rfl rfl 2 (by decide) (hts _ m_7895fa0a) (fun _ h9 => h9) rfl d_M_feed_96 ?_
  refine lv_iload hx hb d_M_feed_99 (lv_at hl 1 rfl) ?_
  refine lv_iadd hx hb d_M_feed_101 ?_
  refine xt_numi (y := 12) (by decide) ?_
  refine lv_iload hx hb d_M_feed_102 (lv_at hl 0 rfl) ?_
  refine lv_bipush (v := 24) hx hb d_M_feed_104 (by decide) ?_
  refine lv_bipush (v := 8) hx hb d_M_feed_106 (by decide) ?_
  refine lv_iload hx hb d_M_feed_108 (lv_at hl 1 rfl) ?_
  refine lv_iconst (v := 4) hx hb d_M_feed_110 (by decide) ?_
  refine lv_irem hx hb d_M_feed_111 (by decide) ?_
  refine xt_numi (y := 0) (by decide +kernel) ?_
  refine lv_imul hx hb d_M_feed_112 ?_
  refine xt_numi (y := 0) (by decide) ?_
  refine lv_isub hx hb d_M_feed_113 ?_
  refine xt_numi (y := 24) (by decide) ?_
  refine lv_ishr hx hb d_M_feed_114 ?_
  refine lv_i2b hx hb d_M_feed_115 rfl ?_
  refine va_bast (i := 12) (x := ((x3 >>> (24 &&& 31)) : Int32).toInt8.toInt32) hx hb hK hP hD hS 1 0 rfl rfl (xt_vin (by decide +kernel)) d_M_feed_116 (fun H locs hP hD hS => ?_)
  have hP : va_P D xcl [(h0, .inr (8, [.int 0, .ref tp, .int 0, a3, a4, a5, a6, a7, a8, a9, a10, a11, a12, a13, a14, a15, a16, a17, a18, a19, a20, a21, a22, a23, a24, a25, a26, a27, a28, a29, a30, a31, a32, a33, a34, a35, a36, a37, a38, a39, a40, a41, a42, a43, a44, a45, a46, a47, a48, a49, a50, a51, a52, a53, a54, a55, a56, a57, a58, a59, a60, a61, a62, a63, a64, a65, a66, a67, a68, a69, a70, a71, a72, a73, a74, a75, a76, a77, a78, a79, a80, a81, a82, a83, a84, a85, a86, a87, a88, a89, a90, a91, a92, a93, a94, a95, a96])), (tp, .inl (kt, 65536, .inl (upd (upd (upd (upd (upd (upd (upd (upd (upd (upd (upd (upd (upd f (0 : Int32).toNatClampNeg (vp_nar .byte ((x0 >>> (24 &&& 31)) : Int32).toInt8.toInt32)) (1 : Int32).toNatClampNeg (vp_nar .byte ((x0 >>> (16 &&& 31)) : Int32).toInt8.toInt32)) (2 : Int32).toNatClampNeg (vp_nar .byte ((x0 >>> (8 &&& 31)) : Int32).toInt8.toInt32)) (3 : Int32).toNatClampNeg (vp_nar .byte ((x0 >>> (0 &&& 31)) : Int32).toInt8.toInt32)) (4 : Int32).toNatClampNeg (vp_nar .byte ((x1 >>> (24 &&& 31)) : Int32).toInt8.toInt32)) (5 : Int32).toNatClampNeg (vp_nar .byte ((x1 >>> (16 &&& 31)) : Int32).toInt8.toInt32)) (6 : Int32).toNatClampNeg (vp_nar .byte ((x1 >>> (8 &&& 31)) : Int32).toInt8.toInt32)) (7 : Int32).toNatClampNeg (vp_nar .byte ((x1 >>> (0 &&& 31)) : Int32).toInt8.toInt32)) (8 : Int32).toNatClampNeg (vp_nar .byte ((x2 >>> (24 &&& 31)) : Int32).toInt8.toInt32)) (9 : Int32).toNatClampNeg (vp_nar .byte ((x2 >>> (16 &&& 31)) : Int32).toInt8.toInt32)) (10 : Int32).toNatClampNeg (vp_nar .byte ((x2 >>> (8 &&& 31)) : Int32).toInt8.toInt32)) (11 : Int32).toNatClampNeg (vp_nar .byte ((x2 >>> (0 &&& 31)) : Int32).toInt8.toInt32)) (12 : Int32).toNatClampNeg (vp_nar .byte ((x3 >>> (24 &&& 31)) : Int32).toInt8.toInt32))))] H := hP
  have hD : va_D A [(h0, .inr (8, [.int 0, .ref tp, .int 0, a3, a4, a5, a6, a7, a8, a9, a10, a11, a12, a13, a14, a15, a16, a17, a18, a19, a20, a21, a22, a23, a24, a25, a26, a27, a28, a29, a30, a31, a32, a33, a34, a35, a36, a37, a38, a39, a40, a41, a42, a43, a44, a45, a46, a47, a48, a49, a50, a51, a52, a53, a54, a55, a56, a57, a58, a59, a60, a61, a62, a63, a64, a65, a66, a67, a68, a69, a70, a71, a72, a73, a74, a75, a76, a77, a78, a79, a80, a81, a82, a83, a84, a85, a86, a87, a88, a89, a90, a91, a92, a93, a94, a95, a96])), (tp, .inl (kt, 65536, .inl (upd (upd (upd (upd (upd (upd (upd (upd (upd (upd (upd (upd (upd f (0 : Int32).toNatClampNeg (vp_nar .byte ((x0 >>> (24 &&& 31)) : Int32).toInt8.toInt32)) (1 : Int32).toNatClampNeg (vp_nar .byte ((x0 >>> (16 &&& 31)) : Int32).toInt8.toInt32)) (2 : Int32).toNatClampNeg (vp_nar .byte ((x0 >>> (8 &&& 31)) : Int32).toInt8.toInt32)) (3 : Int32).toNatClampNeg (vp_nar .byte ((x0 >>> (0 &&& 31)) : Int32).toInt8.toInt32)) (4 : Int32).toNatClampNeg (vp_nar .byte ((x1 >>> (24 &&& 31)) : Int32).toInt8.toInt32)) (5 : Int32).toNatClampNeg (vp_nar .byte ((x1 >>> (16 &&& 31)) : Int32).toInt8.toInt32)) (6 : Int32).toNatClampNeg (vp_nar .byte ((x1 >>> (8 &&& 31)) : Int32).toInt8.toInt32)) (7 : Int32).toNatClampNeg (vp_nar .byte ((x1 >>> (0 &&& 31)) : Int32).toInt8.toInt32)) (8 : Int32).toNatClampNeg (vp_nar .byte ((x2 >>> (24 &&& 31)) : Int32).toInt8.toInt32)) (9 : Int32).toNatClampNeg (vp_nar .byte ((x2 >>> (16 &&& 31)) : Int32).toInt8.toInt32)) (10 : Int32).toNatClampNeg (vp_nar .byte ((x2 >>> (8 &&& 31)) : Int32).toInt8.toInt32)) (11 : Int32).toNatClampNeg (vp_nar .byte ((x2 >>> (0 &&& 31)) : Int32).toInt8.toInt32)) (12 : Int32).toNatClampNeg (vp_nar .byte ((x3 >>> (24 &&& 31)) : Int32).toInt8.toInt32))))] := hD
  refine lv_iinc (v := 13) (k := 1) hx hb d_M_feed_117 hl rfl (by first | decide | rfl) (by decide) rfl (fun ls hl => ?_)
  have hl : lv_has ls 8 [(6, .int 13), (7, .int x3), (0, .ref h0), (1, .int x0), (2, .int x1), (3, .int x2), (4, .int x3), (5, .int x4)] := hl
  refine lv_goto (tgt := 36) hx hb d_M_feed_120 rfl ?_
  refine lv_iload hx hb d_M_feed_36 (lv_at hl 0 rfl) ?_
  refine lv_bipush (v := 20) hx hb d_M_feed_38 (by decide) ?_
  refine lv_icmp_ge (tgt := 123) hx hb d_M_feed_40 rfl (fun h9 => absurd h9 (by decide)) (fun _ => ?_)
  refine lv_iload hx hb d_M_feed_43 (lv_at hl 0 rfl) ?_
  refine lv_iconst (v := 4) hx hb d_M_feed_45 (by decide) ?_
  refine lv_icmp_ge (tgt := 53) hx hb d_M_feed_46 rfl (fun _ => ?_) (fun h9 => absurd h9 (by decide))
  refine lv_iload hx hb d_M_feed_53 (lv_at hl 0 rfl) ?_
  refine lv_bipush (v := 8) hx hb d_M_feed_55 (by decide) ?_
  refine lv_icmp_ge (tgt := 64) hx hb d_M_feed_57 rfl (fun _ => ?_) (fun h9 => absurd h9 (by decide))
  refine lv_iload hx hb d_M_feed_64 (lv_at hl 0 rfl) ?_
  refine lv_bipush (v := 12) hx hb d_M_feed_66 (by decide) ?_
  refine lv_icmp_ge (tgt := 75) hx hb d_M_feed_68 rfl (fun _ => ?_) (fun h9 => absurd h9 (by decide))
  refine lv_iload hx hb d_M_feed_75 (lv_at hl 0 rfl) ?_
  refine lv_bipush (v := 16) hx hb d_M_feed_77 (by decide) ?_
  refine lv_icmp_ge (tgt := 87) hx hb d_M_feed_79 rfl (fun h9 => absurd h9 (by decide)) (fun _ => ?_)
  refine lv_iload hx hb d_M_feed_82 (lv_at hl 6 rfl) ?_
  refine lv_goto (tgt := 89) hx hb d_M_feed_84 rfl ?_
  refine lv_istore hx hb d_M_feed_89 hl (by decide) rfl (fun ls hl => ?_)
  have hl : lv_has ls 8 [(7, .int x3), (6, .int 13), (0, .ref h0), (1, .int x0), (2, .int x1), (3, .int x2), (4, .int x3), (5, .int x4)] := hl
  refine lv_aload_n hx hb d_M_feed_91 rfl (lv_at hl 2 rfl) ?_
  refine va_get (D := D) (ci := 8) (v := .ref tp) (C := R_M) (T := F_M) (N := 97) hx hb hts fin_M hown hK hP 0 rfl rfl 1 (by decide) (hts _ m_95b40228) (fun _ h9 => h9) rfl d_M_feed_92 ?_
  refine lv_aload_n hx hb d_M_feed_95 rfl (lv_at hl 2 rfl) ?_
  refine va_get (D := D) (ci := 8) (v := .int 0) (C := R_M) (T := F_M) (N := 97) hx hb hts fin_M hown hK hP 0 rfl rfl 2 (by decide) (hts _ m_7895fa0a) (fun _ h9 => h9) rfl d_M_feed_96 ?_
  refine lv_iload hx hb d_M_feed_99 (lv_at hl 1 rfl) ?_
  refine lv_iadd hx hb d_M_feed_101 ?_
  refine xt_numi (y := 13) (by decide) ?_
  refine lv_iload hx hb d_M_feed_102 (lv_at hl 0 rfl) ?_
  refine lv_bipush (v := 24) hx hb d_M_feed_104 (by decide) ?_
  refine lv_bipush (v := 8) hx hb d_M_feed_106 (by decide) ?_
  refine lv_iload hx hb d_M_feed_108 (lv_at hl 1 rfl) ?_
  refine lv_iconst (v := 4) hx hb d_M_feed_110 (by decide) ?_
  refine lv_irem hx hb d_M_feed_111 (by decide) ?_
  refine xt_numi (y := 1) (by decide +kernel) ?_
  refine lv_imul hx hb d_M_feed_112 ?_
  refine xt_numi (y := 8) (by decide) ?_
  refine lv_isub hx hb d_M_feed_113 ?_
  refine xt_numi (y := 16) (by decide) ?_
  refine lv_ishr hx hb d_M_feed_114 ?_
  refine lv_i2b hx hb d_M_feed_115 rfl ?_
  refine va_bast (i := 13) (x := ((x3 >>> (16 &&& 31)) : Int32).toInt8.toInt32) hx hb hK hP hD hS 1 0 rfl rfl (xt_vin (by decide +kernel)) d_M_feed_116 (fun H locs hP hD hS => ?_)
  have hP : va_P D xcl [(h0, .inr (8, [.int 0, .ref tp, .int 0, a3, a4, a5, a6, a7, a8, a9, a10, a11, a12, a13, a14, a15, a16, a17, a18, a19, a20, a21, a22, a23, a24, a25, a26, a27, a28, a29, a30, a31, a32, a33, a34, a35, a36, a37, a38, a39, a40, a41, a42, a43, a44, a45, a46, a47, a48, a49, a50, a51, a52, a53, a54, a55, a56, a57, a58, a59, a60, a61, a62, a63, a64, a65, a66, a67, a68, a69, a70, a71, a72, a73, a74, a75, a76, a77, a78, a79, a80, a81, a82, a83, a84, a85, a86, a87, a88, a89, a90, a91, a92, a93, a94, a95, a96])), (tp, .inl (kt, 65536, .inl (upd (upd (upd (upd (upd (upd (upd (upd (upd (upd (upd (upd (upd (upd f (0 : Int32).toNatClampNeg (vp_nar .byte ((x0 >>> (24 &&& 31)) : Int32).toInt8.toInt32)) (1 : Int32).toNatClampNeg (vp_nar .byte ((x0 >>> (16 &&& 31)) : Int32).toInt8.toInt32)) (2 : Int32).toNatClampNeg (vp_nar .byte ((x0 >>> (8 &&& 31)) : Int32).toInt8.toInt32)) (3 : Int32).toNatClampNeg (vp_nar .byte ((x0 >>> (0 &&& 31)) : Int32).toInt8.toInt32)) (4 : Int32).toNatClampNeg (vp_nar .byte ((x1 >>> (24 &&& 31)) : Int32).toInt8.toInt32)) (5 : Int32).toNatClampNeg (vp_nar .byte ((x1 >>> (16 &&& 31)) : Int32).toInt8.toInt32)) (6 : Int32).toNatClampNeg (vp_nar .byte ((x1 >>> (8 &&& 31)) : Int32).toInt8.toInt32)) (7 : Int32).toNatClampNeg (vp_nar .byte ((x1 >>> (0 &&& 31)) : Int32).toInt8.toInt32)) (8 : Int32).toNatClampNeg (vp_nar .byte ((x2 >>> (24 &&& 31)) : Int32).toInt8.toInt32)) (9 : Int32).toNatClampNeg (vp_nar .byte ((x2 >>> (16 &&& 31)) : Int32).toInt8.toInt32)) (10 : Int32).toNatClampNeg (vp_nar .byte ((x2 >>> (8 &&& 31)) : Int32).toInt8.toInt32)) (11 : Int32).toNatClampNeg (vp_nar .byte ((x2 >>> (0 &&& 31)) : Int32).toInt8.toInt32)) (12 : Int32).toNatClampNeg (vp_nar .byte ((x3 >>> (24 &&& 31)) : Int32).toInt8.toInt32)) (13 : Int32).toNatClampNeg (vp_nar .byte ((x3 >>> (16 &&& 31)) : Int32).toInt8.toInt32))))] H := hP
  have hD : va_D A [(h0, .inr (8, [.int 0, .ref tp, .int 0, a3, a4, a5, a6, a7, a8, a9, a10, a11, a12, a13, a14, a15, a16, a17, a18, a19, a20, a21, a22, a23, a24, a25, a26, a27, a28, a29, a30, a31, a32, a33, a34, a35, a36, a37, a38, a39, a40, a41, a42, a43, a44, a45, a46, a47, a48, a49, a50, a51, a52, a53, a54, a55, a56, a57, a58, a59, a60, a61, a62, a63, a64, a65, a66, a67, a68, a69, a70, a71, a72, a73, a74, a75, a76, a77, a78, a79, a80, a81, a82, a83, a84, a85, a86, a87, a88, a89, a90, a91, a92, a93, a94, a95, a96])), (tp, .inl (kt, 65536, .inl (upd (upd (upd (upd (upd (upd (upd (upd (upd (upd (upd (upd (upd (upd f (0 : Int32).toNatClampNeg (vp_nar .byte ((x0 >>> (24 &&& 31)) : Int32).toInt8.toInt32)) (1 : Int32).toNatClampNeg (vp_nar .byte ((x0 >>> (16 &&& 31)) : Int32).toInt8.toInt32)) (2 : Int32).toNatClampNeg (vp_nar .byte ((x0 >>> (8 &&& 31)) : Int32).toInt8.toInt32)) (3 : Int32).toNatClampNeg (vp_nar .byte ((x0 >>> (0 &&& 31)) : Int32).toInt8.toInt32)) (4 : Int32).toNatClampNeg (vp_nar .byte ((x1 >>> (24 &&& 31)) : Int32).toInt8.toInt32)) (5 : Int32).toNatClampNeg (vp_nar .byte ((x1 >>> (16 &&& 31)) : Int32).toInt8.toInt32)) (6 : Int32).toNatClampNeg (vp_nar .byte ((x1 >>> (8 &&& 31)) : Int32).toInt8.toInt32)) (7 : Int32).toNatClampNeg (vp_nar .byte ((x1 >>> (0 &&& 31)) : Int32).toInt8.toInt32)) (8 : Int32).toNatClampNeg (vp_nar .byte ((x2 >>> (24 &&& 31)) : Int32).toInt8.toInt32)) (9 : Int32).toNatClampNeg (vp_nar .byte ((x2 >>> (16 &&& 31)) : Int32).toInt8.toInt32)) (10 : Int32).toNatClampNeg (vp_nar .byte ((x2 >>> (8 &&& 31)) : Int32).toInt8.toInt32)) (11 : Int32).toNatClampNeg (vp_nar .byte ((x2 >>> (0 &&& 31)) : Int32).toInt8.toInt32)) (12 : Int32).toNatClampNeg (vp_nar .byte ((x3 >>> (24 &&& 31)) : Int32).toInt8.toInt32)) (13 : Int32).toNatClampNeg (vp_nar .byte ((x3 >>> (16 &&& 31)) : Int32).toInt8.toInt32))))] := hD
  refine lv_iinc (v := 14) (k := 1) hx hb d_M_feed_117 hl rfl (by first | decide | rfl) (by decide) rfl (fun ls hl => ?_)
  have hl : lv_has ls 8 [(6, .int 14), (7, .int x3), (0, .ref h0), (1, .int x0), (2, .int x1), (3, .int x2), (4, .int x3), (5, .int x4)] := hl
  refine lv_goto (tgt := 36) hx hb d_M_feed_120 rfl ?_
  refine lv_iload hx hb d_M_feed_36 (lv_at hl 0 rfl) ?_
  refine lv_bipush (v := 20) hx hb d_M_feed_38 (by decide) ?_
  refine lv_icmp_ge (tgt := 123) hx hb d_M_feed_40 rfl (fun h9 => absurd h9 (by decide)) (fun _ => ?_)
  refine lv_iload hx hb d_M_feed_43 (lv_at hl 0 rfl) ?_
  refine lv_iconst (v := 4) hx hb d_M_feed_45 (by decide) ?_
  refine lv_icmp_ge (tgt := 53) hx hb d_M_feed_46 rfl (fun _ => ?_) (fun h9 => absurd h9 (by decide))
  refine lv_iload hx hb d_M_feed_53 (lv_at hl 0 rfl) ?_
  refine lv_bipush (v := 8) hx hb d_M_feed_55 (by decide) ?_
  refine lv_icmp_ge (tgt := 64) hx hb d_M_feed_57 rfl (fun _ => ?_) (fun h9 => absurd h9 (by decide))
  refine lv_iload hx hb d_M_feed_64 (lv_at hl 0 rfl) ?_
  refine lv_bipush (v := 12) hx hb d_M_feed_66 (by decide) ?_
  refine lv_icmp_ge (tgt := 75) hx hb d_M_feed_68 rfl (fun _ => ?_) (fun h9 => absurd h9 (by decide))
  refine lv_iload hx hb d_M_feed_75 (lv_at hl 0 rfl) ?_
  refine lv_bipush (v := 16) hx hb d_M_feed_77 (by decide) ?_
  refine lv_icmp_ge (tgt := 87) hx hb d_M_feed_79 rfl (fun h9 => absurd h9 (by decide)) (fun _ => ?_)
  refine lv_iload hx hb d_M_feed_82 (lv_at hl 6 rfl) ?_
  refine lv_goto (tgt := 89) hx hb d_M_feed_84 rfl ?_
  refine lv_istore hx hb d_M_feed_89 hl (by decide) rfl (fun ls hl => ?_)
  have hl : lv_has ls 8 [(7, .int x3), (6, .int 14), (0, .ref h0), (1, .int x0), (2, .int x1), (3, .int x2), (4, .int x3), (5, .int x4)] := hl
  refine lv_aload_n hx hb d_M_feed_91 rfl (lv_at hl 2 rfl) ?_
  refine va_get (D := D) (ci := 8) (v := .ref tp) (C := R_M) (T := F_M) (N := 97) hx hb hts fin_M hown hK hP 0 rfl rfl 1 (by decide) (hts _ m_95b40228) (fun _ h9 => h9) rfl d_M_feed_92 ?_
  refine lv_aload_n hx hb d_M_feed_95 rfl (lv_at hl 2 rfl) ?_
  refine va_get (D := D) (ci := 8) (v := .int 0) (C := R_M) (T := F_M) (N := 97) hx hb hts fin_M hown hK hP 0 rfl rfl 2 (by decide) (hts _ m_7895fa0a) (fun _ h9 => h9) rfl d_M_feed_96 ?_
  refine lv_iload hx hb d_M_feed_99 (lv_at hl 1 rfl) ?_
  refine lv_iadd hx hb d_M_feed_101 ?_
  refine xt_numi (y := 14) (by decide) ?_
  refine lv_iload hx hb d_M_feed_102 (lv_at hl 0 rfl) ?_
  refine lv_bipush (v := 24) hx hb d_M_feed_104 (by decide) ?_
  refine lv_bipush (v := 8) hx hb d_M_feed_106 (by decide) ?_
  refine lv_iload hx hb d_M_feed_108 (lv_at hl 1 rfl) ?_
  refine lv_iconst (v := 4) hx hb d_M_feed_110 (by decide) ?_
  refine lv_irem hx hb d_M_feed_111 (by decide) ?_
  refine xt_numi (y := 2) (by decide +kernel) ?_
  refine lv_imul hx hb d_M_feed_112 ?_
  refine xt_numi (y := 16) (by decide) ?_
  refine lv_isub hx hb d_M_feed_113 ?_
  refine xt_numi (y := 8) (by decide) ?_
  refine lv_ishr hx hb d_M_feed_114 ?_
  refine lv_i2b hx hb d_M_feed_115 rfl ?_
  refine va_bast (i := 14) (x := ((x3 >>> (8 &&& 31)) : Int32).toInt8.toInt32) hx hb hK hP hD hS 1 0 rfl rfl (xt_vin (by decide +kernel)) d_M_feed_116 (fun H locs hP hD hS => ?_)
  have hP : va_P D xcl [(h0, .inr (8, [.int 0, .ref tp, .int 0, a3, a4, a5, a6, a7, a8, a9, a10, a11, a12, a13, a14, a15, a16, a17, a18, a19, a20, a21, a22, a23, a24, a25, a26, a27, a28, a29, a30, a31, a32, a33, a34, a35, a36, a37, a38, a39, a40, a41, a42, a43, a44, a45, a46, a47, a48, a49, a50, a51, a52, a53, a54, a55, a56, a57, a58, a59, a60, a61, a62, a63, a64, a65, a66, a67, a68, a69, a70, a71, a72, a73, a74, a75, a76, a77, a78, a79, a80, a81, a82, a83, a84, a85, a86, a87, a88, a89, a90, a91, a92, a93, a94, a95, a96])), (tp, .inl (kt, 65536, .inl (upd (upd (upd (upd (upd (upd (upd (upd (upd (upd (upd (upd (upd (upd (upd f (0 : Int32).toNatClampNeg (vp_nar .byte ((x0 >>> (24 &&& 31)) : Int32).toInt8.toInt32)) (1 : Int32).toNatClampNeg (vp_nar .byte ((x0 >>> (16 &&& 31)) : Int32).toInt8.toInt32)) (2 : Int32).toNatClampNeg (vp_nar .byte ((x0 >>> (8 &&& 31)) : Int32).toInt8.toInt32)) (3 : Int32).toNatClampNeg (vp_nar .byte ((x0 >>> (0 &&& 31)) : Int32).toInt8.toInt32)) (4 : Int32).toNatClampNeg (vp_nar .byte ((x1 >>> (24 &&& 31)) : Int32).toInt8.toInt32)) (5 : Int32).toNatClampNeg (vp_nar .byte ((x1 >>> (16 &&& 31)) : Int32).toInt8.toInt32)) (6 : Int32).toNatClampNeg (vp_nar .byte ((x1 >>> (8 &&& 31)) : Int32).toInt8.toInt32)) (7 : Int32).toNatClampNeg (vp_nar .byte ((x1 >>> (0 &&& 31)) : Int32).toInt8.toInt32)) (8 : Int32).toNatClampNeg (vp_nar .byte ((x2 >>> (24 &&& 31)) : Int32).toInt8.toInt32)) (9 : Int32).toNatClampNeg (vp_nar .byte ((x2 >>> (16 &&& 31)) : Int32).toInt8.toInt32)) (10 : Int32).toNatClampNeg (vp_nar .byte ((x2 >>> (8 &&& 31)) : Int32).toInt8.toInt32)) (11 : Int32).toNatClampNeg (vp_nar .byte ((x2 >>> (0 &&& 31)) : Int32).toInt8.toInt32)) (12 : Int32).toNatClampNeg (vp_nar .byte ((x3 >>> (24 &&& 31)) : Int32).toInt8.toInt32)) (13 : Int32).toNatClampNeg (vp_nar .byte ((x3 >>> (16 &&& 31)) : Int32).toInt8.toInt32)) (14 : Int32).toNatClampNeg (vp_nar .byte ((x3 >>> (8 &&& 31)) : Int32).toInt8.toInt32))))] H := hP
  have hD : va_D A [(h0, .inr (8, [.int 0, .ref tp, .int 0, a3, a4, a5, a6, a7, a8, a9, a10, a11, a12, a13, a14, a15, a16, a17, a18, a19, a20, a21, a22, a23, a24, a25, a26, a27, a28, a29, a30, a31, a32, a33, a34, a35, a36, a37, a38, a39, a40, a41, a42, a43, a44, a45, a46, a47, a48, a49, a50, a51, a52, a53, a54, a55, a56, a57, a58, a59, a60, a61, a62, a63, a64, a65, a66, a67, a68, a69, a70, a71, a72, a73, a74, a75, a76, a77, a78, a79, a80, a81, a82, a83, a84, a85, a86, a87, a88, a89, a90, a91, a92, a93, a94, a95, a96])), (tp, .inl (kt, 65536, .inl (upd (upd (upd (upd (upd (upd (upd (upd (upd (upd (upd (upd (upd (upd (upd f (0 : Int32).toNatClampNeg (vp_nar .byte ((x0 >>> (24 &&& 31)) : Int32).toInt8.toInt32)) (1 : Int32).toNatClampNeg (vp_nar .byte ((x0 >>> (16 &&& 31)) : Int32).toInt8.toInt32)) (2 : Int32).toNatClampNeg (vp_nar .byte ((x0 >>> (8 &&& 31)) : Int32).toInt8.toInt32)) (3 : Int32).toNatClampNeg (vp_nar .byte ((x0 >>> (0 &&& 31)) : Int32).toInt8.toInt32)) (4 : Int32).toNatClampNeg (vp_nar .byte ((x1 >>> (24 &&& 31)) : Int32).toInt8.toInt32)) (5 : Int32).toNatClampNeg (vp_nar .byte ((x1 >>> (16 &&& 31)) : Int32).toInt8.toInt32)) (6 : Int32).toNatClampNeg (vp_nar .byte ((x1 >>> (8 &&& 31)) : Int32).toInt8.toInt32)) (7 : Int32).toNatClampNeg (vp_nar .byte ((x1 >>> (0 &&& 31)) : Int32).toInt8.toInt32)) (8 : Int32).toNatClampNeg (vp_nar .byte ((x2 >>> (24 &&& 31)) : Int32).toInt8.toInt32)) (9 : Int32).toNatClampNeg (vp_nar .byte ((x2 >>> (16 &&& 31)) : Int32).toInt8.toInt32)) (10 : Int32).toNatClampNeg (vp_nar .byte ((x2 >>> (8 &&& 31)) : Int32).toInt8.toInt32)) (11 : Int32).toNatClampNeg (vp_nar .byte ((x2 >>> (0 &&& 31)) : Int32).toInt8.toInt32)) (12 : Int32).toNatClampNeg (vp_nar .byte ((x3 >>> (24 &&& 31)) : Int32).toInt8.toInt32)) (13 : Int32).toNatClampNeg (vp_nar .byte ((x3 >>> (16 &&& 31)) : Int32).toInt8.toInt32)) (14 : Int32).toNatClampNeg (vp_nar .byte ((x3 >>> (8 &&& 31)) : Int32).toInt8.toInt32))))] := hD
  refine lv_iinc (v := 15) (k := 1) hx hb d_M_feed_117 hl rfl (by first | decide | rfl) (by decide) rfl (fun ls hl => ?_)
  have hl : lv_has ls 8 [(6, .int 15), (7, .int x3), (0, .ref h0), (1, .int x0), (2, .int x1), (3, .int x2), (4, .int x3), (5, .int x4)] := hl
  refine lv_goto (tgt := 36) hx hb d_M_feed_120 rfl ?_
  refine lv_iload hx hb d_M_feed_36 (lv_at hl 0 rfl) ?_
  refine lv_bipush (v := 20) hx hb d_M_feed_38 (by decide) ?_
  refine lv_icmp_ge (tgt := 123) hx hb d_M_feed_40 rfl (fun h9 => absurd h9 (by decide)) (fun _ => ?_)
  refine lv_iload hx hb d_M_feed_43 (lv_at hl 0 rfl) ?_
  refine lv_iconst (v := 4) hx hb d_M_feed_45 (by decide) ?_
  refine lv_icmp_ge (tgt := 53) hx hb d_M_feed_46 rfl (fun _ => ?_) (fun h9 => absurd h9 (by decide))
  refine lv_iload hx hb d_M_feed_53 (lv_at hl 0 rfl) ?_
  refine lv_bipush (v := 8) hx hb d_M_feed_55 (by decide) ?_
  refine lv_icmp_ge (tgt := 64) hx hb d_M_feed_57 rfl (fun _ => ?_) (fun h9 => absurd h9 (by decide))
  refine lv_iload hx hb d_M_feed_64 (lv_at hl 0 rfl) ?_
  refine lv_bipush (v := 12) hx hb d_M_feed_66 (by decide) ?_
  refine lv_icmp_ge (tgt := 75) hx hb d_M_feed_68 rfl (fun _ => ?_) (fun h9 => absurd h9 (by decide))
  refine lv_iload hx hb d_M_feed_75 (lv_at hl 0 rfl) ?_
  refine lv_bipush (v := 16) hx hb d_M_feed_77 (by decide) ?_
  refine lv_icmp_ge (tgt := 87) hx hb d_M_feed_79 rfl (fun h9 => absurd h9 (by decide)) (fun _ => ?_)
  refine lv_iload hx hb d_M_feed_82 (lv_at hl 6 rfl) ?_
  refine lv_goto (tgt := 89) hx hb d_M_feed_84 rfl ?_
  refine lv_istore hx hb d_M_feed_89 hl (by decide) rfl (fun ls hl => ?_)
  have hl : lv_has ls 8 [(7, .int x3), (6, .int 15), (0, .ref h0), (1, .int x0), (2, .int x1), (3, .int x2), (4, .int x3), (5, .int x4)] := hl
  refine lv_aload_n hx hb d_M_feed_91 rfl (lv_at hl 2 rfl) ?_
  refine va_get (D := D) (ci := 8) (v := .ref tp) (C := R_M) (T := F_M) (N := 97) hx hb hts fin_M hown hK hP 0 rfl rfl 1 (by decide) (hts _ m_95b40228) (fun _ h9 => h9) rfl d_M_feed_92 ?_
  refine lv_aload_n hx hb d_M_feed_95 rfl (lv_at hl 2 rfl) ?_
  refine va_get (D := D) (ci := 8) (v := .int 0) (C := R_M) (T := F_M) (N := 97) hx hb hts fin_M hown hK hP 0 rfl rfl 2 (by decide) (hts _ m_7895fa0a) (fun _ h9 => h9) rfl d_M_feed_96 ?_
  refine lv_iload hx hb d_M_feed_99 (lv_at hl 1 rfl) ?_
  refine lv_iadd hx hb d_M_feed_101 ?_
  refine xt_numi (y := 15) (by decide) ?_
  refine lv_iload hx hb d_M_feed_102 (lv_at hl 0 rfl) ?_
  refine lv_bipush (v := 24) hx hb d_M_feed_104 (by decide) ?_
  refine lv_bipush (v := 8) hx hb d_M_feed_106 (by decide) ?_
  refine lv_iload hx hb d_M_feed_108 (lv_at hl 1 rfl) ?_
  refine lv_iconst (v := 4) hx hb d_M_feed_110 (by decide) ?_
  refine lv_irem hx hb d_M_feed_111 (by decide) ?_
  refine xt_numi (y := 3) (by decide +kernel) ?_
  refine lv_imul hx hb d_M_feed_112 ?_
  refine xt_numi (y := 24) (by decide) ?_
  refine lv_isub hx hb d_M_feed_113 ?_
  refine xt_numi (y := 0) (by decide) ?_
  refine lv_ishr hx hb d_M_feed_114 ?_
  refine lv_i2b hx hb d_M_feed_115 rfl ?_
  refine va_bast (i := 15) (x := ((x3 >>> (0 &&& 31)) : Int32).toInt8.toInt32) hx hb hK hP hD hS 1 0 rfl rfl (xt_vin (by decide +kernel)) d_M_feed_116 (fun H locs hP hD hS => ?_)
  have hP : va_P D xcl [(h0, .inr (8, [.int 0, .ref tp, .int 0, a3, a4, a5, a6, a7, a8, a9, a10, a11, a12, a13, a14, a15, a16, a17, a18, a19, a20, a21, a22, a23, a24, a25, a26, a27, a28, a29, a30, a31, a32, a33, a34, a35, a36, a37, a38, a39, a40, a41, a42, a43, a44, a45, a46, a47, a48, a49, a50, a51, a52, a53, a54, a55, a56, a57, a58, a59, a60, a61, a62, a63, a64, a65, a66, a67, a68, a69, a70, a71, a72, a73, a74, a75, a76, a77, a78, a79, a80, a81, a82, a83, a84, a85, a86, a87, a88, a89, a90, a91, a92, a93, a94, a95, a96])), (tp, .inl (kt, 65536, .inl (upd (upd (upd (upd (upd (upd (upd (upd (upd (upd (upd (upd (upd (upd (upd (upd f (0 : Int32).toNatClampNeg (vp_nar .byte ((x0 >>> (24 &&& 31)) : Int32).toInt8.toInt32)) (1 : Int32).toNatClampNeg (vp_nar .byte ((x0 >>> (16 &&& 31)) : Int32).toInt8.toInt32)) (2 : Int32).toNatClampNeg (vp_nar .byte ((x0 >>> (8 &&& 31)) : Int32).toInt8.toInt32)) (3 : Int32).toNatClampNeg (vp_nar .byte ((x0 >>> (0 &&& 31)) : Int32).toInt8.toInt32)) (4 : Int32).toNatClampNeg (vp_nar .byte ((x1 >>> (24 &&& 31)) : Int32).toInt8.toInt32)) (5 : Int32).toNatClampNeg (vp_nar .byte ((x1 >>> (16 &&& 31)) : Int32).toInt8.toInt32)) (6 : Int32).toNatClampNeg (vp_nar .byte ((x1 >>> (8 &&& 31)) : Int32).toInt8.toInt32)) (7 : Int32).toNatClampNeg (vp_nar .byte ((x1 >>> (0 &&& 31)) : Int32).toInt8.toInt32)) (8 : Int32).toNatClampNeg (vp_nar .byte ((x2 >>> (24 &&& 31)) : Int32).toInt8.toInt32)) (9 : Int32).toNatClampNeg (vp_nar .byte ((x2 >>> (16 &&& 31)) : Int32).toInt8.toInt32)) (10 : Int32).toNatClampNeg (vp_nar .byte ((x2 >>> (8 &&& 31)) : Int32).toInt8.toInt32)) (11 : Int32).toNatClampNeg (vp_nar .byte ((x2 >>> (0 &&& 31)) : Int32).toInt8.toInt32)) (12 : Int32).toNatClampNeg (vp_nar .byte ((x3 >>> (24 &&& 31)) : Int32).toInt8.toInt32)) (13 : Int32).toNatClampNeg (vp_nar .byte ((x3 >>> (16 &&& 31)) : Int32).toInt8.toInt32)) (14 : Int32).toNatClampNeg (vp_nar .byte ((x3 >>> (8 &&& 31)) : Int32).toInt8.toInt32)) (15 : Int32).toNatClampNeg (vp_nar .byte ((x3 >>> (0 &&& 31)) : Int32).toInt8.toInt32))))] H := hP
  have hD : va_D A [(h0, .inr (8, [.int 0, .ref tp, .int 0, a3, a4, a5, a6, a7, a8, a9, a10, a11, a12, a13, a14, a15, a16, a17, a18, a19, a20, a21, a22, a23, a24, a25, a26, a27, a28, a29, a30, a31, a32, a33, a34, a35, a36, a37, a38, a39, a40, a41, a42, a43, a44, a45, a46, a47, a48, a49, a50, a51, a52, a53, a54, a55, a56, a57, a58, a59, a60, a61, a62, a63, a64, a65, a66, a67, a68, a69, a70, a71, a72, a73, a74, a75, a76, a77, a78, a79, a80, a81, a82, a83, a84, a85, a86, a87, a88, a89, a90, a91, a92, a93, a94, a95, a96])), (tp, .inl (kt, 65536, .inl (upd (upd (upd (upd (upd (upd (upd (upd (upd (upd (upd (upd (upd (upd (upd (upd f (0 : Int32).toNatClampNeg (vp_nar .byte ((x0 >>> (24 &&& 31)) : Int32).toInt8.toInt32)) (1 : Int32).toNatClampNeg (vp_nar .byte ((x0 >>> (16 &&& 31)) : Int32).toInt8.toInt32)) (2 : Int32).toNatClampNeg (vp_nar .byte ((x0 >>> (8 &&& 31)) : Int32).toInt8.toInt32)) (3 : Int32).toNatClampNeg (vp_nar .byte ((x0 >>> (0 &&& 31)) : Int32).toInt8.toInt32)) (4 : Int32).toNatClampNeg (vp_nar .byte ((x1 >>> (24 &&& 31)) : Int32).toInt8.toInt32)) (5 : Int32).toNatClampNeg (vp_nar .byte ((x1 >>> (16 &&& 31)) : Int32).toInt8.toInt32)) (6 : Int32).toNatClampNeg (vp_nar .byte ((x1 >>> (8 &&& 31)) : Int32).toInt8.toInt32)) (7 : Int32).toNatClampNeg (vp_nar .byte ((x1 >>> (0 &&& 31)) : Int32).toInt8.toInt32)) (8 : Int32).toNatClampNeg (vp_nar .byte ((x2 >>> (24 &&& 31)) : Int32).toInt8.toInt32)) (9 : Int32).toNatClampNeg (vp_nar .byte ((x2 >>> (16 &&& 31)) : Int32).toInt8.toInt32)) (10 : Int32).toNatClampNeg (vp_nar .byte ((x2 >>> (8 &&& 31)) : Int32).toInt8.toInt32)) (11 : Int32).toNatClampNeg (vp_nar .byte ((x2 >>> (0 &&& 31)) : Int32).toInt8.toInt32)) (12 : Int32).toNatClampNeg (vp_nar .byte ((x3 >>> (24 &&& 31)) : Int32).toInt8.toInt32)) (13 : Int32).toNatClampNeg (vp_nar .byte ((x3 >>> (16 &&& 31)) : Int32).toInt8.toInt32)) (14 : Int32).toNatClampNeg (vp_nar .byte ((x3 >>> (8 &&& 31)) : Int32).toInt8.toInt32)) (15 : Int32).toNatClampNeg (vp_nar .byte ((x3 >>> (0 &&& 31)) : Int32).toInt8.toInt32))))] := hD
  refine lv_iinc (v := 16) (k := 1) hx hb d_M_feed_117 hl rfl (by first | decide | rfl) (by decide) rfl (fun ls hl => ?_)
  have hl : lv_has ls 8 [(6, .int 16), (7, .int x3), (0, .ref h0), (1, .int x0), (2, .int x1), (3, .int x2), (4, .int x3), (5, .int x4)] := hl
  refine lv_goto (tgt := 36) hx hb d_M_feed_120 rfl ?_
  refine lv_iload hx hb d_M_feed_36 (lv_at hl 0 rfl) ?_
  refine lv_bipush (v := 20) hx hb d_M_feed_38 (by decide) ?_
  refine lv_icmp_ge (tgt := 123) hx hb d_M_feed_40 rfl (fun h9 => absurd h9 (by decide)) (fun _ => ?_)
  refine lv_iload hx hb d_M_feed_43 (lv_at hl 0 rfl) ?_
  refine lv_iconst (v := 4) hx hb d_M_feed_45 (by decide) ?_
  refine lv_icmp_ge (tgt := 53) hx hb d_M_feed_46 rfl (fun _ => ?_) (fun h9 => absurd h9 (by decide))
  refine lv_iload hx hb d_M_feed_53 (lv_at hl 0 rfl) ?_
  refine lv_bipush (v := 8) hx hb d_M_feed_55 (by decide) ?_
  refine lv_icmp_ge (tgt := 64) hx hb d_M_feed_57 rfl (fun _ => ?_) (fun h9 => absurd h9 (by decide))
  refine lv_iload hx hb d_M_feed_64 (lv_at hl 0 rfl) ?_
  refine lv_bipush (v := 12) hx hb d_M_feed_66 (by decide) ?_
  refine lv_icmp_ge (tgt := 75) hx hb d_M_feed_68 rfl (fun _ => ?_) (fun h9 => absurd h9 (by decide))
  refine lv_iload hx hb d_M_feed_75 (lv_at hl 0 rfl) ?_
  refine lv_bipush (v := 16) hx hb d_M_feed_77 (by decide) ?_
  refine lv_icmp_ge (tgt := 87) hx hb d_M_feed_79 rfl (fun _ => ?_) (fun h9 => absurd h9 (by decide))
  refine lv_iload hx hb d_M_feed_87 (lv_at hl 7 rfl) ?_
  refine lv_istore hx hb d_M_feed_89 hl (by decide) rfl (fun ls hl => ?_)
  have hl : lv_has ls 8 [(7, .int x4), (6, .int 16), (0, .ref h0), (1, .int x0), (2, .int x1), (3, .int x2), (4, .int x3), (5, .int x4)] := hl
  refine lv_aload_n hx hb d_M_feed_91 rfl (lv_at hl 2 rfl) ?_
  refine va_get (D := D) (ci := 8) (v := .ref tp) (C := R_M) (T := F_M) (N := 97) hx hb hts fin_M hown hK hP 0 rfl rfl 1 (by decide) (hts _ m_95b40228) (fun _ h9 => h9) rfl d_M_feed_92 ?_
  refine lv_aload_n hx hb d_M_feed_95 rfl (lv_at hl 2 rfl) ?_
  refine va_get (D := D) (ci := 8) (v := .int 0) (C := R_M) (T := F_M) (N := 97) hx hb hts fin_M hown hK hP 0 rfl rfl 2 (by decide) (hts _ m_7895fa0a) (fun _ h9 => h9) rfl d_M_feed_96 ?_
  refine lv_iload hx hb d_M_feed_99 (lv_at hl 1 rfl) ?_
  refine lv_iadd hx hb d_M_feed_101 ?_
  refine xt_numi (y := 16) (by decide) ?_
  refine lv_iload hx hb d_M_feed_102 (lv_at hl 0 rfl) ?_
  refine lv_bipush (v := 24) hx hb d_M_feed_104 (by decide) ?_
  refine lv_bipush (v := 8) hx hb d_M_feed_106 (by decide) ?_
  refine lv_iload hx hb d_M_feed_108 (lv_at hl 1 rfl) ?_
  refine lv_iconst (v := 4) hx hb d_M_feed_110 (by decide) ?_
  refine lv_irem hx hb d_M_feed_111 (by decide) ?_
  refine xt_numi (y := 0) (by decide +kernel) ?_
  refine lv_imul hx hb d_M_feed_112 ?_
  refine xt_numi (y := 0) (by decide) ?_
  refine lv_isub hx hb d_M_feed_113 ?_
  refine xt_numi (y := 24) (by decide) ?_
  refine lv_ishr hx hb d_M_feed_114 ?_
  refine lv_i2b hx hb d_M_feed_115 rfl ?_
  refine va_bast (i := 16) (x := ((x4 >>> (24 &&& 31)) : Int32).toInt8.toInt32) hx hb hK hP hD hS 1 0 rfl rfl (xt_vin (by decide +kernel)) d_M_feed_116 (fun H locs hP hD hS => ?_)
  have hP : va_P D xcl [(h0, .inr (8, [.int 0, .ref tp, .int 0, a3, a4, a5, a6, a7, a8, a9, a10, a11, a12, a13, a14, a15, a16, a17, a18, a19, a20, a21, a22, a23, a24, a25, a26, a27, a28, a29, a30, a31, a32, a33, a34, a35, a36, a37, a38, a39, a40, a41, a42, a43, a44, a45, a46, a47, a48, a49, a50, a51, a52, a53, a54, a55, a56, a57, a58, a59, a60, a61, a62, a63, a64, a65, a66, a67, a68, a69, a70, a71, a72, a73, a74, a75, a76, a77, a78, a79, a80, a81, a82, a83, a84, a85, a86, a87, a88, a89, a90, a91, a92, a93, a94, a95, a96])), (tp, .inl (kt, 65536, .inl (upd (upd (upd (upd (upd (upd (upd (upd (upd (upd (upd (upd (upd (upd (upd (upd (upd f (0 : Int32).toNatClampNeg (vp_nar .byte ((x0 >>> (24 &&& 31)) : Int32).toInt8.toInt32)) (1 : Int32).toNatClampNeg (vp_nar .byte ((x0 >>> (16 &&& 31)) : Int32).toInt8.toInt32)) (2 : Int32).toNatClampNeg (vp_nar .byte ((x0 >>> (8 &&& 31)) : Int32).toInt8.toInt32)) (3 : Int32).toNatClampNeg (vp_nar .byte ((x0 >>> (0 &&& 31)) : Int32).toInt8.toInt32)) (4 : Int32).toNatClampNeg (vp_nar .byte ((x1 >>> (24 &&& 31)) : Int32).toInt8.toInt32)) (5 : Int32).toNatClampNeg (vp_nar .byte ((x1 >>> (16 &&& 31)) : Int32).toInt8.toInt32)) (6 : Int32).toNatClampNeg (vp_nar .byte ((x1 >>> (8 &&& 31)) : Int32).toInt8.toInt32)) (7 : Int32).toNatClampNeg (vp_nar .byte ((x1 >>> (0 &&& 31)) : Int32).toInt8.toInt32)) (8 : Int32).toNatClampNeg (vp_nar .byte ((x2 >>> (24 &&& 31)) : Int32).toInt8.toInt32)) (9 : Int32).toNatClampNeg (vp_nar .byte ((x2 >>> (16 &&& 31)) : Int32).toInt8.toInt32)) (10 : Int32).toNatClampNeg (vp_nar .byte ((x2 >>> (8 &&& 31)) : Int32).toInt8.toInt32)) (11 : Int32).toNatClampNeg (vp_nar .byte ((x2 >>> (0 &&& 31)) : Int32).toInt8.toInt32)) (12 : Int32).toNatClampNeg (vp_nar .byte ((x3 >>> (24 &&& 31)) : Int32).toInt8.toInt32)) (13 : Int32).toNatClampNeg (vp_nar .byte ((x3 >>> (16 &&& 31)) : Int32).toInt8.toInt32)) (14 : Int32).toNatClampNeg (vp_nar .byte ((x3 >>> (8 &&& 31)) : Int32).toInt8.toInt32)) (15 : Int32).toNatClampNeg (vp_nar .byte ((x3 >>> (0 &&& 31)) : Int32).toInt8.toInt32)) (16 : Int32).toNatClampNeg (vp_nar .byte ((x4 >>> (24 &&& 31)) : Int32).toInt8.toInt32))))] H := hP
  have hD : va_D A [(h0, .inr (8, [.int 0, .ref tp, .int 0, a3, a4, a5, a6, a7, a8, a9, a10, a11, a12, a13, a14, a15, a16, a17, a18, a19, a20, a21, a22, a23, a24, a25, a26, a27, a28, a29, a30, a31, a32, a33, a34, a35, a36, a37, a38, a39, a40, a41, a42, a43, a44, a45, a46, a47, a48, a49, a50, a51, a52, a53, a54, a55, a56, a57, a58, a59, a60, a61, a62, a63, a64, a65, a66, a67, a68, a69, a70, a71, a72, a73, a74, a75, a76, a77, a78, a79, a80, a81, a82, a83, a84, a85, a86, a87, a88, a89, a90, a91, a92, a93, a94, a95, a96])), (tp, .inl (kt, 65536, .inl (upd (upd (upd (upd (upd (upd (upd (upd (upd (upd (upd (upd (upd (upd (upd (upd (upd f (0 : Int32).toNatClampNeg (vp_nar .byte ((x0 >>> (24 &&& 31)) : Int32).toInt8.toInt32)) (1 : Int32).toNatClampNeg (vp_nar .byte ((x0 >>> (16 &&& 31)) : Int32).toInt8.toInt32)) (2 : Int32).toNatClampNeg (vp_nar .byte ((x0 >>> (8 &&& 31)) : Int32).toInt8.toInt32)) (3 : Int32).toNatClampNeg (vp_nar .byte ((x0 >>> (0 &&& 31)) : Int32).toInt8.toInt32)) (4 : Int32).toNatClampNeg (vp_nar .byte ((x1 >>> (24 &&& 31)) : Int32).toInt8.toInt32)) (5 : Int32).toNatClampNeg (vp_nar .byte ((x1 >>> (16 &&& 31)) : Int32).toInt8.toInt32)) (6 : Int32).toNatClampNeg (vp_nar .byte ((x1 >>> (8 &&& 31)) : Int32).toInt8.toInt32)) (7 : Int32).toNatClampNeg (vp_nar .byte ((x1 >>> (0 &&& 31)) : Int32).toInt8.toInt32)) (8 : Int32).toNatClampNeg (vp_nar .byte ((x2 >>> (24 &&& 31)) : Int32).toInt8.toInt32)) (9 : Int32).toNatClampNeg (vp_nar .byte ((x2 >>> (16 &&& 31)) : Int32).toInt8.toInt32)) (10 : Int32).toNatClampNeg (vp_nar .byte ((x2 >>> (8 &&& 31)) : Int32).toInt8.toInt32)) (11 : Int32).toNatClampNeg (vp_nar .byte ((x2 >>> (0 &&& 31)) : Int32).toInt8.toInt32)) (12 : Int32).toNatClampNeg (vp_nar .byte ((x3 >>> (24 &&& 31)) : Int32).toInt8.toInt32)) (13 : Int32).toNatClampNeg (vp_nar .byte ((x3 >>> (16 &&& 31)) : Int32).toInt8.toInt32)) (14 : Int32).toNatClampNeg (vp_nar .byte ((x3 >>> (8 &&& 31)) : Int32).toInt8.toInt32)) (15 : Int32).toNatClampNeg (vp_nar .byte ((x3 >>> (0 &&& 31)) : Int32).toInt8.toInt32)) (16 : Int32).toNatClampNeg (vp_nar .byte ((x4 >>> (24 &&& 31)) : Int32).toInt8.toInt32))))] := hD
  refine lv_iinc (v := 17) (k := 1) hx hb d_M_feed_117 hl rfl (by first | decide | rfl) (by decide) rfl (fun ls hl => ?_)
  have hl : lv_has ls 8 [(6, .int 17), (7, .int x4), (0, .ref h0), (1, .int x0), (2, .int x1), (3, .int x2), (4, .int x3), (5, .int x4)] := hl
  refine lv_goto (tgt := 36) hx hb d_M_feed_120 rfl ?_
  refine lv_iload hx hb d_M_feed_36 (lv_at hl 0 rfl) ?_
  refine lv_bipush (v := 20) hx hb d_M_feed_38 (by decide) ?_
  refine lv_icmp_ge (tgt := 123) hx hb d_M_feed_40 rfl (fun h9 => absurd h9 (by decide)) (fun _ => ?_)
  refine lv_iload hx hb d_M_feed_43 (lv_at hl 0 rfl) ?_
  refine lv_iconst (v := 4) hx hb d_M_feed_45 (by decide) ?_
  refine lv_icmp_ge (tgt := 53) hx hb d_M_feed_46 rfl (fun _ => ?_) (fun h9 => absurd h9 (by decide))
  refine lv_iload hx hb d_M_feed_53 (lv_at hl 0 rfl) ?_
  refine lv_bipush (v := 8) hx hb d_M_feed_55 (by decide) ?_
  refine lv_icmp_ge (tgt := 64) hx hb d_M_feed_57 rfl (fun _ => ?_) (fun h9 => absurd h9 (by decide))
  refine lv_iload hx hb d_M_feed_64 (lv_at hl 0 rfl) ?_
  refine lv_bipush (v := 12) hx hb d_M_feed_66 (by decide) ?_
  refine lv_icmp_ge (tgt := 75) hx hb d_M_feed_68 rfl (fun _ => ?_) (fun h9 => absurd h9 (by decide))
  refine lv_iload hx hb d_M_feed_75 (lv_at hl 0 rfl) ?_
  refine lv_bipush (v := 16) hx hb d_M_feed_77 (by decide) ?_
  refine lv_icmp_ge (tgt := 87) hx hb d_M_feed_79 rfl (fun _ => ?_) (fun h9 => absurd h9 (by decide))
  refine lv_iload hx hb d_M_feed_87 (lv_at hl 7 rfl) ?_
  refine lv_istore hx hb d_M_feed_89 hl (by decide) rfl (fun ls hl => ?_)
  have hl : lv_has ls 8 [(7, .int x4), (6, .int 17), (0, .ref h0), (1, .int x0), (2, .int x1), (3, .int x2), (4, .int x3), (5, .int x4)] := hl
  refine lv_aload_n hx hb d_M_feed_91 rfl (lv_at hl 2 rfl) ?_
  refine va_get (D := D) (ci := 8) (v := .ref tp) (C := R_M) (T := F_M) (N := 97) hx hb hts fin_M hown hK hP 0 rfl rfl 1 (by decide) (hts _ m_95b40228) (fun _ h9 => h9) rfl d_M_feed_92 ?_
  refine lv_aload_n hx hb d_M_feed_95 rfl (lv_at hl 2 rfl) ?_
  refine va_get (D := D) (ci := 8) (v := .int 0) (C := R_M) (T := F_M) (N := 97) hx hb hts fin_M hown hK hP 0 rfl rfl 2 (by decide) (hts _ m_7895fa0a) (fun _ h9 => h9) rfl d_M_feed_96 ?_
  refine lv_iload hx hb d_M_feed_99 (lv_at hl 1 rfl) ?_
  refine lv_iadd hx hb d_M_feed_101 ?_
  refine xt_numi (y := 17) (by decide) ?_
  refine lv_iload hx hb d_M_feed_102 (lv_at hl 0 rfl) ?_
  refine lv_bipush (v := 24) hx hb d_M_feed_104 (by decide) ?_
  refine lv_bipush (v := 8) hx hb d_M_feed_106 (by decide) ?_
  refine lv_iload hx hb d_M_feed_108 (lv_at hl 1 rfl) ?_
  refine lv_iconst (v := 4) hx hb d_M_feed_110 (by decide) ?_
  refine lv_irem hx hb d_M_feed_111 (by decide) ?_
  refine xt_numi (y := 1) (by decide +kernel) ?_
  refine lv_imul hx hb d_M_feed_112 ?_
  refine xt_numi (y := 8) (by decide) ?_
  refine lv_isub hx hb d_M_feed_113 ?_
  refine xt_numi (y := 16) (by decide) ?_
  refine lv_ishr hx hb d_M_feed_114 ?_
  refine lv_i2b hx hb d_M_feed_115 rfl ?_
  refine va_bast (i := 17) (x := ((x4 >>> (16 &&& 31)) : Int32).toInt8.toInt32) hx hb hK hP hD hS 1 0 rfl rfl (xt_vin (by decide +kernel)) d_M_feed_116 (fun H locs hP hD hS => ?_)
  have hP : va_P D xcl [(h0, .inr (8, [.int 0, .ref tp, .int 0, a3, a4, a5, a6, a7, a8, a9, a10, a11, a12, a13, a14, a15, a16, a17, a18, a19, a20, a21, a22, a23, a24, a25, a26, a27, a28, a29, a30, a31, a32, a33, a34, a35, a36, a37, a38, a39, a40, a41, a42, a43, a44, a45, a46, a47, a48, a49, a50, a51, a52, a53, a54, a55, a56, a57, a58, a59, a60, a61, a62, a63, a64, a65, a66, a67, a68, a69, a70, a71, a72, a73, a74, a75, a76, a77, a78, a79, a80, a81, a82, a83, a84, a85, a86, a87, a88, a89, a90, a91, a92, a93, a94, a95, a96])), (tp, .inl (kt, 65536, .inl (upd (upd (upd (upd (upd (upd (upd (upd (upd (upd (upd (upd (upd (upd (upd (upd (upd (upd f (0 : Int32).toNatClampNeg (vp_nar .byte ((x0 >>> (24 &&& 31)) : Int32).toInt8.toInt32)) (1 : Int32).toNatClampNeg (vp_nar .byte ((x0 >>> (16 &&& 31)) : Int32).toInt8.toInt32)) (2 : Int32).toNatClampNeg (vp_nar .byte ((x0 >>> (8 &&& 31)) : Int32).toInt8.toInt32)) (3 : Int32).toNatClampNeg (vp_nar .byte ((x0 >>> (0 &&& 31)) : Int32).toInt8.toInt32)) (4 : Int32).toNatClampNeg (vp_nar .byte ((x1 >>> (24 &&& 31)) : Int32).toInt8.toInt32)) (5 : Int32).toNatClampNeg (vp_nar .byte ((x1 >>> (16 &&& 31)) : Int32).toInt8.toInt32)) (6 : Int32).toNatClampNeg (vp_nar .byte ((x1 >>> (8 &&& 31)) : Int32).toInt8.toInt32)) (7 : Int32).toNatClampNeg (vp_nar .byte ((x1 >>> (0 &&& 31)) : Int32).toInt8.toInt32)) (8 : Int32).toNatClampNeg (vp_nar .byte ((x2 >>> (24 &&& 31)) : Int32).toInt8.toInt32)) (9 : Int32).toNatClampNeg (vp_nar .byte ((x2 >>> (16 &&& 31)) : Int32).toInt8.toInt32)) (10 : Int32).toNatClampNeg (vp_nar .byte ((x2 >>> (8 &&& 31)) : Int32).toInt8.toInt32)) (11 : Int32).toNatClampNeg (vp_nar .byte ((x2 >>> (0 &&& 31)) : Int32).toInt8.toInt32)) (12 : Int32).toNatClampNeg (vp_nar .byte ((x3 >>> (24 &&& 31)) : Int32).toInt8.toInt32)) (13 : Int32).toNatClampNeg (vp_nar .byte ((x3 >>> (16 &&& 31)) : Int32).toInt8.toInt32)) (14 : Int32).toNatClampNeg (vp_nar .byte ((x3 >>> (8 &&& 31)) : Int32).toInt8.toInt32)) (15 : Int32).toNatClampNeg (vp_nar .byte ((x3 >>> (0 &&& 31)) : Int32).toInt8.toInt32)) (16 : Int32).toNatClampNeg (vp_nar .byte ((x4 >>> (24 &&& 31)) : Int32).toInt8.toInt32)) (17 : Int32).toNatClampNeg (vp_nar .byte ((x4 >>> (16 &&& 31)) : Int32).toInt8.toInt32))))] H := hP
  have hD : va_D A [(h0, .inr (8, [.int 0, .ref tp, .int 0, a3, a4, a5, a6, a7, a8, a9, a10, a11, a12, a13, a14, a15, a16, a17, a18, a19, a20, a21, a22, a23, a24, a25, a26, a27, a28, a29, a30, a31, a32, a33, a34, a35, a36, a37, a38, a39, a40, a41, a42, a43, a44, a45, a46, a47, a48, a49, a50, a51, a52, a53, a54, a55, a56, a57, a58, a59, a60, a61, a62, a63, a64, a65, a66, a67, a68, a69, a70, a71, a72, a73, a74, a75, a76, a77, a78, a79, a80, a81, a82, a83, a84, a85, a86, a87, a88, a89, a90, a91, a92, a93, a94, a95, a96])), (tp, .inl (kt, 65536, .inl (upd (upd (upd (upd (upd (upd (upd (upd (upd (upd (upd (upd (upd (upd (upd (upd (upd (upd f (0 : Int32).toNatClampNeg (vp_nar .byte ((x0 >>> (24 &&& 31)) : Int32).toInt8.toInt32)) (1 : Int32).toNatClampNeg (vp_nar .byte ((x0 >>> (16 &&& 31)) : Int32).toInt8.toInt32)) (2 : Int32).toNatClampNeg (vp_nar .byte ((x0 >>> (8 &&& 31)) : Int32).toInt8.toInt32)) (3 : Int32).toNatClampNeg (vp_nar .byte ((x0 >>> (0 &&& 31)) : Int32).toInt8.toInt32)) (4 : Int32).toNatClampNeg (vp_nar .byte ((x1 >>> (24 &&& 31)) : Int32).toInt8.toInt32)) (5 : Int32).toNatClampNeg (vp_nar .byte ((x1 >>> (16 &&& 31)) : Int32).toInt8.toInt32)) (6 : Int32).toNatClampNeg (vp_nar .byte ((x1 >>> (8 &&& 31)) : Int32).toInt8.toInt32)) (7 : Int32).toNatClampNeg (vp_nar .byte ((x1 >>> (0 &&& 31)) : Int32).toInt8.toInt32)) (8 : Int32).toNatClampNeg (vp_nar .byte ((x2 >>> (24 &&& 31)) : Int32).toInt8.toInt32)) (9 : Int32).toNatClampNeg (vp_nar .byte ((x2 >>> (16 &&& 31)) : Int32).toInt8.toInt32)) (10 : Int32).toNatClampNeg (vp_nar .byte ((x2 >>> (8 &&& 31)) : Int32).toInt8.toInt32)) (11 : Int32).toNatClampNeg (vp_nar .byte ((x2 >>> (0 &&& 31)) : Int32).toInt8.toInt32)) (12 : Int32).toNatClampNeg (vp_nar .byte ((x3 >>> (24 &&& 31)) : Int32).toInt8.toInt32)) (13 : Int32).toNatClampNeg (vp_nar .byte ((x3 >>> (16 &&& 31)) : Int32).toInt8.toInt32)) (14 : Int32).toNatClampNeg (vp_nar .byte ((x3 >>> (8 &&& 31)) : Int32).toInt8.toInt32)) (15 : Int32).toNatClampNeg (vp_nar .byte ((x3 >>> (0 &&& 31)) : Int32).toInt8.toInt32)) (16 : Int32).toNatClampNeg (vp_nar .byte ((x4 >>> (24 &&& 31)) : Int32).toInt8.toInt32)) (17 : Int32).toNatClampNeg (vp_nar .byte ((x4 >>> (16 &&& 31)) : Int32).toInt8.toInt32))))] := hD
  refine lv_iinc (v := 18) (k := 1) hx hb d_M_feed_117 hl rfl (by first | decide | rfl) (by decide) rfl (fun ls hl => ?_)
  have hl : lv_has ls 8 [(6, .int 18), (7, .int x4), (0, .ref h0), (1, .int x0), (2, .int x1), (3, .int x2), (4, .int x3), (5, .int x4)] := hl
  refine lv_goto (tgt := 36) hx hb d_M_feed_120 rfl ?_
  refine lv_iload hx hb d_M_feed_36 (lv_at hl 0 rfl) ?_
  refine lv_bipush (v := 20) hx hb d_M_feed_38 (by decide) ?_
  refine lv_icmp_ge (tgt := 123) hx hb d_M_feed_40 rfl (fun h9 => absurd h9 (by decide)) (fun _ => ?_)
  refine lv_iload hx hb d_M_feed_43 (lv_at hl 0 rfl) ?_
  refine lv_iconst (v := 4) hx hb d_M_feed_45 (by decide) ?_
  refine lv_icmp_ge (tgt := 53) hx hb d_M_feed_46 rfl (fun _ => ?_) (fun h9 => absurd h9 (by decide))
  refine lv_iload hx hb d_M_feed_53 (lv_at hl 0 rfl) ?_
  refine lv_bipush (v := 8) hx hb d_M_feed_55 (by decide) ?_
  refine lv_icmp_ge (tgt := 64) hx hb d_M_feed_57 rfl (fun _ => ?_) (fun h9 => absurd h9 (by decide))
  refine lv_iload hx hb d_M_feed_64 (lv_at hl 0 rfl) ?_
  refine lv_bipush (v := 12) hx hb d_M_feed_66 (by decide) ?_
  refine lv_icmp_ge (tgt := 75) hx hb d_M_feed_68 rfl (fun _ => ?_) (fun h9 => absurd h9 (by decide))
  refine lv_iload hx hb d_M_feed_75 (lv_at hl 0 rfl) ?_
  refine lv_bipush (v := 16) hx hb d_M_feed_77 (by decide) ?_
  refine lv_icmp_ge (tgt := 87) hx hb d_M_feed_79 rfl (fun _ => ?_) (fun h9 => absurd h9 (by decide))
  refine lv_iload hx hb d_M_feed_87 (lv_at hl 7 rfl) ?_
  refine lv_istore hx hb d_M_feed_89 hl (by decide) rfl (fun ls hl => ?_)
  have hl : lv_has ls 8 [(7, .int x4), (6, .int 18), (0, .ref h0), (1, .int x0), (2, .int x1), (3, .int x2), (4, .int x3), (5, .int x4)] := hl
  refine lv_aload_n hx hb d_M_feed_91 rfl (lv_at hl 2 rfl) ?_
  refine va_get (D := D) (ci := 8) (v := .ref tp) (C := R_M) (T := F_M) (N := 97) hx hb hts fin_M hown hK hP 0 rfl rfl 1 (by decide) (hts _ m_95b40228) (fun _ h9 => h9) rfl d_M_feed_92 ?_
  refine lv_aload_n hx hb d_M_feed_95 rfl (lv_at hl 2 rfl) ?_
  refine va_get (D := D) (ci := 8) (v := .int 0) (C := R_M) (T := F_M) (N := 97) hx hb hts fin_M hown hK hP 0 rfl rfl 2 (by decide) (hts _ m_7895fa0a) (fun _ h9 => h9) rfl d_M_feed_96 ?_
  refine lv_iload hx hb d_M_feed_99 (lv_at hl 1 rfl) ?_
  refine lv_iadd hx hb d_M_feed_101 ?_
  refine xt_numi (y := 18) (by decide) ?_
  refine lv_iload hx hb d_M_feed_102 (lv_at hl 0 rfl) ?_
  refine lv_bipush (v := 24) hx hb d_M_feed_104 (by decide) ?_
  refine lv_bipush (v := 8) hx hb d_M_feed_106 (by decide) ?_
  refine lv_iload hx hb d_M_feed_108 (lv_at hl 1 rfl) ?_
  refine lv_iconst (v := 4) hx hb d_M_feed_110 (by decide) ?_
  refine lv_irem hx hb d_M_feed_111 (by decide) ?_
  refine xt_numi (y := 2) (by decide +kernel) ?_
  refine lv_imul hx hb d_M_feed_112 ?_
  refine xt_numi (y := 16) (by decide) ?_
  refine lv_isub hx hb d_M_feed_113 ?_
  refine xt_numi (y := 8) (by decide) ?_
  refine lv_ishr hx hb d_M_feed_114 ?_
  refine lv_i2b hx hb d_M_feed_115 rfl ?_
  refine va_bast (i := 18) (x := ((x4 >>> (8 &&& 31)) : Int32).toInt8.toInt32) hx hb hK hP hD hS 1 0 rfl rfl (xt_vin (by decide +kernel)) d_M_feed_116 (fun H locs hP hD hS => ?_)
  have hP : va_P D xcl [(h0, .inr (8, [.int 0, .ref tp, .int 0, a3, a4, a5, a6, a7, a8, a9, a10, a11, a12, a13, a14, a15, a16, a17, a18, a19, a20, a21, a22, a23, a24, a25, a26, a27, a28, a29, a30, a31, a32, a33, a34, a35, a36, a37, a38, a39, a40, a41, a42, a43, a44, a45, a46, a47, a48, a49, a50, a51, a52, a53, a54, a55, a56, a57, a58, a59, a60, a61, a62, a63, a64, a65, a66, a67, a68, a69, a70, a71, a72, a73, a74, a75, a76, a77, a78, a79, a80, a81, a82, a83, a84, a85, a86, a87, a88, a89, a90, a91, a92, a93, a94, a95, a96])), (tp, .inl (kt, 65536, .inl (upd (upd (upd (upd (upd (upd (upd (upd (upd (upd (upd (upd (upd (upd (upd (upd (upd (upd (upd f (0 : Int32).toNatClampNeg (vp_nar .byte ((x0 >>> (24 &&& 31)) : Int32).toInt8.toInt32)) (1 : Int32).toNatClampNeg (vp_nar .byte ((x0 >>> (16 &&& 31)) : Int32).toInt8.toInt32)) (2 : Int32).toNatClampNeg (vp_nar .byte ((x0 >>> (8 &&& 31)) : Int32).toInt8.toInt32)) (3 : Int32).toNatClampNeg (vp_nar .byte ((x0 >>> (0 &&& 31)) : Int32).toInt8.toInt32)) (4 : Int32).toNatClampNeg (vp_nar .byte ((x1 >>> (24 &&& 31)) : Int32).toInt8.toInt32)) (5 : Int32).toNatClampNeg (vp_nar .byte ((x1 >>> (16 &&& 31)) : Int32).toInt8.toInt32)) (6 : Int32).toNatClampNeg (vp_nar .byte ((x1 >>> (8 &&& 31)) : Int32).toInt8.toInt32)) (7 : Int32).toNatClampNeg (vp_nar .byte ((x1 >>> (0 &&& 31)) : Int32).toInt8.toInt32)) (8 : Int32).toNatClampNeg (vp_nar .byte ((x2 >>> (24 &&& 31)) : Int32).toInt8.toInt32)) (9 : Int32).toNatClampNeg (vp_nar .byte ((x2 >>> (16 &&& 31)) : Int32).toInt8.toInt32)) (10 : Int32).toNatClampNeg (vp_nar .byte ((x2 >>> (8 &&& 31)) : Int32).toInt8.toInt32)) (11 : Int32).toNatClampNeg (vp_nar .byte ((x2 >>> (0 &&& 31)) : Int32).toInt8.toInt32)) (12 : Int32).toNatClampNeg (vp_nar .byte ((x3 >>> (24 &&& 31)) : Int32).toInt8.toInt32)) (13 : Int32).toNatClampNeg (vp_nar .byte ((x3 >>> (16 &&& 31)) : Int32).toInt8.toInt32)) (14 : Int32).toNatClampNeg (vp_nar .byte ((x3 >>> (8 &&& 31)) : Int32).toInt8.toInt32)) (15 : Int32).toNatClampNeg (vp_nar .byte ((x3 >>> (0 &&& 31)) : Int32).toInt8.toInt32)) (16 : Int32).toNatClampNeg (vp_nar .byte ((x4 >>> (24 &&& 31)) : Int32).toInt8.toInt32)) (17 : Int32).toNatClampNeg (vp_nar .byte ((x4 >>> (16 &&& 31)) : Int32).toInt8.toInt32)) (18 : Int32).toNatClampNeg (vp_nar .byte ((x4 >>> (8 &&& 31)) : Int32).toInt8.toInt32))))] H := hP
  have hD : va_D A [(h0, .inr (8, [.int 0, .ref tp, .int 0, a3, a4, a5, a6, a7, a8, a9, a10, a11, a12, a13, a14, a15, a16, a17, a18, a19, a20, a21, a22, a23, a24, a25, a26, a27, a28, a29, a30, a31, a32, a33, a34, a35, a36, a37, a38, a39, a40, a41, a42, a43, a44, a45, a46, a47, a48, a49, a50, a51, a52, a53, a54, a55, a56, a57, a58, a59, a60, a61, a62, a63, a64, a65, a66, a67, a68, a69, a70, a71, a72, a73, a74, a75, a76, a77, a78, a79, a80, a81, a82, a83, a84, a85, a86, a87, a88, a89, a90, a91, a92, a93, a94, a95, a96])), (tp, .inl (kt, 65536, .inl (upd (upd (upd (upd (upd (upd (upd (upd (upd (upd (upd (upd (upd (upd (upd (upd (upd (upd (upd f (0 : Int32).toNatClampNeg (vp_nar .byte ((x0 >>> (24 &&& 31)) : Int32).toInt8.toInt32)) (1 : Int32).toNatClampNeg (vp_nar .byte ((x0 >>> (16 &&& 31)) : Int32).toInt8.toInt32)) (2 : Int32).toNatClampNeg (vp_nar .byte ((x0 >>> (8 &&& 31)) : Int32).toInt8.toInt32)) (3 : Int32).toNatClampNeg (vp_nar .byte ((x0 >>> (0 &&& 31)) : Int32).toInt8.toInt32)) (4 : Int32).toNatClampNeg (vp_nar .byte ((x1 >>> (24 &&& 31)) : Int32).toInt8.toInt32)) (5 : Int32).toNatClampNeg (vp_nar .byte ((x1 >>> (16 &&& 31)) : Int32).toInt8.toInt32)) (6 : Int32).toNatClampNeg (vp_nar .byte ((x1 >>> (8 &&& 31)) : Int32).toInt8.toInt32)) (7 : Int32).toNatClampNeg (vp_nar .byte ((x1 >>> (0 &&& 31)) : Int32).toInt8.toInt32)) (8 : Int32).toNatClampNeg (vp_nar .byte ((x2 >>> (24 &&& 31)) : Int32).toInt8.toInt32)) (9 : Int32).toNatClampNeg (vp_nar .byte ((x2 >>> (16 &&& 31)) : Int32).toInt8.toInt32)) (10 : Int32).toNatClampNeg (vp_nar .byte ((x2 >>> (8 &&& 31)) : Int32).toInt8.toInt32)) (11 : Int32).toNatClampNeg (vp_nar .byte ((x2 >>> (0 &&& 31)) : Int32).toInt8.toInt32)) (12 : Int32).toNatClampNeg (vp_nar .byte ((x3 >>> (24 &&& 31)) : Int32).toInt8.toInt32)) (13 : Int32).toNatClampNeg (vp_nar .byte ((x3 >>> (16 &&& 31)) : Int32).toInt8.toInt32)) (14 : Int32).toNatClampNeg (vp_nar .byte ((x3 >>> (8 &&& 31)) : Int32).toInt8.toInt32)) (15 : Int32).toNatClampNeg (vp_nar .byte ((x3 >>> (0 &&& 31)) : Int32).toInt8.toInt32)) (16 : Int32).toNatClampNeg (vp_nar .byte ((x4 >>> (24 &&& 31)) : Int32).toInt8.toInt32)) (17 : Int32).toNatClampNeg (vp_nar .byte ((x4 >>> (16 &&& 31)) : Int32).toInt8.toInt32)) (18 : Int32).toNatClampNeg (vp_nar .byte ((x4 >>> (8 &&& 31)) : Int32).toInt8.toInt32))))] := hD
  refine lv_iinc (v := 19) (k := 1) hx hb d_M_feed_117 hl rfl (by first | decide | rfl) (by decide) rfl (fun ls hl => ?_)
  have hl : lv_has ls 8 [(6, .int 19), (7, .int x4), (0, .ref h0), (1, .int x0), (2, .int x1), (3, .int x2), (4, .int x3), (5, .int x4)] := hl
  refine lv_goto (tgt := 36) hx hb d_M_feed_120 rfl ?_
  refine lv_iload hx hb d_M_feed_36 (lv_at hl 0 rfl) ?_
  refine lv_bipush (v := 20) hx hb d_M_feed_38 (by decide) ?_
  refine lv_icmp_ge (tgt := 123) hx hb d_M_feed_40 rfl (fun h9 => absurd h9 (by decide)) (fun _ => ?_)
  refine lv_iload hx hb d_M_feed_43 (lv_at hl 0 rfl) ?_
  refine lv_iconst (v := 4) hx hb d_M_feed_45 (by decide) ?_
  refine lv_icmp_ge (tgt := 53) hx hb d_M_feed_46 rfl (fun _ => ?_) (fun h9 => absurd h9 (by decide))
  refine lv_iload hx hb d_M_feed_53 (lv_at hl 0 rfl) ?_
  refine lv_bipush (v := 8) hx hb d_M_feed_55 (by decide) ?_
  refine lv_icmp_ge (tgt := 64) hx hb d_M_feed_57 rfl (fun _ => ?_) (fun h9 => absurd h9 (by decide))
  refine lv_iload hx hb d_M_feed_64 (lv_at hl 0 rfl) ?_
  refine lv_bipush (v := 12) hx hb d_M_feed_66 (by decide) ?_
  refine lv_icmp_ge (tgt := 75) hx hb d_M_feed_68 rfl (fun _ => ?_) (fun h9 => absurd h9 (by decide))
  refine lv_iload hx hb d_M_feed_75 (lv_at hl 0 rfl) ?_
  refine lv_bipush (v := 16) hx hb d_M_feed_77 (by decide) ?_
  refine lv_icmp_ge (tgt := 87) hx hb d_M_feed_79 rfl (fun _ => ?_) (fun h9 => absurd h9 (by decide))
  refine lv_iload hx hb d_M_feed_87 (lv_at hl 7 rfl) ?_
  refine lv_istore hx hb d_M_feed_89 hl (by decide) rfl (fun ls hl => ?_)
  have hl : lv_has ls 8 [(7, .int x4), (6, .int 19), (0, .ref h0), (1, .int x0), (2, .int x1), (3, .int x2), (4, .int x3), (5, .int x4)] := hl
  refine lv_aload_n hx hb d_M_feed_91 rfl (lv_at hl 2 rfl) ?_
  refine va_get (D := D) (ci := 8) (v := .ref tp) (C := R_M) (T := F_M) (N := 97) hx hb hts fin_M hown hK hP 0 rfl rfl 1 (by decide) (hts _ m_95b40228) (fun _ h9 => h9) rfl d_M_feed_92 ?_
  refine lv_aload_n hx hb d_M_feed_95 rfl (lv_at hl 2 rfl) ?_
  refine va_get (D := D) (ci := 8) (v := .int 0) (C := R_M) (T := F_M) (N := 97) hx hb hts fin_M hown hK hP 0 rfl rfl 2 (by decide) (hts _ m_7895fa0a) (fun _ h9 => h9) rfl d_M_feed_96 ?_
  refine lv_iload hx hb d_M_feed_99 (lv_at hl 1 rfl) ?_
  refine lv_iadd hx hb d_M_feed_101 ?_
  refine xt_numi (y := 19) (by decide) ?_
  refine lv_iload hx hb d_M_feed_102 (lv_at hl 0 rfl) ?_
  refine lv_bipush (v := 24) hx hb d_M_feed_104 (by decide) ?_
  refine lv_bipush (v := 8) hx hb d_M_feed_106 (by decide) ?_
  refine lv_iload hx hb d_M_feed_108 (lv_at hl 1 rfl) ?_
  refine lv_iconst (v := 4) hx hb d_M_feed_110 (by decide) ?_
  refine lv_irem hx hb d_M_feed_111 (by decide) ?_
  refine xt_numi (y := 3) (by decide +kernel) ?_
  refine lv_imul hx hb d_M_feed_112 ?_
  refine xt_numi (y := 24) (by decide) ?_
  refine lv_isub hx hb d_M_feed_113 ?_
  refine xt_numi (y := 0) (by decide) ?_
  refine lv_ishr hx hb d_M_feed_114 ?_
  refine lv_i2b hx hb d_M_feed_115 rfl ?_
  refine va_bast (i := 19) (x := ((x4 >>> (0 &&& 31)) : Int32).toInt8.toInt32) hx hb hK hP hD hS 1 0 rfl rfl (xt_vin (by decide +kernel)) d_M_feed_116 (fun H locs hP hD hS => ?_)
  have hP : va_P D xcl [(h0, .inr (8, [.int 0, .ref tp, .int 0, a3, a4, a5, a6, a7, a8, a9, a10, a11, a12, a13, a14, a15, a16, a17, a18, a19, a20, a21, a22, a23, a24, a25, a26, a27, a28, a29, a30, a31, a32, a33, a34, a35, a36, a37, a38, a39, a40, a41, a42, a43, a44, a45, a46, a47, a48, a49, a50, a51, a52, a53, a54, a55, a56, a57, a58, a59, a60, a61, a62, a63, a64, a65, a66, a67, a68, a69, a70, a71, a72, a73, a74, a75, a76, a77, a78, a79, a80, a81, a82, a83, a84, a85, a86, a87, a88, a89, a90, a91, a92, a93, a94, a95, a96])), (tp, .inl (kt, 65536, .inl (upd (upd (upd (upd (upd (upd (upd (upd (upd (upd (upd (upd (upd (upd (upd (upd (upd (upd (upd (upd f (0 : Int32).toNatClampNeg (vp_nar .byte ((x0 >>> (24 &&& 31)) : Int32).toInt8.toInt32)) (1 : Int32).toNatClampNeg (vp_nar .byte ((x0 >>> (16 &&& 31)) : Int32).toInt8.toInt32)) (2 : Int32).toNatClampNeg (vp_nar .byte ((x0 >>> (8 &&& 31)) : Int32).toInt8.toInt32)) (3 : Int32).toNatClampNeg (vp_nar .byte ((x0 >>> (0 &&& 31)) : Int32).toInt8.toInt32)) (4 : Int32).toNatClampNeg (vp_nar .byte ((x1 >>> (24 &&& 31)) : Int32).toInt8.toInt32)) (5 : Int32).toNatClampNeg (vp_nar .byte ((x1 >>> (16 &&& 31)) : Int32).toInt8.toInt32)) (6 : Int32).toNatClampNeg (vp_nar .byte ((x1 >>> (8 &&& 31)) : Int32).toInt8.toInt32)) (7 : Int32).toNatClampNeg (vp_nar .byte ((x1 >>> (0 &&& 31)) : Int32).toInt8.toInt32)) (8 : Int32).toNatClampNeg (vp_nar .byte ((x2 >>> (24 &&& 31)) : Int32).toInt8.toInt32)) (9 : Int32).toNatClampNeg (vp_nar .byte ((x2 >>> (16 &&& 31)) : Int32).toInt8.toInt32)) (10 : Int32).toNatClampNeg (vp_nar .byte ((x2 >>> (8 &&& 31)) : Int32).toInt8.toInt32)) (11 : Int32).toNatClampNeg (vp_nar .byte ((x2 >>> (0 &&& 31)) : Int32).toInt8.toInt32)) (12 : Int32).toNatClampNeg (vp_nar .byte ((x3 >>> (24 &&& 31)) : Int32).toInt8.toInt32)) (13 : Int32).toNatClampNeg (vp_nar .byte ((x3 >>> (16 &&& 31)) : Int32).toInt8.toInt32)) (14 : Int32).toNatClampNeg (vp_nar .byte ((x3 >>> (8 &&& 31)) : Int32).toInt8.toInt32)) (15 : Int32).toNatClampNeg (vp_nar .byte ((x3 >>> (0 &&& 31)) : Int32).toInt8.toInt32)) (16 : Int32).toNatClampNeg (vp_nar .byte ((x4 >>> (24 &&& 31)) : Int32).toInt8.toInt32)) (17 : Int32).toNatClampNeg (vp_nar .byte ((x4 >>> (16 &&& 31)) : Int32).toInt8.toInt32)) (18 : Int32).toNatClampNeg (vp_nar .byte ((x4 >>> (8 &&& 31)) : Int32).toInt8.toInt32)) (19 : Int32).toNatClampNeg (vp_nar .byte ((x4 >>> (0 &&& 31)) : Int32).toInt8.toInt32))))] H := hP
  have hD : va_D A [(h0, .inr (8, [.int 0, .ref tp, .int 0, a3, a4, a5, a6, a7, a8, a9, a10, a11, a12, a13, a14, a15, a16, a17, a18, a19, a20, a21, a22, a23, a24, a25, a26, a27, a28, a29, a30, a31, a32, a33, a34, a35, a36, a37, a38, a39, a40, a41, a42, a43, a44, a45, a46, a47, a48, a49, a50, a51, a52, a53, a54, a55, a56, a57, a58, a59, a60, a61, a62, a63, a64, a65, a66, a67, a68, a69, a70, a71, a72, a73, a74, a75, a76, a77, a78, a79, a80, a81, a82, a83, a84, a85, a86, a87, a88, a89, a90, a91, a92, a93, a94, a95, a96])), (tp, .inl (kt, 65536, .inl (upd (upd (upd (upd (upd (upd (upd (upd (upd (upd (upd (upd (upd (upd (upd (upd (upd (upd (upd (upd f (0 : Int32).toNatClampNeg (vp_nar .byte ((x0 >>> (24 &&& 31)) : Int32).toInt8.toInt32)) (1 : Int32).toNatClampNeg (vp_nar .byte ((x0 >>> (16 &&& 31)) : Int32).toInt8.toInt32)) (2 : Int32).toNatClampNeg (vp_nar .byte ((x0 >>> (8 &&& 31)) : Int32).toInt8.toInt32)) (3 : Int32).toNatClampNeg (vp_nar .byte ((x0 >>> (0 &&& 31)) : Int32).toInt8.toInt32)) (4 : Int32).toNatClampNeg (vp_nar .byte ((x1 >>> (24 &&& 31)) : Int32).toInt8.toInt32)) (5 : Int32).toNatClampNeg (vp_nar .byte ((x1 >>> (16 &&& 31)) : Int32).toInt8.toInt32)) (6 : Int32).toNatClampNeg (vp_nar .byte ((x1 >>> (8 &&& 31)) : Int32).toInt8.toInt32)) (7 : Int32).toNatClampNeg (vp_nar .byte ((x1 >>> (0 &&& 31)) : Int32).toInt8.toInt32)) (8 : Int32).toNatClampNeg (vp_nar .byte ((x2 >>> (24 &&& 31)) : Int32).toInt8.toInt32)) (9 : Int32).toNatClampNeg (vp_nar .byte ((x2 >>> (16 &&& 31)) : Int32).toInt8.toInt32)) (10 : Int32).toNatClampNeg (vp_nar .byte ((x2 >>> (8 &&& 31)) : Int32).toInt8.toInt32)) (11 : Int32).toNatClampNeg (vp_nar .byte ((x2 >>> (0 &&& 31)) : Int32).toInt8.toInt32)) (12 : Int32).toNatClampNeg (vp_nar .byte ((x3 >>> (24 &&& 31)) : Int32).toInt8.toInt32)) (13 : Int32).toNatClampNeg (vp_nar .byte ((x3 >>> (16 &&& 31)) : Int32).toInt8.toInt32)) (14 : Int32).toNatClampNeg (vp_nar .byte ((x3 >>> (8 &&& 31)) : Int32).toInt8.toInt32)) (15 : Int32).toNatClampNeg (vp_nar .byte ((x3 >>> (0 &&& 31)) : Int32).toInt8.toInt32)) (16 : Int32).toNatClampNeg (vp_nar .byte ((x4 >>> (24 &&& 31)) : Int32).toInt8.toInt32)) (17 : Int32).toNatClampNeg (vp_nar .byte ((x4 >>> (16 &&& 31)) : Int32).toInt8.toInt32)) (18 : Int32).toNatClampNeg (vp_nar .byte ((x4 >>> (8 &&& 31)) : Int32).toInt8.toInt32)) (19 : Int32).toNatClampNeg (vp_nar .byte ((x4 >>> (0 &&& 31)) : Int32).toInt8.toInt32))))] := hD
  refine lv_iinc (v := 20) (k := 1) hx hb d_M_feed_117 hl rfl (by first | decide | rfl) (by decide) rfl (fun ls hl => ?_)
  have hl : lv_has ls 8 [(6, .int 20), (7, .int x4), (0, .ref h0), (1, .int x0), (2, .int x1), (3, .int x2), (4, .int x3), (5, .int x4)] := hl
  refine lv_goto (tgt := 36) hx hb d_M_feed_120 rfl ?_
  refine lv_iload hx hb d_M_feed_36 (lv_at hl 0 rfl) ?_
  refine lv_bipush (v := 20) hx hb d_M_feed_38 (by decide) ?_
  refine lv_icmp_ge (tgt := 123) hx hb d_M_feed_40 rfl (fun _ => ?_) (fun h9 => absurd h9 (by decide))
  refine lv_aload_n hx hb d_M_feed_123 rfl (lv_at hl 2 rfl) ?_
  refine lv_aload_n hx hb d_M_feed_124 rfl (lv_at hl 2 rfl) ?_
  refine va_get (D := D) (ci := 8) (v := .int 0) (C := R_M) (T := F_M) (N := 97) hx hb hts fin_M hown hK hP 0 rfl rfl 2 (by decide) (hts _ m_7895fa0a) (fun _ h9 => h9) rfl d_M_feed_125 ?_
  refine lv_bipush (v := 20) hx hb d_M_feed_128 (by decide) ?_
  refine lv_iadd hx hb d_M_feed_130 ?_
  refine xt_numi (y := 20) (by decide) ?_
  refine va_put (D := D) (ci := 8) (v := .int 20) (ty := .int) (C := R_M) (T := F_M) (N := 97) hx hb hts fin_M t_M t_M_ok n_M hown hK hP hD hS 0 rfl rfl 2 (by decide) (hts _ m_7895fa0a) (fun _ h9 => h9) rfl (by decide +kernel) (by first | rfl | decide) (by first | rfl | decide) (Nat.le_of_ble_eq_true rfl) d_M_feed_131 (fun H locs hP hD hS => ?_)
  have hP : va_P D xcl [(h0, .inr (8, [.int 0, .ref tp, .int 20, a3, a4, a5, a6, a7, a8, a9, a10, a11, a12, a13, a14, a15, a16, a17, a18, a19, a20, a21, a22, a23, a24, a25, a26, a27, a28, a29, a30, a31, a32, a33, a34, a35, a36, a37, a38, a39, a40, a41, a42, a43, a44, a45, a46, a47, a48, a49, a50, a51, a52, a53, a54, a55, a56, a57, a58, a59, a60, a61, a62, a63, a64, a65, a66, a67, a68, a69, a70, a71, a72, a73, a74, a75, a76, a77, a78, a79, a80, a81, a82, a83, a84, a85, a86, a87, a88, a89, a90, a91, a92, a93, a94, a95, a96])), (tp, .inl (kt, 65536, .inl (upd (upd (upd (upd (upd (upd (upd (upd (upd (upd (upd (upd (upd (upd (upd (upd (upd (upd (upd (upd f (0 : Int32).toNatClampNeg (vp_nar .byte ((x0 >>> (24 &&& 31)) : Int32).toInt8.toInt32)) (1 : Int32).toNatClampNeg (vp_nar .byte ((x0 >>> (16 &&& 31)) : Int32).toInt8.toInt32)) (2 : Int32).toNatClampNeg (vp_nar .byte ((x0 >>> (8 &&& 31)) : Int32).toInt8.toInt32)) (3 : Int32).toNatClampNeg (vp_nar .byte ((x0 >>> (0 &&& 31)) : Int32).toInt8.toInt32)) (4 : Int32).toNatClampNeg (vp_nar .byte ((x1 >>> (24 &&& 31)) : Int32).toInt8.toInt32)) (5 : Int32).toNatClampNeg (vp_nar .byte ((x1 >>> (16 &&& 31)) : Int32).toInt8.toInt32)) (6 : Int32).toNatClampNeg (vp_nar .byte ((x1 >>> (8 &&& 31)) : Int32).toInt8.toInt32)) (7 : Int32).toNatClampNeg (vp_nar .byte ((x1 >>> (0 &&& 31)) : Int32).toInt8.toInt32)) (8 : Int32).toNatClampNeg (vp_nar .byte ((x2 >>> (24 &&& 31)) : Int32).toInt8.toInt32)) (9 : Int32).toNatClampNeg (vp_nar .byte ((x2 >>> (16 &&& 31)) : Int32).toInt8.toInt32)) (10 : Int32).toNatClampNeg (vp_nar .byte ((x2 >>> (8 &&& 31)) : Int32).toInt8.toInt32)) (11 : Int32).toNatClampNeg (vp_nar .byte ((x2 >>> (0 &&& 31)) : Int32).toInt8.toInt32)) (12 : Int32).toNatClampNeg (vp_nar .byte ((x3 >>> (24 &&& 31)) : Int32).toInt8.toInt32)) (13 : Int32).toNatClampNeg (vp_nar .byte ((x3 >>> (16 &&& 31)) : Int32).toInt8.toInt32)) (14 : Int32).toNatClampNeg (vp_nar .byte ((x3 >>> (8 &&& 31)) : Int32).toInt8.toInt32)) (15 : Int32).toNatClampNeg (vp_nar .byte ((x3 >>> (0 &&& 31)) : Int32).toInt8.toInt32)) (16 : Int32).toNatClampNeg (vp_nar .byte ((x4 >>> (24 &&& 31)) : Int32).toInt8.toInt32)) (17 : Int32).toNatClampNeg (vp_nar .byte ((x4 >>> (16 &&& 31)) : Int32).toInt8.toInt32)) (18 : Int32).toNatClampNeg (vp_nar .byte ((x4 >>> (8 &&& 31)) : Int32).toInt8.toInt32)) (19 : Int32).toNatClampNeg (vp_nar .byte ((x4 >>> (0 &&& 31)) : Int32).toInt8.toInt32))))] H := hP
  have hD : va_D A [(h0, .inr (8, [.int 0, .ref tp, .int 20, a3, a4, a5, a6, a7, a8, a9, a10, a11, a12, a13, a14, a15, a16, a17, a18, a19, a20, a21, a22, a23, a24, a25, a26, a27, a28, a29, a30, a31, a32, a33, a34, a35, a36, a37, a38, a39, a40, a41, a42, a43, a44, a45, a46, a47, a48, a49, a50, a51, a52, a53, a54, a55, a56, a57, a58, a59, a60, a61, a62, a63, a64, a65, a66, a67, a68, a69, a70, a71, a72, a73, a74, a75, a76, a77, a78, a79, a80, a81, a82, a83, a84, a85, a86, a87, a88, a89, a90, a91, a92, a93, a94, a95, a96])), (tp, .inl (kt, 65536, .inl (upd (upd (upd (upd (upd (upd (upd (upd (upd (upd (upd (upd (upd (upd (upd (upd (upd (upd (upd (upd f (0 : Int32).toNatClampNeg (vp_nar .byte ((x0 >>> (24 &&& 31)) : Int32).toInt8.toInt32)) (1 : Int32).toNatClampNeg (vp_nar .byte ((x0 >>> (16 &&& 31)) : Int32).toInt8.toInt32)) (2 : Int32).toNatClampNeg (vp_nar .byte ((x0 >>> (8 &&& 31)) : Int32).toInt8.toInt32)) (3 : Int32).toNatClampNeg (vp_nar .byte ((x0 >>> (0 &&& 31)) : Int32).toInt8.toInt32)) (4 : Int32).toNatClampNeg (vp_nar .byte ((x1 >>> (24 &&& 31)) : Int32).toInt8.toInt32)) (5 : Int32).toNatClampNeg (vp_nar .byte ((x1 >>> (16 &&& 31)) : Int32).toInt8.toInt32)) (6 : Int32).toNatClampNeg (vp_nar .byte ((x1 >>> (8 &&& 31)) : Int32).toInt8.toInt32)) (7 : Int32).toNatClampNeg (vp_nar .byte ((x1 >>> (0 &&& 31)) : Int32).toInt8.toInt32)) (8 : Int32).toNatClampNeg (vp_nar .byte ((x2 >>> (24 &&& 31)) : Int32).toInt8.toInt32)) (9 : Int32).toNatClampNeg (vp_nar .byte ((x2 >>> (16 &&& 31)) : Int32).toInt8.toInt32)) (10 : Int32).toNatClampNeg (vp_nar .byte ((x2 >>> (8 &&& 31)) : Int32).toInt8.toInt32)) (11 : Int32).toNatClampNeg (vp_nar .byte ((x2 >>> (0 &&& 31)) : Int32).toInt8.toInt32)) (12 : Int32).toNatClampNeg (vp_nar .byte ((x3 >>> (24 &&& 31)) : Int32).toInt8.toInt32)) (13 : Int32).toNatClampNeg (vp_nar .byte ((x3 >>> (16 &&& 31)) : Int32).toInt8.toInt32)) (14 : Int32).toNatClampNeg (vp_nar .byte ((x3 >>> (8 &&& 31)) : Int32).toInt8.toInt32)) (15 : Int32).toNatClampNeg (vp_nar .byte ((x3 >>> (0 &&& 31)) : Int32).toInt8.toInt32)) (16 : Int32).toNatClampNeg (vp_nar .byte ((x4 >>> (24 &&& 31)) : Int32).toInt8.toInt32)) (17 : Int32).toNatClampNeg (vp_nar .byte ((x4 >>> (16 &&& 31)) : Int32).toInt8.toInt32)) (18 : Int32).toNatClampNeg (vp_nar .byte ((x4 >>> (8 &&& 31)) : Int32).toInt8.toInt32)) (19 : Int32).toNatClampNeg (vp_nar .byte ((x4 >>> (0 &&& 31)) : Int32).toInt8.toInt32))))] := hD
  refine lv_aload_n hx hb d_M_feed_134 rfl (lv_at hl 2 rfl) ?_
  refine va_get (D := D) (ci := 8) (v := .int 20) (C := R_M) (T := F_M) (N := 97) hx hb hts fin_M hown hK hP 0 rfl rfl 2 (by decide) (hts _ m_7895fa0a) (fun _ h9 => h9) rfl d_M_feed_135 ?_
  refine W.widen (k := 0) (n := 0) (by decide) (by decide) ?_
  refine xt_mono xt_ofMQ ?_
  exact W.iret hx hb hr (fun t ht hW => ⟨(fun _ => 0), Or.inl ⟨_, rfl, rfl⟩, by rw [ht]; exact hP.sub [0, 1] rfl, va_K.moved hW.alike (hK.sub [0] rfl), hD.sub [0, 1] (by decide) rfl, hS.F ht⟩) hS.2.2 d_M_feed_138 hlocks

