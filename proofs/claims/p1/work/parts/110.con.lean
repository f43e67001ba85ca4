set_option maxHeartbeats 4000000 in
set_option maxRecDepth 100000 in
theorem c_M_trap_2 (l : Launch) (D : va_G) (h0 tr kt : Nat) (a0 a1 a2 a3 a4 a5 a6 a7 a8 a9 a10 a11 a12 a13 a14 a15 a16 a17 a18 a19 a20 a21 a22 a23 a24 a25 a26 a27 a28 a29 a30 a31 a32 a33 a34 a35 a36 a37 a38 a39 a40 a41 a42 a43 a44 a45 a46 a47 a48 a49 a50 a51 a52 a53 a54 a55 a56 a57 a58 a59 a60 a61 a62 a63 a64 a65 a66 a67 a68 a69 a70 a71 a72 a73 a74 a75 a76 a77 a78 a79 a80 a81 a82 a83 a84 a85 a87 a88 a89 a90 a91 a92 a93 a94 a95 a96 : Value) (sz : Nat) : xt_Met l y_M_trap [.code y_M_trap b_M_trap 2 (some .int)] ({ frames := 8, cells := 0, slots := 0, locals := 120 }) (xt_P D xcl [.ref h0, .int 2] [(h0, .inr (8, [a0, a1, a2, a3, a4, a5, a6, a7, a8, a9, a10, a11, a12, a13, a14, a15, a16, a17, a18, a19, a20, a21, a22, a23, a24, a25, a26, a27, a28, a29, a30, a31, a32, a33, a34, a35, a36, a37, a38, a39, a40, a41, a42, a43, a44, a45, a46, a47, a48, a49, a50, a51, a52, a53, a54, a55, a56, a57, a58, a59, a60, a61, a62, a63, a64, a65, a66, a67, a68, a69, a70, a71, a72, a73, a74, a75, a76, a77, a78, a79, a80, a81, a82, a83, a84, a85, .ref tr, a87, a88, a89, a90, a91, a92, a93, a94, a95, a96])), (tr, .inl (kt, 4, .inl (upd (upd (upd (upd (fun _ => 0) (0 : Int32).toNatClampNeg 0) (1 : Int32).toNatClampNeg (-1)) (2 : Int32).toNatClampNeg (-1)) (3 : Int32).toNatClampNeg (-1))))] [(kt, .int)] sz) (xt_Q (S := Nat → Nat) D xcl (va_A [(h0, .inr (8, [a0, a1, a2, a3, a4, a5, a6, a7, a8, a9, a10, a11, a12, a13, a14, a15, a16, a17, a18, a19, a20, a21, a22, a23, a24, a25, a26, a27, a28, a29, a30, a31, a32, a33, a34, a35, a36, a37, a38, a39, a40, a41, a42, a43, a44, a45, a46, a47, a48, a49, a50, a51, a52, a53, a54, a55, a56, a57, a58, a59, a60, a61, a62, a63, a64, a65, a66, a67, a68, a69, a70, a71, a72, a73, a74, a75, a76, a77, a78, a79, a80, a81, a82, a83, a84, a85, .ref tr, a87, a88, a89, a90, a91, a92, a93, a94, a95, a96])), (tr, .inl (kt, 4, .inl (upd (upd (upd (upd (fun _ => 0) (0 : Int32).toNatClampNeg 0) (1 : Int32).toNatClampNeg (-1)) (2 : Int32).toNatClampNeg (-1)) (3 : Int32).toNatClampNeg (-1))))] sz) (fun v u => v = some (.int (-1))) (fun _ _ => False) (fun u => [(h0, .inr (8, [.int 0, a1, a2, a3, a4, a5, a6, a7, a8, a9, a10, a11, a12, a13, a14, a15, a16, a17, a18, a19, a20, a21, a22, a23, a24, a25, a26, a27, a28, a29, a30, a31, a32, a33, a34, a35, a36, a37, a38, a39, a40, a41, a42, a43, a44, a45, a46, a47, a48, a49, a50, a51, a52, a53, a54, a55, a56, a57, a58, a59, a60, a61, a62, a63, a64, a65, a66, a67, a68, a69, a70, a71, a72, a73, a74, a75, a76, a77, a78, a79, a80, a81, a82, a83, a84, a85, .ref tr, a87, a88, a89, a90, a91, a92, a93, a94, a95, a96])), (tr, .inl (kt, 4, .inl (upd (upd (upd (upd (fun _ => 0) (0 : Int32).toNatClampNeg 0) (1 : Int32).toNatClampNeg (-1)) (2 : Int32).toNatClampNeg (-1)) (3 : Int32).toNatClampNeg (-1))))]) (fun u => [(kt, .int)])) 0 0 (va_A [(h0, .inr (8, [a0, a1, a2, a3, a4, a5, a6, a7, a8, a9, a10, a11, a12, a13, a14, a15, a16, a17, a18, a19, a20, a21, a22, a23, a24, a25, a26, a27, a28, a29, a30, a31, a32, a33, a34, a35, a36, a37, a38, a39, a40, a41, a42, a43, a44, a45, a46, a47, a48, a49, a50, a51, a52, a53, a54, a55, a56, a57, a58, a59, a60, a61, a62, a63, a64, a65, a66, a67, a68, a69, a70, a71, a72, a73, a74, a75, a76, a77, a78, a79, a80, a81, a82, a83, a84, a85, .ref tr, a87, a88, a89, a90, a91, a92, a93, a94, a95, a96])), (tr, .inl (kt, 4, .inl (upd (upd (upd (upd (fun _ => 0) (0 : Int32).toNatClampNeg 0) (1 : Int32).toNatClampNeg (-1)) (2 : Int32).toNatClampNeg (-1)) (3 : Int32).toNatClampNeg (-1))))] sz) := by
  refine xt_ofW (cc := b_M_trap) (maxL := 2) (ret := (some .int)) (by decide) (List.mem_singleton.mpr rfl) ?_
  intro p e s m args below meth c s₁ B hml htab hv
  obtain ⟨rfl, hsz, hB, hP, hK, hD0⟩ := hv
  subst hsz
  have hx := B.exec
  have hb := B.bytes
  have hr := B.returns
  have hts := hB.1.at ([.ref h0, .int 2] : List Value).toArray
  have hown : s.vm.findClass "StackHostModel" = some m.cls := findClass_of_methodNamed B.named
  have hlocks := B.notSynchronized
  have hD := hD0.self (sz := s.heap.size)
  generalize hAe : va_A [(h0, .inr (8, [a0, a1, a2, a3, a4, a5, a6, a7, a8, a9, a10, a11, a12, a13, a14, a15, a16, a17, a18, a19, a20, a21, a22, a23, a24, a25, a26, a27, a28, a29, a30, a31, a32, a33, a34, a35, a36, a37, a38, a39, a40, a41, a42, a43, a44, a45, a46, a47, a48, a49, a50, a51, a52, a53, a54, a55, a56, a57, a58, a59, a60, a61, a62, a63, a64, a65, a66, a67, a68, a69, a70, a71, a72, a73, a74, a75, a76, a77, a78, a79, a80, a81, a82, a83, a84, a85, .ref tr, a87, a88, a89, a90, a91, a92, a93, a94, a95, a96])), (tr, .inl (kt, 4, .inl (upd (upd (upd (upd (fun _ => 0) (0 : Int32).toNatClampNeg 0) (1 : Int32).toNatClampNeg (-1)) (2 : Int32).toNatClampNeg (-1)) (3 : Int32).toNatClampNeg (-1))))] s.heap.size = A at hB hD ⊢
  have hA : ∀ q : Nat, s.heap.size ≤ q → A q := fun q h => by rw [← hAe]; exact Or.inr h
  have hS : va_S A s.heap s.heap [] := va_S.rf
  have hl := lv_entry ([.ref h0, .int 2]) (n := 2) (Nat.le_of_ble_eq_true rfl)
  rw [lg_entry_eq]
  generalize (lg_sl ([.ref h0, .int 2]) ++ List.replicate (2 - (lg_sl ([.ref h0, .int 2])).length) Slot.unset).toArray = ls at hl ⊢
  have hl : lv_has ls 2 [(0, .ref h0), (1, .int 2)] := hl
  refine lv_aload_n hx hb d_M_trap_0 rfl (lv_at hl 0 rfl) ?_
  refine lv_iload_n hx hb d_M_trap_1 rfl (lv_at hl 1 rfl) ?_
  refine lv_if_lt (tgt := 14) hx hb d_M_trap_2 rfl (fun h9 => absurd h9 (by decide)) (fun _ => ?_)
  refine lv_iload_n hx hb d_M_trap_5 rfl (lv_at hl 1 rfl) ?_
  refine lv_iconst (v := 4) hx hb d_M_trap_6 (by decide) ?_
  refine lv_icmp_ge (tgt := 14) hx hb d_M_trap_7 rfl (fun h9 => absurd h9 (by decide)) (fun _ => ?_)
  refine lv_iconst (v := 0) hx hb d_M_trap_10 (by decide) ?_
  refine lv_goto (tgt := 15) hx hb d_M_trap_11 rfl ?_
  refine va_put (D := D) (ci := 8) (v := .int 0) (ty := .int) (C := R_M) (T := F_M) (N := 97) hx hb hts fin_M t_M t_M_ok n_M hown hK hP hD hS 0 rfl rfl 0 (by decide) (hts _ m_afabd6a0) (fun _ h9 => h9) rfl (by decide +kernel) (by first | rfl | decide) (by first | rfl | decide) (Nat.le_of_ble_eq_true rfl) d_M_trap_15 (fun H locs hP hD hS => ?_)
  have hP : va_P D xcl [(h0, .inr (8, [.int 0, a1, a2, a3, a4, a5, a6, a7, a8, a9, a10, a11, a12, a13, a14, a15, a16, a17, a18, a19, a20, a21, a22, a23, a24, a25, a26, a27, a28, a29, a30, a31, a32, a33, a34, a35, a36, a37, a38, a39, a40, a41, a42, a43, a44, a45, a46, a47, a48, a49, a50, a51, a52, a53, a54, a55, a56, a57, a58, a59, a60, a61, a62, a63, a64, a65, a66, a67, a68, a69, a70, a71, a72, a73, a74, a75, a76, a77, a78, a79, a80, a81, a82, a83, a84, a85, .ref tr, a87, a88, a89, a90, a91, a92, a93, a94, a95, a96])), (tr, .inl (kt, 4, .inl (upd (upd (upd (upd (fun _ => 0) (0 : Int32).toNatClampNeg 0) (1 : Int32).toNatClampNeg (-1)) (2 : Int32).toNatClampNeg (-1)) (3 : Int32).toNatClampNeg (-1))))] H := hP
  have hD : va_D A [(h0, .inr (8, [.int 0, a1, a2, a3, a4, a5, a6, a7, a8, a9, a10, a11, a12, a13, a14, a15, a16, a17, a18, a19, a20, a21, a22, a23, a24, a25, a26, a27, a28, a29, a30, a31, a32, a33, a34, a35, a36, a37, a38, a39, a40, a41, a42, a43, a44, a45, a46, a47, a48, a49, a50, a51, a52, a53, a54, a55, a56, a57, a58, a59, a60, a61, a62, a63, a64, a65, a66, a67, a68, a69, a70, a71, a72, a73, a74, a75, a76, a77, a78, a79, a80, a81, a82, a83, a84, a85, .ref tr, a87, a88, a89, a90, a91, a92, a93, a94, a95, a96])), (tr, .inl (kt, 4, .inl (upd (upd (upd (upd (fun _ => 0) (0 : Int32).toNatClampNeg 0) (1 : Int32).toNatClampNeg (-1)) (2 : Int32).toNatClampNeg (-1)) (3 : Int32).toNatClampNeg (-1))))] := hD
  refine lv_aload_n hx hb d_M_trap_18 rfl (lv_at hl 0 rfl) ?_
  refine va_get (D := D) (ci := 8) (v := .int 0) (C := R_M) (T := F_M) (N := 97) hx hb hts fin_M hown hK hP 0 rfl rfl 0 (by decide) (hts _ m_afabd6a0) (fun _ h9 => h9) rfl d_M_trap_19 ?_
  refine lv_if_le (tgt := 29) hx hb d_M_trap_22 rfl (fun _ => ?_) (fun h9 => absurd h9 (by decide))
  refine lv_aload_n hx hb d_M_trap_29 rfl (lv_at hl 0 rfl) ?_
  refine va_get (D := D) (ci := 8) (v := .ref tr) (C := R_M) (T := F_M) (N := 97) hx hb hts fin_M hown hK hP 0 rfl rfl 86 (by decide) (hts _ m_6e1e432a) (fun _ h9 => h9) rfl d_M_trap_30 ?_
  refine lv_iload_n hx hb d_M_trap_33 rfl (lv_at hl 1 rfl) ?_
  refine va_iald (i := 2) hx hb hK hP 1 0 rfl rfl (xt_vin (by decide +kernel)) d_M_trap_34 ?_
  refine xt_numi (y := (-1)) (by decide +kernel) ?_
  refine W.widen (k := 0) (n := 0) (by decide) (by decide) ?_
  refine xt_mono xt_ofMQ ?_
  exact W.iret hx hb hr (fun t ht hW => ⟨(fun _ => 0), Or.inl ⟨_, rfl, rfl⟩, by rw [ht]; exact hP.sub [0, 1] rfl, va_K.moved hW.alike (hK.sub [0] rfl), hD.sub [0, 1] (by decide) rfl, hS.F ht⟩) hS.2.2 d_M_trap_35 hlocks

set_option maxHeartbeats 4000000 in
set_option maxRecDepth 100000 in
theorem c_M_trap_3 (l : Launch) (D : va_G) (h0 tr kt : Nat) (a0 a1 a2 a3 a4 a5 a6 a7 a8 a9 a10 a11 a12 a13 a14 a15 a16 a17 a18 a19 a20 a21 a22 a23 a24 a25 a26 a27 a28 a29 a30 a31 a32 a33 a34 a35 a36 a37 a38 a39 a40 a41 a42 a43 a44 a45 a46 a47 a48 a49 a50 a51 a52 a53 a54 a55 a56 a57 a58 a59 a60 a61 a62 a63 a64 a65 a66 a67 a68 a69 a70 a71 a72 a73 a74 a75 a76 a77 a78 a79 a80 a81 a82 a83 a84 a85 a87 a88 a89 a90 a91 a92 a93 a94 a95 a96 : Value) (sz : Nat) : xt_Met l y_M_trap [.code y_M_trap b_M_trap 2 (some .int)] ({ frames := 8, cells := 0, slots := 0, locals := 120 }) (xt_P D xcl [.ref h0, .int 3] [(h0, .inr (8, [a0, a1, a2, a3, a4, a5, a6, a7, a8, a9, a10, a11, a12, a13, a14, a15, a16, a17, a18, a19, a20, a21, a22, a23, a24, a25, a26, a27, a28, a29, a30, a31, a32, a33, a34, a35, a36, a37, a38, a39, a40, a41, a42, a43, a44, a45, a46, a47, a48, a49, a50, a51, a52, a53, a54, a55, a56, a57, a58, a59, a60, a61, a62, a63, a64, a65, a66, a67, a68, a69, a70, a71, a72, a73, a74, a75, a76, a77, a78, a79, a80, a81, a82, a83, a84, a85, .ref tr, a87, a88, a89, a90, a91, a92, a93, a94, a95, a96])), (tr, .inl (kt, 4, .inl (upd (upd (upd (upd (fun _ => 0) (0 : Int32).toNatClampNeg 0) (1 : Int32).toNatClampNeg (-1)) (2 : Int32).toNatClampNeg (-1)) (3 : Int32).toNatClampNeg (-1))))] [(kt, .int)] sz) (xt_Q (S := Nat → Nat) D xcl (va_A [(h0, .inr (8, [a0, a1, a2, a3, a4, a5, a6, a7, a8, a9, a10, a11, a12, a13, a14, a15, a16, a17, a18, a19, a20, a21, a22, a23, a24, a25, a26, a27, a28, a29, a30, a31, a32, a33, a34, a35, a36, a37, a38, a39, a40, a41, a42, a43, a44, a45, a46, a47, a48, a49, a50, a51, a52, a53, a54, a55, a56, a57, a58, a59, a60, a61, a62, a63, a64, a65, a66, a67, a68, a69, a70, a71, a72, a73, a74, a75, a76, a77, a78, a79, a80, a81, a82, a83, a84, a85, .ref tr, a87, a88, a89, a90, a91, a92, a93, a94, a95, a96])), (tr, .inl (kt, 4, .inl (upd (upd (upd (upd (fun _ => 0) (0 : Int32).toNatClampNeg 0) (1 : Int32).toNatClampNeg (-1)) (2 : Int32).toNatClampNeg (-1)) (3 : Int32).toNatClampNeg (-1))))] sz) (fun v u => v = some (.int (-1))) (fun _ _ => False) (fun u => [(h0, .inr (8, [.int 0, a1, a2, a3, a4, a5, a6, a7, a8, a9, a10, a11, a12, a13, a14, a15, a16, a17, a18, a19, a20, a21, a22, a23, a24, a25, a26, a27, a28, a29, a30, a31, a32, a33, a34, a35, a36, a37, a38, a39, a40, a41, a42, a43, a44, a45, a46, a47, a48, a49, a50, a51, a52, a53, a54, a55, a56, a57, a58, a59, a60, a61, a62, a63, a64, a65, a66, a67, a68, a69, a70, a71, a72, a73, a74, a75, a76, a77, a78, a79, a80, a81, a82, a83, a84, a85, .ref tr, a87, a88, a89, a90, a91, a92, a93, a94, a95, a96])), (tr, .inl (kt, 4, .inl (upd (upd (upd (upd (fun _ => 0) (0 : Int32).toNatClampNeg 0) (1 : Int32).toNatClampNeg (-1)) (2 : Int32).toNatClampNeg (-1)) (3 : Int32).toNatClampNeg (-1))))]) (fun u => [(kt, .int)])) 0 0 (va_A [(h0, .inr (8, [a0, a1, a2, a3, a4, a5, a6, a7, a8, a9, a10, a11, a12, a13, a14, a15, a16, a17, a18, a19, a20, a21, a22, a23, a24, a25, a26, a27, a28, a29, a30, a31, a32, a33, a34, a35, a36, a37, a38, a39, a40, a41, a42, a43, a44, a45, a46, a47, a48, a49, a50, a51, a52, a53, a54, a55, a56, a57, a58, a59, a60, a61, a62, a63, a64, a65, a66, a67, a68, a69, a70, a71, a72, a73, a74, a75, a76, a77, a78, a79, a80, a81, a82, a83, a84, a85, .ref tr, a87, a88, a89, a90, a91, a92, a93, a94, a95, a96])), (tr, .inl (kt, 4, .inl (upd (upd (upd (upd (fun _ => 0) (0 : Int32).toNatClampNeg 0) (1 : Int32).toNatClampNeg (-1)) (2 : Int32).toNatClampNeg (-1)) (3 : Int32).toNatClampNeg (-1))))] sz) := by
  refine xt_ofW (cc := b_M_trap) (maxL := 2) (ret := (some .int)) (by decide) (List.mem_singleton.mpr rfl) ?_
  intro p e s m args below meth c s₁ B hml htab hv
  obtain ⟨rfl, hsz, hB, hP, hK, hD0⟩ := hv
  subst hsz
  have hx := B.exec
  have hb := B.bytes
  have hr := B.returns
  have hts := hB.1.at ([.ref h0, .int 3] : List Value).toArray
  have hown : s.vm.findClass "StackHostModel" = some m.cls := findClass_of_methodNamed B.named
  have hlocks := B.notSynchronized
  have hD := hD0.self (sz := s.heap.size)
  generalize hAe : va_A [(h0, .inr (8, [a0, a1, a2, a3, a4, a5, a6, a7, a8, a9, a10, a11, a12, a13, a14, a15, a16, a17, a18, a19, a20, a21, a22, a23, a24, a25, a26, a27, a28, a29, a30, a31, a32, a33, a34, a35, a36, a37, a38, a39, a40, a41, a42, a43, a44, a45, a46, a47, a48, a49, a50, a51, a52, a53, a54, a55, a56, a57, a58, a59, a60, a61, a62, a63, a64, a65, a66, a67, a68, a69, a70, a71, a72, a73, a74, a75, a76, a77, a78, a79, a80, a81, a82, a83, a84, a85, .ref tr, a87, a88, a89, a90, a91, a92, a93, a94, a95, a96])), (tr, .inl (kt, 4, .inl (upd (upd (upd (upd (fun _ => 0) (0 : Int32).toNatClampNeg 0) (1 : Int32).toNatClampNeg (-1)) (2 : Int32).toNatClampNeg (-1)) (3 : Int32).toNatClampNeg (-1))))] s.heap.size = A at hB hD ⊢
  have hA : ∀ q : Nat, s.heap.size ≤ q → A q := fun q h => by rw [← hAe]; exact Or.inr h
  have hS : va_S A s.heap s.heap [] := va_S.rf
  have hl := lv_entry ([.ref h0, .int 3]) (n := 2) (Nat.le_of_ble_eq_true rfl)
  rw [lg_entry_eq]
  generalize (lg_sl ([.ref h0, .int 3]) ++ List.replicate (2 - (lg_sl ([.ref h0, .int 3])).length) Slot.unset).toArray = ls at hl ⊢
  have hl : lv_has ls 2 [(0, .ref h0), (1, .int 3)] := hl
  refine lv_aload_n hx hb d_M_trap_0 rfl (lv_at hl 0 rfl) ?_
  refine lv_iload_n hx hb d_M_trap_1 rfl (lv_at hl 1 rfl) ?_
  refine lv_if_lt (tgt := 14) hx hb d_M_trap_2 rfl (fun h9 => absurd h9 (by decide)) (fun _ => ?_)
  refine lv_iload_n hx hb d_M_trap_5 rfl (lv_at hl 1 rfl) ?_
  refine lv_iconst (v := 4) hx hb d_M_trap_6 (by decide) ?_
  refine lv_icmp_ge (tgt := 14) hx hb d_M_trap_7 rfl (fun h9 => absurd h9 (by decide)) (fun _ => ?_)
  refine lv_iconst (v := 0) hx hb d_M_trap_10 (by decide) ?_
  refine lv_goto (tgt := 15) hx hb d_M_trap_11 rfl ?_
  refine va_put (D := D) (ci := 8) (v := .int 0) (ty := .int) (C := R_M) (T := F_M) (N := 97) hx hb hts fin_M t_M t_M_ok n_M hown hK hP hD hS 0 rfl rfl 0 (by decide) (hts _ m_afabd6a0) (fun _ h9 => h9) rfl (by decide +kernel) (by first | rfl | decide) (by first | rfl | decide) (Nat.le_of_ble_eq_true rfl) d_M_trap_15 (fun H locs hP hD hS => ?_)
  have hP : va_P D xcl [(h0, .inr (8, [.int 0, a1, a2, a3, a4, a5, a6, a7, a8, a9, a10, a11, a12, a13, a14, a15, a16, a17, a18, a19, a20, a21, a22, a23, a24, a25, a26, a27, a28, a29, a30, a31, a32, a33, a34, a35, a36, a37, a38, a39, a40, a41, a42, a43, a44, a45, a46, a47, a48, a49, a50, a51, a52, a53, a54, a55, a56, a57, a58, a59, a60, a61, a62, a63, a64, a65, a66, a67, a68, a69, a70, a71, a72, a73, a74, a75, a76, a77, a78, a79, a80, a81, a82, a83, a84, a85, .ref tr, a87, a88, a89, a90, a91, a92, a93, a94, a95, a96])), (tr, .inl (kt, 4, .inl (upd (upd (upd (upd (fun _ => 0) (0 : Int32).toNatClampNeg 0) (1 : Int32).toNatClampNeg (-1)) (2 : Int32).toNatClampNeg (-1)) (3 : Int32).toNatClampNeg (-1))))] H := hP
  have hD : va_D A [(h0, .inr (8, [.int 0, a1, a2, a3, a4, a5, a6, a7, a8, a9, a10, a11, a12, a13, a14, a15, a16, a17, a18, a19, a20, a21, a22, a23, a24, a25, a26, a27, a28, a29, a30, a31, a32, a33, a34, a35, a36, a37, a38, a39, a40, a41, a42, a43, a44, a45, a46, a47, a48, a49, a50, a51, a52, a53, a54, a55, a56, a57, a58, a59, a60, a61, a62, a63, a64, a65, a66, a67, a68, a69, a70, a71, a72, a73, a74, a75, a76, a77, a78, a79, a80, a81, a82, a83, a84, a85, .ref tr, a87, a88, a89, a90, a91, a92, a93, a94, a95, a96])), (tr, .inl (kt, 4, .inl (upd (upd (upd (upd (fun _ => 0) (0 : Int32).toNatClampNeg 0) (1 : Int32).toNatClampNeg (-1)) (2 : Int32).toNatClampNeg (-1)) (3 : Int32).toNatClampNeg (-1))))] := hD
  refine lv_aload_n hx hb d_M_trap_18 rfl (lv_at hl 0 rfl) ?_
  refine va_get (D := D) (ci := 8) (v := .int 0) (C := R_M) (T := F_M) (N := 97) hx hb hts fin_M hown hK hP 0 rfl rfl 0 (by decide) (hts _ m_afabd6a0) (fun _ h9 => h9) rfl d_M_trap_19 ?_
  refine lv_if_le (tgt := 29) hx hb d_M_trap_22 rfl (fun _ => ?_) (fun h9 => absurd h9 (by decide))
  refine lv_aload_n hx hb d_M_trap_29 rfl (lv_at hl 0 rfl) ?_
  refine va_get (D := D) (ci := 8) (v := .ref tr) (C := R_M) (T := F_M) (N := 97) hx hb hts fin_M hown hK hP 0 rfl rfl 86 (by decide) (hts _ m_6e1e432a) (fun _ h9 => h9) rfl d_M_trap_30 ?_
  refine lv_iload_n hx hb d_M_trap_33 rfl (lv_at hl 1 rfl) ?_
  refine va_iald (i := 3) hx hb hK hP 1 0 rfl rfl (xt_vin (by decide +kernel)) d_M_trap_34 ?_
  refine xt_numi (y := (-1)) (by decide +kernel) ?_
  refine W.widen (k := 0) (n := 0) (by decide) (by decide) ?_
  refine xt_mono xt_ofMQ ?_
  exact W.iret hx hb hr (fun t ht hW => ⟨(fun _ => 0), Or.inl ⟨_, rfl, rfl⟩, by rw [ht]; exact hP.sub [0, 1] rfl, va_K.moved hW.alike (hK.sub [0] rfl), hD.sub [0, 1] (by decide) rfl, hS.F ht⟩) hS.2.2 d_M_trap_35 hlocks

set_option maxHeartbeats 4000000 in
set_option maxRecDepth 100000 in
theorem c_M_trap_t (l : Launch) (D : va_G) (h0 tr kt : Nat) (w : Int32) (a0 a1 a2 a3 a4 a5 a6 a7 a8 a9 a10 a11 a12 a13 a14 a15 a16 a17 a18 a19 a20 a21 a22 a23 a24 a25 a26 a27 a28 a29 a30 a31 a32 a33 a34 a35 a36 a37 a38 a39 a40 a41 a42 a43 a44 a45 a46 a47 a48 a49 a50 a51 a52 a53 a54 a55 a56 a57 a58 a59 a60 a61 a62 a63 a64 a65 a66 a67 a68 a69 a70 a71 a72 a73 a74 a75 a76 a77 a78 a79 a80 a81 a82 a83 a84 a85 a87 a88 a89 a90 a91 a92 a93 a94 a95 a96 : Value) (sz : Nat) (hw : w < 0 ∨ 3 < w) : xt_Met l y_M_trap [.code y_M_trap b_M_trap 2 (some .int)] ({ frames := 8, cells := 0, slots := 0, locals := 120 }) (xt_P D xcl [.ref h0, .int w] [(h0, .inr (8, [a0, a1, a2, a3, a4, a5, a6, a7, a8, a9, a10, a11, a12, a13, a14, a15, a16, a17, a18, a19, a20, a21, a22, a23, a24, a25, a26, a27, a28, a29, a30, a31, a32, a33, a34, a35, a36, a37, a38, a39, a40, a41, a42, a43, a44, a45, a46, a47, a48, a49, a50, a51, a52, a53, a54, a55, a56, a57, a58, a59, a60, a61, a62, a63, a64, a65, a66, a67, a68, a69, a70, a71, a72, a73, a74, a75, a76, a77, a78, a79, a80, a81, a82, a83, a84, a85, .ref tr, a87, a88, a89, a90, a91, a92, a93, a94, a95, a96])), (tr, .inl (kt, 4, .inl (upd (upd (upd (upd (fun _ => 0) (0 : Int32).toNatClampNeg 0) (1 : Int32).toNatClampNeg (-1)) (2 : Int32).toNatClampNeg (-1)) (3 : Int32).toNatClampNeg (-1))))] [(kt, .int)] sz) (xt_Q (S := Nat → Nat) D xcl (va_A [(h0, .inr (8, [a0, a1, a2, a3, a4, a5, a6, a7, a8, a9, a10, a11, a12, a13, a14, a15, a16, a17, a18, a19, a20, a21, a22, a23, a24, a25, a26, a27, a28, a29, a30, a31, a32, a33, a34, a35, a36, a37, a38, a39, a40, a41, a42, a43, a44, a45, a46, a47, a48, a49, a50, a51, a52, a53, a54, a55, a56, a57, a58, a59, a60, a61, a62, a63, a64, a65, a66, a67, a68, a69, a70, a71, a72, a73, a74, a75, a76, a77, a78, a79, a80, a81, a82, a83, a84, a85, .ref tr, a87, a88, a89, a90, a91, a92, a93, a94, a95, a96])), (tr, .inl (kt, 4, .inl (upd (upd (upd (upd (fun _ => 0) (0 : Int32).toNatClampNeg 0) (1 : Int32).toNatClampNeg (-1)) (2 : Int32).toNatClampNeg (-1)) (3 : Int32).toNatClampNeg (-1))))] sz) (fun v u => v = some (.int 0)) (fun _ _ => False) (fun u => [(h0, .inr (8, [.int 1, a1, a2, a3, a4, a5, a6, a7, a8, a9, a10, a11, a12, a13, a14, a15, a16, a17, a18, a19, a20, a21, a22, a23, a24, a25, a26, a27, a28, a29, a30, a31, a32, a33, a34, a35, a36, a37, a38, a39, a40, a41, a42, a43, a44, a45, a46, a47, a48, a49, a50, a51, a52, a53, a54, a55, a56, a57, a58, a59, a60, a61, a62, a63, a64, a65, a66, a67, a68, a69, a70, a71, a72, a73, a74, a75, a76, a77, a78, a79, a80, a81, a82, a83, a84, a85, .ref tr, a87, a88, a89, a90, a91, a92, a93, a94, a95, a96])), (tr, .inl (kt, 4, .inl (upd (upd (upd (upd (fun _ => 0) (0 : Int32).toNatClampNeg 0) (1 : Int32).toNatClampNeg (-1)) (2 : Int32).toNatClampNeg (-1)) (3 : Int32).toNatClampNeg (-1))))]) (fun u => [(kt, .int)])) 0 0 (va_A [(h0, .inr (8, [a0, a1, a2, a3, a4, a5, a6, a7, a8, a9, a10, a11, a12, a13, a14, a15, a16, a17, a18, a19, a20, a21, a22, a23, a24, a25, a26, a27, a28, a29, a30, a31, a32, a33, a34, a35, a36, a37, a38, a39, a40, a41, a42, a43, a44, a45, a46, a47, a48, a49, a50, a51, a52, a53, a54, a55, a56, a57, a58, a59, a60, a61, a62, a63, a64, a65, a66, a67, a68, a69, a70, a71, a72, a73, a74, a75, a76, a77, a78, a79, a80, a81, a82, a83, a84, a85, .ref tr, a87, a88, a89, a90, a91, a92, a93, a94, a95, a96])), (tr, .inl (kt, 4, .inl (upd (upd (upd (upd (fun _ => 0) (0 : Int32).toNatClampNeg 0) (1 : Int32).toNatClampNeg (-1)) (2 : Int32).toNatClampNeg (-1)) (3 : Int32).toNatClampNeg (-1))))] sz) := by
  refine xt_ofW (cc := b_M_trap) (maxL := 2) (ret := (some .int)) (by decide) (List.mem_singleton.mpr rfl) ?_
  intro p e s m args below meth c s₁ B hml htab hv
  obtain ⟨rfl, hsz, hB, hP, hK, hD0⟩ := hv
  subst hsz
  have hx := B.exec
  have hb := B.bytes
  have hr := B.returns
  have hts := hB.1.at ([.ref h0, .int w] : List Value).toArray
  have hown : s.vm.findClass "StackHostModel" = some m.cls := findClass_of_methodNamed B.named
  have hlocks := B.notSynchronized
  have hD := hD0.self (sz := s.heap.size)
  generalize hAe : va_A [(h0, .inr (8, [a0, a1, a2, a3, a4, a5, a6, a7, a8, a9, a10, a11, a12, a13, a14, a15, a16, a17, a18, a19, a20, a21, a22, a23, a24, a25, a26, a27, a28, a29, a30, a31, a32, a33, a34, a35, a36, a37, a38, a39, a40, a41, a42, a43, a44, a45, a46, a47, a48, a49, a50, a51, a52, a53, a54, a55, a56, a57, a58, a59, a60, a61, a62, a63, a64, a65, a66, a67, a68, a69, a70, a71, a72, a73, a74, a75, a76, a77, a78, a79, a80, a81, a82, a83, a84, a85, .ref tr, a87, a88, a89, a90, a91, a92, a93, a94, a95, a96])), (tr, .inl (kt, 4, .inl (upd (upd (upd (upd (fun _ => 0) (0 : Int32).toNatClampNeg 0) (1 : Int32).toNatClampNeg (-1)) (2 : Int32).toNatClampNeg (-1)) (3 : Int32).toNatClampNeg (-1))))] s.heap.size = A at hB hD ⊢
  have hA : ∀ q : Nat, s.heap.size ≤ q → A q := fun q h => by rw [← hAe]; exact Or.inr h
  have hS : va_S A s.heap s.heap [] := va_S.rf
  have hl := lv_entry ([.ref h0, .int w]) (n := 2) (Nat.le_of_ble_eq_true rfl)
  rw [lg_entry_eq]
  generalize (lg_sl ([.ref h0, .int w]) ++ List.replicate (2 - (lg_sl ([.ref h0, .int w])).length) Slot.unset).toArray = ls at hl ⊢
  have hl : lv_has ls 2 [(0, .ref h0), (1, .int w)] := hl
  refine lv_aload_n hx hb d_M_trap_0 rfl (lv_at hl 0 rfl) ?_
  refine lv_iload_n hx hb d_M_trap_1 rfl (lv_at hl 1 rfl) ?_
  refine lv_if_lt (tgt := 14) hx hb d_M_trap_2 rfl (fun h1 => ?_) (fun h1 => ?_)
  · refine lv_iconst (v := 1) hx hb d_M_trap_14 (by decide) ?_
    refine va_put (D := D) (ci := 8) (v := .int 1) (ty := .int) (C := R_M) (T := F_M) (N := 97) hx hb hts fin_M t_M t_M_ok n_M hown hK hP hD hS 0 rfl rfl 0 (by decide) (hts _ m_afabd6a0) (fun _ h9 => h9) rfl (by decide +kernel) (by first | rfl | decide) (by first | rfl | decide) (Nat.le_of_ble_eq_true rfl) d_M_trap_15 (fun H locs hP hD hS => ?_)
    have hP : va_P D xcl [(h0, .inr (8, [.int 1, a1, a2, a3, a4, a5, a6, a7, a8, a9, a10, a11, a12, a13, a14, a15, a16, a17, a18, a19, a20, a21, a22, a23, a24, a25, a26, a27, a28, a29, a30, a31, a32, a33, a34, a35, a36, a37, a38, a39, a40, a41, a42, a43, a44, a45, a46, a47, a48, a49, a50, a51, a52, a53, a54, a55, a56, a57, a58, a59, a60, a61, a62, a63, a64, a65, a66, a67, a68, a69, a70, a71, a72, a73, a74, a75, a76, a77, a78, a79, a80, a81, a82, a83, a84, a85, .ref tr, a87, a88, a89, a90, a91, a92, a93, a94, a95, a96])), (tr, .inl (kt, 4, .inl (upd (upd (upd (upd (fun _ => 0) (0 : Int32).toNatClampNeg 0) (1 : Int32).toNatClampNeg (-1)) (2 : Int32).toNatClampNeg (-1)) (3 : Int32).toNatClampNeg (-1))))] H := hP
    have hD : va_D A [(h0, .inr (8, [.int 1, a1, a2, a3, a4, a5, a6, a7, a8, a9, a10, a11, a12, a13, a14, a15, a16, a17, a18, a19, a20, a21, a22, a23, a24, a25, a26, a27, a28, a29, a30, a31, a32, a33, a34, a35, a36, a37, a38, a39, a40, a41, a42, a43, a44, a45, a46, a47, a48, a49, a50, a51, a52, a53, a54, a55, a56, a57, a58, a59, a60, a61, a62, a63, a64, a65, a66, a67, a68, a69, a70, a71, a72, a73, a74, a75, a76, a77, a78, a79, a80, a81, a82, a83, a84, a85, .ref tr, a87, a88, a89, a90, a91, a92, a93, a94, a95, a96])), (tr, .inl (kt, 4, .inl (upd (upd (upd (upd (fun _ => 0) (0 : Int32).toNatClampNeg 0) (1 : Int32).toNatClampNeg (-1)) (2 : Int32).toNatClampNeg (-1)) (3 : Int32).toNatClampNeg (-1))))] := hD
    refine lv_aload_n hx hb d_M_trap_18 rfl (lv_at hl 0 rfl) ?_
    refine va_get (D := D) (ci := 8) (v := .int 1) (C := R_M) (T := F_M) (N := 97) hx hb hts fin_M hown hK hP 0 rfl rfl 0 (by decide) (hts _ m_afabd6a0) (fun _ h9 => h9) rfl d_M_trap_19 ?_
    refine lv_if_le (tgt := 29) hx hb d_M_trap_22 rfl (fun h9 => absurd h9 (by decide)) (fun _ => ?_)
    refine lv_iconst (v := 0) hx hb d_M_trap_25 (by decide) ?_
    refine lv_goto (tgt := 35) hx hb d_M_trap_26 rfl ?_
    refine W.widen (k := 0) (n := 0) (by decide) (by decide) ?_
    refine xt_mono xt_ofMQ ?_
    exact W.iret hx hb hr (fun t ht hW => ⟨(fun _ => 0), Or.inl ⟨_, rfl, rfl⟩, by rw [ht]; exact hP.sub [0, 1] rfl, va_K.moved hW.alike (hK.sub [0] rfl), hD.sub [0, 1] (by decide) rfl, hS.F ht⟩) hS.2.2 d_M_trap_35 hlocks
  · refine lv_iload_n hx hb d_M_trap_5 rfl (lv_at hl 1 rfl) ?_
    refine lv_iconst (v := 4) hx hb d_M_trap_6 (by decide) ?_
    refine lv_icmp_ge (tgt := 14) hx hb d_M_trap_7 rfl (fun _ => ?_) (fun h9 => absurd (by rcases hw with hw | hw; exact absurd hw ‹¬ w < 0›; exact xt_ge4 hw) h9)
    refine lv_iconst (v := 1) hx hb d_M_trap_14 (by decide) ?_
    refine va_put (D := D) (ci := 8) (v := .int 1) (ty := .int) (C := R_M) (T := F_M) (N := 97) hx hb hts fin_M t_M t_M_ok n_M hown hK hP hD hS 0 rfl rfl 0 (by decide) (hts _ m_afabd6a0) (fun _ h9 => h9) rfl (by decide +kernel) (by first | rfl | decide) (by first | rfl | decide) (Nat.le_of_ble_eq_true rfl) d_M_trap_15 (fun H locs hP hD hS => ?_)
    have hP : va_P D xcl [(h0, .inr (8, [.int 1, a1, a2, a3, a4, a5, a6, a7, a8, a9, a10, a11, a12, a13, a14, a15, a16, a17, a18, a19, a20, a21, a22, a23, a24, a25, a26, a27, a28, a29, a30, a31, a32, a33, a34, a35, a36, a37, a38, a39, a40, a41, a42, a43, a44, a45, a46, a47, a48, a49, a50, a51, a52, a53, a54, a55, a56, a57, a58, a59, a60, a61, a62, a63, a64, a65, a66, a67, a68, a69, a70, a71, a72, a73, a74, a75, a76, a77, a78, a79, a80, a81, a82, a83, a84, a85, .ref tr, a87, a88, a89, a90, a91, a92, a93, a94, a95, a96])), (tr, .inl (kt, 4, .inl (upd (upd (upd (upd (fun _ => 0) (0 : Int32).toNatClampNeg 0) (1 : Int32).toNatClampNeg (-1)) (2 : Int32).toNatClampNeg (-1)) (3 : Int32).toNatClampNeg (-1))))] H := hP
    have hD : va_D A [(h0, .inr (8, [.int 1, a1, a2, a3, a4, a5, a6, a7, a8, a9, a10, a11, a12, a13, a14, a15, a16, a17, a18, a19, a20, a21, a22, a23, a24, a25, a26, a27, a28, a29, a30, a31, a32, a33, a34, a35, a36, a37, a38, a39, a40, a41, a42, a43, a44, a45, a46, a47, a48, a49, a50, a51, a52, a53, a54, a55, a56, a57, a58, a59, a60, a61, a62, a63, a64, a65, a66, a67, a68, a69, a70, a71, a72, a73, a74, a75, a76, a77, a78, a79, a80, a81, a82, a83, a84, a85, .ref tr, a87, a88, a89, a90, a91, a92, a93, a94, a95, a96])), (tr, .inl (kt, 4, .inl (upd (upd (upd (upd (fun _ => 0) (0 : Int32).toNatClampNeg 0) (1 : Int32).toNatClampNeg (-1)) (2 : Int32).toNatClampNeg (-1)) (3 : Int32).toNatClampNeg (-1))))] := hD
    refine lv_aload_n hx hb d_M_trap_18 rfl (lv_at hl 0 rfl) ?_
    refine va_get (D := D) (ci := 8) (v := .int 1) (C := R_M) (T := F_M) (N := 97) hx hb hts fin_M hown hK hP 0 rfl rfl 0 (by decide) (hts _ m_afabd6a0) (fun _ h9 => h9) rfl d_M_trap_19 ?_
    refine lv_if_le (tgt := 29) hx hb d_M_trap_22 rfl (fun h9 => absurd h9 (by decide)) (fun _ => ?_)
    refine lv_iconst (v := 0) hx hb d_M_trap_25 (by decide) ?_
    refine lv_goto (tgt := 35) hx hb d_M_trap_26 rfl ?_
    refine W.widen (k := 0) (n := 0) (by decide) (by decide) ?_
    refine xt_mono xt_ofMQ ?_
    exact W.iret hx hb hr (fun t ht hW => ⟨(fun _ => 0), Or.inl ⟨_, rfl, rfl⟩, by rw [ht]; exact hP.sub [0, 1] rfl, va_K.moved hW.alike (hK.sub [0] rfl), hD.sub [0, 1] (by decide) rfl, hS.F ht⟩) hS.2.2 d_M_trap_35 hlocks

set_option maxHeartbeats 4000000 in
set_option maxRecDepth 100000 in
theorem c_M_push (l : Launch) (D : va_G) (h0 ar ka : Nat) (f : Nat → Int64) (x : Int64) (a0 a1 a2 a3 a4 a5 a6 a7 a8 a9 a10 a11 a12 a13 a14 a15 a16 a17 a18 a19 a20 a21 a22 a23 a24 a25 a26 a27 a28 a29 a30 a31 a32 a33 a34 a35 a36 a37 a38 a39 a40 a41 a42 a43 a44 a45 a46 a47 a48 a49 a50 a51 a52 a53 a54 a55 a56 a57 a58 a59 a60 a61 a62 a63 a64 a67 a68 a69 a70 a71 a72 a73 a74 a75 a76 a77 a78 a79 a80 a81 a82 a83 a84 a85 a86 a87 a88 a89 a90 a91 a92 a93 a94 a95 a96 : Value) (sz : Nat) : xt_Met l y_M_push [.code y_M_push b_M_push 3 (some .int)] ({ frames := 8, cells := 0, slots := 0, locals := 120 }) (xt_P D xcl [.ref h0, .long x] [(h0, .inr (8, [a0, a1, a2, a3, a4, a5, a6, a7, a8, a9, a10, a11, a12, a13, a14, a15, a16, a17, a18, a19, a20, a21, a22, a23, a24, a25, a26, a27, a28, a29, a30, a31, a32, a33, a34, a35, a36, a37, a38, a39, a40, a41, a42, a43, a44, a45, a46, a47, a48, a49, a50, a51, a52, a53, a54, a55, a56, a57, a58, a59, a60, a61, a62, a63, a64, .ref ar, .int 0, a67, a68, a69, a70, a71, a72, a73, a74, a75, a76, a77, a78, a79, a80, a81, a82, a83, a84, a85, a86, a87, a88, a89, a90, a91, a92, a93, a94, a95, a96])), (ar, .inl (ka, 1000, .inr (.inl f)))] [(ka, .long)] sz) (xt_Q (S := Nat → Nat) D xcl (va_A [(h0, .inr (8, [a0, a1, a2, a3, a4, a5, a6, a7, a8, a9, a10, a11, a12, a13, a14, a15, a16, a17, a18, a19, a20, a21, a22, a23, a24, a25, a26, a27, a28, a29, a30, a31, a32, a33, a34, a35, a36, a37, a38, a39, a40, a41, a42, a43, a44, a45, a46, a47, a48, a49, a50, a51, a52, a53, a54, a55, a56, a57, a58, a59, a60, a61, a62, a63, a64, .ref ar, .int 0, a67, a68, a69, a70, a71, a72, a73, a74, a75, a76, a77, a78, a79, a80, a81, a82, a83, a84, a85, a86, a87, a88, a89, a90, a91, a92, a93, a94, a95, a96])), (ar, .inl (ka, 1000, .inr (.inl f)))] sz) (fun v u => v = some (.int 1)) (fun _ _ => False) (fun u => [(h0, .inr (8, [.int 0, a1, a2, a3, a4, a5, a6, a7, a8, a9, a10, a11, a12, a13, a14, a15, a16, a17, a18, a19, a20, a21, a22, a23, a24, a25, a26, a27, a28, a29, a30, a31, a32, a33, a34, a35, a36, a37, a38, a39, a40, a41, a42, a43, a44, a45, a46, a47, a48, a49, a50, a51, a52, a53, a54, a55, a56, a57, a58, a59, a60, a61, a62, a63, a64, .ref ar, .int 1, a67, a68, a69, a70, a71, a72, a73, a74, a75, a76, a77, a78, a79, a80, a81, a82, a83, a84, a85, a86, a87, a88, a89, a90, a91, a92, a93, a94, a95, a96])), (ar, .inl (ka, 1000, .inr (.inl (vp_updL f (0 : Int32).toNatClampNeg x))))]) (fun u => [(ka, .long)])) 0 0 (va_A [(h0, .inr (8, [a0, a1, a2, a3, a4, a5, a6, a7, a8, a9, a10, a11, a12, a13, a14, a15, a16, a17, a18, a19, a20, a21, a22, a23, a24, a25, a26, a27, a28, a29, a30, a31, a32, a33, a34, a35, a36, a37, a38, a39, a40, a41, a42, a43, a44, a45, a46, a47, a48, a49, a50, a51, a52, a53, a54, a55, a56, a57, a58, a59, a60, a61, a62, a63, a64, .ref ar, .int 0, a67, a68, a69, a70, a71, a72, a73, a74, a75, a76, a77, a78, a79, a80, a81, a82, a83, a84, a85, a86, a87, a88, a89, a90, a91, a92, a93, a94, a95, a96])), (ar, .inl (ka, 1000, .inr (.inl f)))] sz) := by
  refine xt_ofW (cc := b_M_push) (maxL := 3) (ret := (some .int)) (by decide) (List.mem_singleton.mpr rfl) ?_
  intro p e s m args below meth c s₁ B hml htab hv
  obtain ⟨rfl, hsz, hB, hP, hK, hD0⟩ := hv
  subst hsz
  have hx := B.exec
  have hb := B.bytes
  have hr := B.returns
  have hts := hB.1.at ([.ref h0, .long x] : List Value).toArray
  have hown : s.vm.findClass "StackHostModel" = some m.cls := findClass_of_methodNamed B.named
  have hlocks := B.notSynchronized
  have hD := hD0.self (sz := s.heap.size)
  generalize hAe : va_A [(h0, .inr (8, [a0, a1, a2, a3, a4, a5, a6, a7, a8, a9, a10, a11, a12, a13, a14, a15, a16, a17, a18, a19, a20, a21, a22, a23, a24, a25, a26, a27, a28, a29, a30, a31, a32, a33, a34, a35, a36, a37, a38, a39, a40, a41, a42, a43, a44, a45, a46, a47, a48, a49, a50, a51, a52, a53, a54, a55, a56, a57, a58, a59, a60, a61, a62, a63, a64, .ref ar, .int 0, a67, a68, a69, a70, a71, a72, a73, a74, a75, a76, a77, a78, a79, a80, a81, a82, a83, a84, a85, a86, a87, a88, a89, a90, a91, a92, a93, a94, a95, a96])), (ar, .inl (ka, 1000, .inr (.inl f)))] s.heap.size = A at hB hD ⊢
  have hA : ∀ q : Nat, s.heap.size ≤ q → A q := fun q h => by rw [← hAe]; exact Or.inr h
  have hS : va_S A s.heap s.heap [] := va_S.rf
  have hl := lv_entry ([.ref h0, .long x]) (n := 3) (Nat.le_of_ble_eq_true rfl)
  rw [lg_entry_eq]
  generalize (lg_sl ([.ref h0, .long x]) ++ List.replicate (3 - (lg_sl ([.ref h0, .long x])).length) Slot.unset).toArray = ls at hl ⊢
  have hl : lv_has ls 3 [(0, .ref h0), (1, .long x)] := hl
  refine lv_aload_n hx hb d_M_push_0 rfl (lv_at hl 0 rfl) ?_
  refine lv_aload_n hx hb d_M_push_1 rfl (lv_at hl 0 rfl) ?_
  refine va_get (D := D) (ci := 8) (v := .int 0) (C := R_M) (T := F_M) (N := 97) hx hb hts fin_M hown hK hP 0 rfl rfl 66 (by decide) (hts _ m_d42439d2) (fun _ h9 => h9) rfl d_M_push_2 ?_
  refine lv_sipush (v := 1000) hx hb d_M_push_5 (by decide) ?_
  refine lv_icmp_ne (tgt := 15) hx hb d_M_push_8 rfl (fun _ => ?_) (fun h9 => absurd h9 (by decide))
  refine lv_iconst (v := 0) hx hb d_M_push_15 (by decide) ?_
  refine va_put (D := D) (ci := 8) (v := .int 0) (ty := .int) (C := R_M) (T := F_M) (N := 97) hx hb hts fin_M t_M t_M_ok n_M hown hK hP hD hS 0 rfl rfl 0 (by decide) (hts _ m_afabd6a0) (fun _ h9 => h9) rfl (by decide +kernel) (by first | rfl | decide) (by first | rfl | decide) (Nat.le_of_ble_eq_true rfl) d_M_push_16 (fun H locs hP hD hS => ?_)
  have hP : va_P D xcl [(h0, .inr (8, [.int 0, a1, a2, a3, a4, a5, a6, a7, a8, a9, a10, a11, a12, a13, a14, a15, a16, a17, a18, a19, a20, a21, a22, a23, a24, a25, a26, a27, a28, a29, a30, a31, a32, a33, a34, a35, a36, a37, a38, a39, a40, a41, a42, a43, a44, a45, a46, a47, a48, a49, a50, a51, a52, a53, a54, a55, a56, a57, a58, a59, a60, a61, a62, a63, a64, .ref ar, .int 0, a67, a68, a69, a70, a71, a72, a73, a74, a75, a76, a77, a78, a79, a80, a81, a82, a83, a84, a85, a86, a87, a88, a89, a90, a91, a92, a93, a94, a95, a96])), (ar, .inl (ka, 1000, .inr (.inl f)))] H := hP
  have hD : va_D A [(h0, .inr (8, [.int 0, a1, a2, a3, a4, a5, a6, a7, a8, a9, a10, a11, a12, a13, a14, a15, a16, a17, a18, a19, a20, a21, a22, a23, a24, a25, a26, a27, a28, a29, a30, a31, a32, a33, a34, a35, a36, a37, a38, a39, a40, a41, a42, a43, a44, a45, a46, a47, a48, a49, a50, a51, a52, a53, a54, a55, a56, a57, a58, a59, a60, a61, a62, a63, a64, .ref ar, .int 0, a67, a68, a69, a70, a71, a72, a73, a74, a75, a76, a77, a78, a79, a80, a81, a82, a83, a84, a85, a86, a87, a88, a89, a90, a91, a92, a93, a94, a95, a96])), (ar, .inl (ka, 1000, .inr (.inl f)))] := hD
  refine lv_aload_n hx hb d_M_push_19 rfl (lv_at hl 0 rfl) ?_
  refine va_get (D := D) (ci := 8) (v := .int 0) (C := R_M) (T := F_M) (N := 97) hx hb hts fin_M hown hK hP 0 rfl rfl 0 (by decide) (hts _ m_afabd6a0) (fun _ h9 => h9) rfl d_M_push_20 ?_
  refine lv_if_le (tgt := 28) hx hb d_M_push_23 rfl (fun _ => ?_) (fun h9 => absurd h9 (by decide))
  refine lv_aload_n hx hb d_M_push_28 rfl (lv_at hl 0 rfl) ?_
  refine va_get (D := D) (ci := 8) (v := .ref ar) (C := R_M) (T := F_M) (N := 97) hx hb hts fin_M hown hK hP 0 rfl rfl 65 (by decide) (hts _ m_37875847) (fun _ h9 => h9) rfl d_M_push_29 ?_
  refine lv_aload_n hx hb d_M_push_32 rfl (lv_at hl 0 rfl) ?_
  refine va_get (D := D) (ci := 8) (v := .int 0) (C := R_M) (T := F_M) (N := 97) hx hb hts fin_M hown hK hP 0 rfl rfl 66 (by decide) (hts _ m_d42439d2) (fun _ h9 => h9) rfl d_M_push_33 ?_
  refine lv_lload_n hx hb d_M_push_36 rfl (lv_at hl 1 rfl) ?_
  refine va_last (i := 0) (x := x) hx hb hK hP hD hS 1 0 rfl rfl (xt_vin (by decide +kernel)) d_M_push_37 (fun H locs hP hD hS => ?_)
  have hP : va_P D xcl [(h0, .inr (8, [.int 0, a1, a2, a3, a4, a5, a6, a7, a8, a9, a10, a11, a12, a13, a14, a15, a16, a17, a18, a19, a20, a21, a22, a23, a24, a25, a26, a27, a28, a29, a30, a31, a32, a33, a34, a35, a36, a37, a38, a39, a40, a41, a42, a43, a44, a45, a46, a47, a48, a49, a50, a51, a52, a53, a54, a55, a56, a57, a58, a59, a60, a61, a62, a63, a64, .ref ar, .int 0, a67, a68, a69, a70, a71, a72, a73, a74, a75, a76, a77, a78, a79, a80, a81, a82, a83, a84, a85, a86, a87, a88, a89, a90, a91, a92, a93, a94, a95, a96])), (ar, .inl (ka, 1000, .inr (.inl (vp_updL f (0 : Int32).toNatClampNeg x))))] H := hP
  have hD : va_D A [(h0, .inr (8, [.int 0, a1, a2, a3, a4, a5, a6, a7, a8, a9, a10, a11, a12, a13, a14, a15, a16, a17, a18, a19, a20, a21, a22, a23, a24, a25, a26, a27, a28, a29, a30, a31, a32, a33, a34, a35, a36, a37, a38, a39, a40, a41, a42, a43, a44, a45, a46, a47, a48, a49, a50, a51, a52, a53, a54, a55, a56, a57, a58, a59, a60, a61, a62, a63, a64, .ref ar, .int 0, a67, a68, a69, a70, a71, a72, a73, a74, a75, a76, a77, a78, a79, a80, a81, a82, a83, a84, a85, a86, a87, a88, a89, a90, a91, a92, a93, a94, a95, a96])), (ar, .inl (ka, 1000, .inr (.inl (vp_updL f (0 : Int32).toNatClampNeg x))))] := hD
  refine lv_aload_n hx hb d_M_push_38 rfl (lv_at hl 0 rfl) ?_
  refine lv_dup hx hb d_M_push_39 rfl ?_
  refine va_get (D := D) (ci := 8) (v := .int 0) (C := R_M) (T := F_M) (N := 97) hx hb hts fin_M hown hK hP 0 rfl rfl 66 (by decide) (hts _ m_d42439d2) (fun _ h9 => h9) rfl d_M_push_40 ?_
  refine lv_iconst (v := 1) hx hb d_M_push_43 (by decide) ?_
  refine lv_iadd hx hb d_M_push_44 ?_
  refine xt_numi (y := 1) (by decide) ?_
  refine va_put (D := D) (ci := 8) (v := .int 1) (ty := .int) (C := R_M) (T := F_M) (N := 97) hx hb hts fin_M t_M t_M_ok n_M hown hK hP hD hS 0 rfl rfl 66 (by decide) (hts _ m_d42439d2) (fun _ h9 => h9) rfl (by decide +kernel) (by first | rfl | decide) (by first | rfl | decide) (Nat.le_of_ble_eq_true rfl) d_M_push_45 (fun H locs hP hD hS => ?_)
  have hP : va_P D xcl [(h0, .inr (8, [.int 0, a1, a2, a3, a4, a5, a6, a7, a8, a9, a10, a11, a12, a13, a14, a15, a16, a17, a18, a19, a20, a21, a22, a23, a24, a25, a26, a27, a28, a29, a30, a31, a32, a33, a34, a35, a36, a37, a38, a39, a40, a41, a42, a43, a44, a45, a46, a47, a48, a49, a50, a51, a52, a53, a54, a55, a56, a57, a58, a59, a60, a61, a62, a63, a64, .ref ar, .int 1, a67, a68, a69, a70, a71, a72, a73, a74, a75, a76, a77, a78, a79, a80, a81, a82, a83, a84, a85, a86, a87, a88, a89, a90, a91, a92, a93, a94, a95, a96])), (ar, .inl (ka, 1000, .inr (.inl (vp_updL f (0 : Int32).toNatClampNeg x))))] H := hP
  have hD : va_D A [(h0, .inr (8, [.int 0, a1, a2, a3, a4, a5, a6, a7, a8, a9, a10, a11, a12, a13, a14, a15, a16, a17, a18, a19, a20, a21, a22, a23, a24, a25, a26, a27, a28, a29, a30, a31, a32, a33, a34, a35, a36, a37, a38, a39, a40, a41, a42, a43, a44, a45, a46, a47, a48, a49, a50, a51, a52, a53, a54, a55, a56, a57, a58, a59, a60, a61, a62, a63, a64, .ref ar, .int 1, a67, a68, a69, a70, a71, a72, a73, a74, a75, a76, a77, a78, a79, a80, a81, a82, a83, a84, a85, a86, a87, a88, a89, a90, a91, a92, a93, a94, a95, a96])), (ar, .inl (ka, 1000, .inr (.inl (vp_updL f (0 : Int32).toNatClampNeg x))))] := hD
  refine lv_aload_n hx hb d_M_push_48 rfl (lv_at hl 0 rfl) ?_
  refine va_get (D := D) (ci := 8) (v := .int 1) (C := R_M) (T := F_M) (N := 97) hx hb hts fin_M hown hK hP 0 rfl rfl 66 (by decide) (hts _ m_d42439d2) (fun _ h9 => h9) rfl d_M_push_49 ?_
  refine W.widen (k := 0) (n := 0) (by decide) (by decide) ?_
  refine xt_mono xt_ofMQ ?_
  exact W.iret hx hb hr (fun t ht hW => ⟨(fun _ => 0), Or.inl ⟨_, rfl, rfl⟩, by rw [ht]; exact hP.sub [0, 1] rfl, va_K.moved hW.alike (hK.sub [0] rfl), hD.sub [0, 1] (by decide) rfl, hS.F ht⟩) hS.2.2 d_M_push_52 hlocks

set_option maxHeartbeats 4000000 in
set_option maxRecDepth 100000 in
theorem c_H_feedNumber_0 (l : Launch) (D : va_G) (h0 tp kt : Nat) (f : Nat → Int32) (x : Int32) (a2 a3 a4 a5 a6 a7 a8 a9 a10 : Value) (sz : Nat) : xt_Met l y_H_feedNumber [.code y_H_feedNumber b_H_feedNumber 3 none] ({ frames := 8, cells := 0, slots := 0, locals := 120 }) (xt_P D xcl [.ref h0, .int x] [(h0, .inr (0, [.ref tp, .int 0, a2, a3, a4, a5, a6, a7, a8, a9, a10])), (tp, .inl (kt, 20, .inl f))] [(kt, .byte)] sz) (xt_Q (S := Nat → Nat) D xcl (va_A [(h0, .inr (0, [.ref tp, .int 0, a2, a3, a4, a5, a6, a7, a8, a9, a10])), (tp, .inl (kt, 20, .inl f))] sz) (fun v _ => v = none) (fun _ _ => False) (fun u => [(h0, .inr (0, [.ref tp, .int 4, a2, a3, a4, a5, a6, a7, a8, a9, a10])), (tp, .inl (kt, 20, .inl (upd (upd (upd (upd f (0 : Int32).toNatClampNeg (vp_nar .byte (((x : Int32).toUInt32 >>> ((24 : Int32).toUInt32 &&& Int32.toUInt32 31)).toInt32 : Int32).toInt8.toInt32)) (1 : Int32).toNatClampNeg (vp_nar .byte (((x : Int32).toUInt32 >>> ((16 : Int32).toUInt32 &&& Int32.toUInt32 31)).toInt32 : Int32).toInt8.toInt32)) (2 : Int32).toNatClampNeg (vp_nar .byte (((x : Int32).toUInt32 >>> ((8 : Int32).toUInt32 &&& Int32.toUInt32 31)).toInt32 : Int32).toInt8.toInt32)) (3 : Int32).toNatClampNeg (vp_nar .byte (((x : Int32).toUInt32 >>> ((0 : Int32).toUInt32 &&& Int32.toUInt32 31)).toInt32 : Int32).toInt8.toInt32))))]) (fun u => [(kt, .byte)])) 0 0 (va_A [(h0, .inr (0, [.ref tp, .int 0, a2, a3, a4, a5, a6, a7, a8, a9, a10])), (tp, .inl (kt, 20, .inl f))] sz) := by
  refine xt_ofW (cc := b_H_feedNumber) (maxL := 3) (ret := none) (by decide) (List.mem_singleton.mpr rfl) ?_
  intro p e s m args below meth c s₁ B hml htab hv
  obtain ⟨rfl, hsz, hB, hP, hK, hD0⟩ := hv
  subst hsz
  have hx := B.exec
  have hb := B.bytes
  have hr := B.returns
  have hts := hB.1.at ([.ref h0, .int x] : List Value).toArray
  have hown : s.vm.findClass "StackHost" = some m.cls := findClass_of_methodNamed B.named
  have hlocks := B.notSynchronized
  have hD := hD0.self (sz := s.heap.size)
  generalize hAe : va_A [(h0, .inr (0, [.ref tp, .int 0, a2, a3, a4, a5, a6, a7, a8, a9, a10])), (tp, .inl (kt, 20, .inl f))] s.heap.size = A at hB hD ⊢
  have hA : ∀ q : Nat, s.heap.size ≤ q → A q := fun q h => by rw [← hAe]; exact Or.inr h
  have hS : va_S A s.heap s.heap [] := va_S.rf
  have hl := lv_entry ([.ref h0, .int x]) (n := 3) (Nat.le_of_ble_eq_true rfl)
  rw [lg_entry_eq]
  generalize (lg_sl ([.ref h0, .int x]) ++ List.replicate (3 - (lg_sl ([.ref h0, .int x])).length) Slot.unset).toArray = ls at hl ⊢
  have hl : lv_has ls 3 [(0, .ref h0), (1, .int x)] := hl
  refine lv_bipush (v := 24) hx hb d_H_feedNumber_0 (by decide) ?_
  refine lv_istore_n hx hb d_H_feedNumber_2 rfl hl (by decide) rfl (fun ls hl => ?_)
  have hl : lv_has ls 3 [(2, .int 24), (0, .ref h0), (1, .int x)] := hl
  refine lv_iload_n hx hb d_H_feedNumber_3 rfl (lv_at hl 0 rfl) ?_
  refine lv_if_lt (tgt := 36) hx hb d_H_feedNumber_4 rfl (fun h9 => absurd h9 (by decide)) (fun _ => ?_)
  refine lv_aload_n hx hb d_H_feedNumber_7 rfl (lv_at hl 1 rfl) ?_
  refine va_get (D := D) (ci := 0) (v := .ref tp) (C := R_H) (T := F_H) (N := 11) hx hb hts fin_H hown hK hP 0 rfl rfl 0 (by decide) (hts _ m_4570233e) (fun _ h9 => h9) rfl d_H_feedNumber_8 ?_
  refine lv_aload_n hx hb d_H_feedNumber_11 rfl (lv_at hl 1 rfl) ?_
  refine va_get (D := D) (ci := 0) (v := .int 0) (C := R_H) (T := F_H) (N := 11) hx hb hts fin_H hown hK hP 0 rfl rfl 1 (by decide) (hts _ m_1ee8d2b8) (fun _ h9 => h9) rfl d_H_feedNumber_12 ?_
  refine lv_iload_n hx hb d_H_feedNumber_15 rfl (lv_at hl 2 rfl) ?_
  refine lv_iload_n hx hb d_H_feedNumber_16 rfl (lv_at hl 0 rfl) ?_
  refine lv_iushr hx hb d_H_feedNumber_17 rfl ?_
  refine lv_i2b hx hb d_H_feedNumber_18 rfl ?_
  refine va_bast (i := 0) (x := (((x : Int32).toUInt32 >>> ((24 : Int32).toUInt32 &&& Int32.toUInt32 31)).toInt32 : Int32).toInt8.toInt32) hx hb hK hP hD hS 1 0 rfl rfl (xt_vin (by decide +kernel)) d_H_feedNumber_19 (fun H locs hP hD hS => ?_)
  have hP : va_P D xcl [(h0, .inr (0, [.ref tp, .int 0, a2, a3, a4, a5, a6, a7, a8, a9, a10])), (tp, .inl (kt, 20, .inl (upd f (0 : Int32).toNatClampNeg (vp_nar .byte (((x : Int32).toUInt32 >>> ((24 : Int32).toUInt32 &&& Int32.toUInt32 31)).toInt32 : Int32).toInt8.toInt32))))] H := hP
  have hD : va_D A [(h0, .inr (0, [.ref tp, .int 0, a2, a3, a4, a5, a6, a7, a8, a9, a10])), (tp, .inl (kt, 20, .inl (upd f (0 : Int32).toNatClampNeg (vp_nar .byte (((x : Int32).toUInt32 >>> ((24 : Int32).toUInt32 &&& Int32.toUInt32 31)).toInt32 : Int32).toInt8.toInt32))))] := hD
  refine lv_aload_n hx hb d_H_feedNumber_20 rfl (lv_at hl 1 rfl) ?_
  refine lv_dup hx hb d_H_feedNumber_21 rfl ?_
  refine va_get (D := D) (ci := 0) (v := .int 0) (C := R_H) (T := F_H) (N := 11) hx hb hts fin_H hown hK hP 0 rfl rfl 1 (by decide) (hts _ m_1ee8d2b8) (fun _ h9 => h9) rfl d_H_feedNumber_22 ?_
  refine lv_iconst (v := 1) hx hb d_H_feedNumber_25 (by decide) ?_
  refine lv_iadd hx hb d_H_feedNumber_26 ?_
  refine xt_numi (y := 1) (by decide) ?_
  refine va_put (D := D) (ci := 0) (v := .int 1) (ty := .int) (C := R_H) (T := F_H) (N := 11) hx hb hts fin_H t_H t_H_ok n_H hown hK hP hD hS 0 rfl rfl 1 (by decide) (hts _ m_1ee8d2b8) (fun _ h9 => h9) rfl (by decide +kernel) (by first | rfl | decide) (by first | rfl | decide) (Nat.le_of_ble_eq_true rfl) d_H_feedNumber_27 (fun H locs hP hD hS => ?_)
  have hP : va_P D xcl [(h0, .inr (0, [.ref tp, .int 1, a2, a3, a4, a5, a6, a7, a8, a9, a10])), (tp, .inl (kt, 20, .inl (upd f (0 : Int32).toNatClampNeg (vp_nar .byte (((x : Int32).toUInt32 >>> ((24 : Int32).toUInt32 &&& Int32.toUInt32 31)).toInt32 : Int32).toInt8.toInt32))))] H := hP
  have hD : va_D A [(h0, .inr (0, [.ref tp, .int 1, a2, a3, a4, a5, a6, a7, a8, a9, a10])), (tp, .inl (kt, 20, .inl (upd f (0 : Int32).toNatClampNeg (vp_nar .byte (((x : Int32).toUInt32 >>> ((24 : Int32).toUInt32 &&& Int32.toUInt32 31)).toInt32 : Int32).toInt8.toInt32))))] := hD
  refine lv_iinc (v := 16) (k := 0) hx hb d_H_feedNumber_30 hl rfl (by first | decide | rfl) (by decide) rfl (fun ls hl => ?_)
  have hl : lv_has ls 3 [(2, .int 16), (0, .ref h0), (1, .int x)] := hl
  refine lv_goto (tgt := 3) hx hb d_H_feedNumber_33 rfl ?_
  refine lv_iload_n hx hb d_H_feedNumber_3 rfl (lv_at hl 0 rfl) ?_
  refine lv_if_lt (tgt := 36) hx hb d_H_feedNumber_4 rfl (fun h9 => absurd h9 (by decide)) (fun _ => ?_)
  refine lv_aload_n hx hb d_H_feedNumber_7 rfl (lv_at hl 1 rfl) ?_
  refine va_get (D := D) (ci := 0) (v := .ref tp) (C := R_H) (T := F_H) (N := 11) hx hb hts fin_H hown hK hP 0 rfl rfl 0 (by decide) (hts _ m_4570233e) (fun _ h9 => h9) rfl d_H_feedNumber_8 ?_
  refine lv_aload_n hx hb d_H_feedNumber_11 rfl (lv_at hl 1 rfl) ?_
  refine va_get (D := D) (ci := 0) (v := .int 1) (C := R_H) (T := F_H) (N := 11) hx hb hts fin_H hown hK hP 0 rfl rfl 1 (by decide) (hts _ m_1ee8d2b8) (fun _ h9 => h9) rfl d_H_feedNumber_12 ?_
  refine lv_iload_n hx hb d_H_feedNumber_15 rfl (lv_at hl 2 rfl) ?_
  refine lv_iload_n hx hb d_H_feedNumber_16 rfl (lv_at hl 0 rfl) ?_
  refine lv_iushr hx hb d_H_feedNumber_17 rfl ?_
  refine lv_i2b hx hb d_H_feedNumber_18 rfl ?_
  refine va_bast (i := 1) (x := (((x : Int32).toUInt32 >>> ((16 : Int32).toUInt32 &&& Int32.toUInt32 31)).toInt32 : Int32).toInt8.toInt32) hx hb hK hP hD hS 1 0 rfl rfl (xt_vin (by decide +kernel)) d_H_feedNumber_19 (fun H locs hP hD hS => ?_)
  have hP : va_P D xcl [(h0, .inr (0, [.ref tp, .int 1, a2, a3, a4, a5, a6, a7, a8, a9, a10])), (tp, .inl (kt, 20, .inl (upd (upd f (0 : Int32).toNatClampNeg (vp_nar .byte (((x : Int32).toUInt32 >>> ((24 : Int32).toUInt32 &&& Int32.toUInt32 31)).toInt32 : Int32).toInt8.toInt32)) (1 : Int32).toNatClampNeg (vp_nar .byte (((x : Int32).toUInt32 >>> ((16 : Int32).toUInt32 &&& Int32.toUInt32 31)).toInt32 : Int32).toInt8.toInt32))))] H := hP
  have hD : va_D A [(h0, .inr (0, [.ref tp, .int 1, a2, a3, a4, a5, a6, a7, a8, a9, a10])), (tp, .inl (kt, 20, .inl (upd (upd f (0 : Int32).toNatClampNeg (vp_nar .byte (((x : Int32).toUInt32 >>> ((24 : Int32).toUInt32 &&& Int32.toUInt32 31)).toInt32 : Int32).toInt8.toInt32)) (1 : Int32).toNatClampNeg (vp_nar .byte (((x : Int32).toUInt32 >>> ((16 : Int32).toUInt32 &&& Int32.toUInt32 31)).toInt32 : Int32).toInt8.toInt32))))] := hD
  refine lv_aload_n hx hb d_H_feedNumber_20 rfl (lv_at hl 1 rfl) ?_
  refine lv_dup hx hb d_H_feedNumber_21 rfl ?_
  refine va_get (D := D) (ci := 0) (v := .int 1) (C := R_H) (T := F_H) (N := 11) hx hb hts fin_H hown hK hP 0 rfl rfl 1 (by decide) (hts _ m_1ee8d2b8) (fun _ h9 => h9) rfl d_H_feedNumber_22 ?_
  refine lv_iconst (v := 1) hx hb d_H_feedNumber_25 (by decide) ?_
  refine lv_iadd hx hb d_H_feedNumber_26 ?_
  refine xt_numi (y := 2) (by decide) ?_
  refine va_put (D := D) (ci := 0) (v := .int 2) (ty := .int) (C := R_H) (T := F_H) (N := 11) hx hb hts fin_H t_H t_H_ok n_H hown hK hP hD hS 0 rfl rfl 1 (by decide) (hts _ m_1ee8d2b8) (fun _ h9 => h9) rfl (by decide +kernel) (by first | rfl | decide) (by first | rfl | decide) (Nat.le_of_ble_eq_true rfl) d_H_feedNumber_27 (fun H locs hP hD hS => ?_)
  have hP : va_P D xcl [(h0, .inr (0, [.ref tp, .int 2, a2, a3, a4, a5, a6, a7, a8, a9, a10])), (tp, .inl (kt, 20, .inl (upd (upd f (0 : Int32).toNatClampNeg (vp_nar .byte (((x : Int32).toUInt32 >>> ((24 : Int32).toUInt32 &&& Int32.toUInt32 31)).toInt32 : Int32).toInt8.toInt32)) (1 : Int32).toNatClampNeg (vp_nar .byte (((x : Int32).toUInt32 >>> ((16 : Int32).toUInt32 &&& Int32.toUInt32 31)).toInt32 : Int32).toInt8.toInt32))))] H := hP
  have hD : va_D A [(h0, .inr (0, [.ref tp, .int 2, a2, a3, a4, a5, a6, a7, a8, a9, a10])), (tp, .inl (kt, 20, .inl (upd (upd f (0 : Int32).toNatClampNeg (vp_nar .byte (((x : Int32).toUInt32 >>> ((24 : Int32).toUInt32 &&& Int32.toUInt32 31)).toInt32 : Int32).toInt8.toInt32)) (1 : Int32).toNatClampNeg (vp_nar .byte (((x : Int32).toUInt32 >>> ((16 : Int32).toUInt32 &&& Int32.toUInt32 31)).toInt32 : Int32).toInt8.toInt32))))] := hD
  refine lv_iinc (v := 8) (k := 0) hx hb d_H_feedNumber_30 hl rfl (by first | decide | rfl) (by decide) rfl (fun ls hl => ?_)
  have hl : lv_has ls 3 [(2, .int 8), (0, .ref h0), (1, .int x)] := hl
  refine lv_goto (tgt := 3) hx hb d_H_feedNumber_33 rfl ?_
  refine lv_iload_n hx hb d_H_feedNumber_3 rfl (lv_at hl 0 rfl) ?_
  refine lv_if_lt (tgt := 36) hx hb d_H_feedNumber_4 rfl (fun h9 => absurd h9 (by decide)) (fun _ => ?_)
  refine lv_aload_n hx hb d_H_feedNumber_7 rfl (lv_at hl 1 rfl) ?_
  refine va_get (D := D) (ci := 0) (v := .ref tp) (C := R_H) (T := F_H) (N := 11) hx hb hts fin_H hown hK hP 0 rfl rfl 0 (by decide) (hts _ m_4570233e) (fun _ h9 => h9) rfl d_H_feedNumber_8 ?_
  refine lv_aload_n hx hb d_H_feedNumber_11 rfl (lv_at hl 1 rfl) ?_
  refine va_get (D := D) (ci := 0) (v := .int 2) (C := R_H) (T := F_H) (N := 11) hx hb hts fin_H hown hK hP 0 rfl rfl 1 (by decide) (hts _ m_1ee8d2b8) (fun _ h9 => h9) rfl d_H_feedNumber_12 ?_
  refine lv_iload_n hx hb d_H_feedNumber_15 rfl (lv_at hl 2 rfl) ?_
  refine lv_iload_n hx hb d_H_feedNumber_16 rfl (lv_at hl 0 rfl) ?_
  refine lv_iushr hx hb d_H_feedNumber_17 rfl ?_
  refine lv_i2b hx hb d_H_feedNumber_18 rfl ?_
  refine va_bast (i := 2) (x := (((x : Int32).toUInt32 >>> ((8 : Int32).toUInt32 &&& Int32.toUInt32 31)).toInt32 : Int32).toInt8.toInt32) hx hb hK hP hD hS 1 0 rfl rfl (xt_vin (by decide +kernel)) d_H_feedNumber_19 (fun H locs hP hD hS => ?_)
  have hP : va_P D xcl [(h0, .inr (0, [.ref tp, .int 2, a2, a3, a4, a5, a6, a7, a8, a9, a10])), (tp, .inl (kt, 20, .inl (upd (upd (upd f (0 : Int32).toNatClampNeg (vp_nar .byte (((x : Int32).toUInt32 >>> ((24 : Int32).toUInt32 &&& Int32.toUInt32 31)).toInt32 : Int32).toInt8.toInt32)) (1 : Int32).toNatClampNeg (vp_nar .byte (((x : Int32).toUInt32 >>> ((16 : Int32).toUInt32 &&& Int32.toUInt32 31)).toInt32 : Int32).toInt8.toInt32)) (2 : Int32).toNatClampNeg (vp_nar .byte (((x : Int32).toUInt32 >>> ((8 : Int32).toUInt32 &&& Int32.toUInt32 31)).toInt32 : Int32).toInt8.toInt32))))] H := hP
  have hD : va_D A [(h0, .inr (0, [.ref tp, .int 2, a2, a3, a4, a5, a6, a7, a8, a9, a10])), (tp, .inl (kt, 20, .inl (upd (upd (upd f (0 : Int32).toNatClampNeg (vp_nar .byte (((x : Int32).toUInt32 >>> ((24 : Int32).toUInt32 &&& Int32.toUInt32 31)).toInt32 : Int32).toInt8.toInt32)) (1 : Int32).toNatClampNeg (vp_nar .byte (((x : Int32).toUInt32 >>> ((16 : Int32).toUInt32 &&& Int32.toUInt32 31)).toInt32 : Int32).toInt8.toInt32)) (2 : Int32).toNatClampNeg (vp_nar .byte (((x : Int32).toUInt32 >>> ((8 : Int32).toUInt32 &&& Int32.toUInt32 31)).toInt32 : Int32).toInt8.toInt32))))] := hD
  refine lv_aload_n hx hb d_H_feedNumber_20 rfl (lv_at hl 1 rfl) ?_
  refine lv_dup hx hb d_H_feedNumber_21 rfl ?_
  refine va_get (D := D) (ci := 0) (v := .int 2) (C := R_H) (T := F_H) (N := 11) hx hb hts fin_H hown hK hP 0 rfl rfl 1 (by decide) (hts _ m_1ee8d2b8) (fun _ h9 => h9) rfl d_H_feedNumber_22 ?_
  refine lv_iconst (v := 1) hx hb d_H_feedNumber_25 (by decide) ?_
  refine lv_iadd hx hb d_H_feedNumber_26 ?_
  refine xt_numi (y := 3) (by decide) ?_
  refine va_put (D := D) (ci := 0) (v := .int 3) (ty := .int) (C := R_H) (T := F_H) (N := 11) hx hb hts fin_H t_H t_H_ok n_H hown hK hP hD hS 0 rfl rfl 1 (by decide) (hts _ m_1ee8d2b8) (fun _ h9 => h9) rfl (by decide +kernel) (by first | rfl | decide) (by first | rfl | decide) (Nat.le_of_ble_eq_true rfl) d_H_feedNumber_27 (fun H locs hP hD hS => ?_)
  have hP : va_P D xcl [(h0, .inr (0, [.ref tp, .int 3, a2, a3, a4, a5, a6, a7, a8, a9, a10])), (tp, .inl (kt, 20, .inl (upd (upd (upd f (0 : Int32).toNatClampNeg (vp_nar .byte (((x : Int32).toUInt32 >>> ((24 : Int32).toUInt32 &&& Int32.toUInt32 31)).toInt32 : Int32).toInt8.toInt32)) (1 : Int32).toNatClampNeg (vp_nar .byte (((x : Int32).toUInt32 >>> ((16 : Int32).toUInt32 &&& Int32.toUInt32 31)).toInt32 : Int32).toInt8.toInt32)) (2 : Int32).toNatClampNeg (vp_nar .byte (((x : Int32).toUInt32 >>> ((8 : Int32).toUInt32 &&& Int32.toUInt32 31)).toInt32 : Int32).toInt8.toInt32))))] H := hP
  have hD : va_D A [(h0, .inr (0, [.ref tp, .int 3, a2, a3, a4, a5, a6, a7, a8, a9, a10])), (tp, .inl (kt, 20, .inl (upd (upd (upd f (0 : Int32).toNatClampNeg (vp_nar .byte (((x : Int32).toUInt32 >>> ((24 : Int32).toUInt32 &&& Int32.toUInt32 31)).toInt32 : Int32).toInt8.toInt32)) (1 : Int32).toNatClampNeg (vp_nar .byte (((x : Int32).toUInt32 >>> ((16 : Int32).toUInt32 &&& Int32.toUInt32 31)).toInt32 : Int32).toInt8.toInt32)) (2 : Int32).toNatClampNeg (vp_nar .byte (((x : Int32).toUInt32 >>> ((8 : Int32).toUInt32 &&& Int32.toUInt32 31)).toInt32 : Int32).toInt8.toInt32))))] := hD
  refine lv_iinc (v := 0) (k := 0) hx hb d_H_feedNumber_30 hl rfl (by first | decide | rfl) (by decide) rfl (fun ls hl => ?_)
  have hl : lv_has ls 3 [(2, .int 0), (0, .ref h0), (1, .int x)] := hl
  refine lv_goto (tgt := 3) hx hb d_H_feedNumber_33 rfl ?_
  refine lv_iload_n hx hb d_H_feedNumber_3 rfl (lv_at hl 0 rfl) ?_
  refine lv_if_lt (tgt := 36) hx hb d_H_feedNumber_4 rfl (fun h9 => absurd h9 (by decide)) (fun _ => ?_)
  refine lv_aload_n hx hb d_H_feedNumber_7 rfl (lv_at hl 1 rfl) ?_
  refine va_get (D := D) (ci := 0) (v := .ref tp) (C := R_H) (T := F_H) (N := 11) hx hb hts fin_H hown hK hP 0 rfl rfl 0 (by decide) (hts _ m_4570233e) (fun _ h9 => h9) rfl d_H_feedNumber_8 ?_
  refine lv_aload_n hx hb d_H_feedNumber_11 rfl (lv_at hl 1 rfl) ?_
  refine va_get (D := D) (ci := 0) (v := .int 3) (C := R_H) (T := F_H) (N := 11) hx hb hts fin_H hown hK hP 0 rfl rfl 1 (by decide) (hts _ m_1ee8d2b8) (fun _ h9 => h9) rfl d_H_feedNumber_12 ?_
  refine lv_iload_n hx hb d_H_feedNumber_15 rfl (lv_at hl 2 rfl) ?_
  refine lv_iload_n hx hb d_H_feedNumber_16 rfl (lv_at hl 0 rfl) ?_
  refine lv_iushr hx hb d_H_feedNumber_17 rfl ?_
  refine lv_i2b hx hb d_H_feedNumber_18 rfl ?_
  refine va_bast (i := 3) (x := (((x : Int32).toUInt32 >>> ((0 : Int32).toUInt32 &&& Int32.toUInt32 31)).toInt32 : Int32).toInt8.toInt32) hx hb hK hP hD hS 1 0 rfl rfl (xt_vin (by decide +kernel)) d_H_feedNumber_19 (fun H locs hP hD hS => ?_)
  have hP : va_P D xcl [(h0, .inr (0, [.ref tp, .int 3, a2, a3, a4, a5, a6, a7, a8, a9, a10])), (tp, .inl (kt, 20, .inl (upd (upd (upd (upd f (0 : Int32).toNatClampNeg (vp_nar .byte (((x : Int32).toUInt32 >>> ((24 : Int32).toUInt32 &&& Int32.toUInt32 31)).toInt32 : Int32).toInt8.toInt32)) (1 : Int32).toNatClampNeg (vp_nar .byte (((x : Int32).toUInt32 >>> ((16 : Int32).toUInt32 &&& Int32.toUInt32 31)).toInt32 : Int32).toInt8.toInt32)) (2 : Int32).toNatClampNeg (vp_nar .byte (((x : Int32).toUInt32 >>> ((8 : Int32).toUInt32 &&& Int32.toUInt32 31)).toInt32 : Int32).toInt8.toInt32)) (3 : Int32).toNatClampNeg (vp_nar .byte (((x : Int32).toUInt32 >>> ((0 : Int32).toUInt32 &&& Int32.toUInt32 31)).toInt32 : Int32).toInt8.toInt32))))] H := hP
  have hD : va_D A [(h0, .inr (0, [.ref tp, .int 3, a2, a3, a4, a5, a6, a7, a8, a9, a10])), (tp, .inl (kt, 20, .inl (upd (upd (upd (upd f (0 : Int32).toNatClampNeg (vp_nar .byte (((x : Int32).toUInt32 >>> ((24 : Int32).toUInt32 &&& Int32.toUInt32 31)).toInt32 : Int32).toInt8.toInt32)) (1 : Int32).toNatClampNeg (vp_nar .byte (((x : Int32).toUInt32 >>> ((16 : Int32).toUInt32 &&& Int32.toUInt32 31)).toInt32 : Int32).toInt8.toInt32)) (2 : Int32).toNatClampNeg (vp_nar .byte (((x : Int32).toUInt32 >>> ((8 : Int32).toUInt32 &&& Int32.toUInt32 31)).toInt32 : Int32).toInt8.toInt32)) (3 : Int32).toNatClampNeg (vp_nar .byte (((x : Int32).toUInt32 >>> ((0 : Int32).toUInt32 &&& Int32.toUInt32 31)).toInt32 : Int32).toInt8.toInt32))))] := hD
  refine lv_aload_n hx hb d_H_feedNumber_20 rfl (lv_at hl 1 rfl) ?_
  refine lv_dup hx hb d_H_feedNumber_21 rfl ?_
  refine va_get (D := D) (ci := 0) (v := .int 3) (C := R_H) (T := F_H) (N := 11) hx hb hts fin_H hown hK hP 0 rfl rfl 1 (by decide) (hts _ m_1ee8d2b8) (fun _ h9 => h9) rfl d_H_feedNumber_22 ?_
  refine lv_iconst (v := 1) hx hb d_H_feedNumber_25 (by decide) ?_
  refine lv_iadd hx hb d_H_feedNumber_26 ?_
  refine xt_numi (y := 4) (by decide) ?_
  refine va_put (D := D) (ci := 0) (v := .int 4) (ty := .int) (C := R_H) (T := F_H) (N := 11) hx hb hts fin_H t_H t_H_ok n_H hown hK hP hD hS 0 rfl rfl 1 (by decide) (hts _ m_1ee8d2b8) (fun _ h9 => h9) rfl (by decide +kernel) (by first | rfl | decide) (by first | rfl | decide) (Nat.le_of_ble_eq_true rfl) d_H_feedNumber_27 (fun H locs hP hD hS => ?_)
  have hP : va_P D xcl [(h0, .inr (0, [.ref tp, .int 4, a2, a3, a4, a5, a6, a7, a8, a9, a10])), (tp, .inl (kt, 20, .inl (upd (upd (upd (upd f (0 : Int32).toNatClampNeg (vp_nar .byte (((x : Int32).toUInt32 >>> ((24 : Int32).toUInt32 &&& Int32.toUInt32 31)).toInt32 : Int32).toInt8.toInt32)) (1 : Int32).toNatClampNeg (vp_nar .byte (((x : Int32).toUInt32 >>> ((16 : Int32).toUInt32 &&& Int32.toUInt32 31)).toInt32 : Int32).toInt8.toInt32)) (2 : Int32).toNatClampNeg (vp_nar .byte (((x : Int32).toUInt32 >>> ((8 : Int32).toUInt32 &&& Int32.toUInt32 31)).toInt32 : Int32).toInt8.toInt32)) (3 : Int32).toNatClampNeg (vp_nar .byte (((x : Int32).toUInt32 >>> ((0 : Int32).toUInt32 &&& Int32.toUInt32 31)).toInt32 : Int32).toInt8.toInt32))))] H := hP
  have hD : va_D A [(h0, .inr (0, [.ref tp, .int 4, a2, a3, a4, a5, a6, a7, a8, a9, a10])), (tp, .inl (kt, 20, .inl (upd (upd (upd (upd f (0 : Int32).toNatClampNeg (vp_nar .byte (((x : Int32).toUInt32 >>> ((24 : Int32).toUInt32 &&& Int32.toUInt32 31)).toInt32 : Int32).toInt8.toInt32)) (1 : Int32).toNatClampNeg (vp_nar .byte (((x : Int32).toUInt32 >>> ((16 : Int32).toUInt32 &&& Int32.toUInt32 31)).toInt32 : Int32).toInt8.toInt32)) (2 : Int32).toNatClampNeg (vp_nar .byte (((x : Int32).toUInt32 >>> ((8 : Int32).toUInt32 &&& Int32.toUInt32 31)).toInt32 : Int32).toInt8.toInt32)) (3 : Int32).toNatClampNeg (vp_nar .byte (((x : Int32).toUInt32 >>> ((0 : Int32).toUInt32 &&& Int32.toUInt32 31)).toInt32 : Int32).toInt8.toInt32))))] := hD
  refine lv_iinc (v := (-8)) (k := 0) hx hb d_H_feedNumber_30 hl rfl (by first | decide | rfl) (by decide) rfl (fun ls hl => ?_)
  have hl : lv_has ls 3 [(2, .int (-8)), (0, .ref h0), (1, .int x)] := hl
  refine lv_goto (tgt := 3) hx hb d_H_feedNumber_33 rfl ?_
  refine lv_iload_n hx hb d_H_feedNumber_3 rfl (lv_at hl 0 rfl) ?_
  refine lv_if_lt (tgt := 36) hx hb d_H_feedNumber_4 rfl (fun _ => ?_) (fun h9 => absurd h9 (by decide))
  refine W.widen (k := 0) (n := 0) (by decide) (by decide) ?_
  refine xt_mono xt_ofMQ ?_
  exact W.vret hx hb hr (fun t ht hW => ⟨(fun _ => 0), Or.inl ⟨_, rfl, rfl⟩, by rw [ht]; exact hP.sub [0, 1] rfl, va_K.moved hW.alike (hK.sub [0] rfl), hD.sub [0, 1] (by decide) rfl, hS.F ht⟩) hS.2.2 d_H_feedNumber_36 hlocks

set_option maxHeartbeats 4000000 in
set_option maxRecDepth 100000 in
theorem c_H_feedNumber_4 (l : Launch) (D : va_G) (h0 tp kt : Nat) (f : Nat → Int32) (x : Int32) (a2 a3 a4 a5 a6 a7 a8 a9 a10 : Value) (sz : Nat) : xt_Met l y_H_feedNumber [.code y_H_feedNumber b_H_feedNumber 3 none] ({ frames := 8, cells := 0, slots := 0, locals := 120 }) (xt_P D xcl [.ref h0, .int x] [(h0, .inr (0, [.ref tp, .int 4, a2, a3, a4, a5, a6, a7, a8, a9, a10])), (tp, .inl (kt, 20, .inl f))] [(kt, .byte)] sz) (xt_Q (S := Nat → Nat) D xcl (va_A [(h0, .inr (0, [.ref tp, .int 4, a2, a3, a4, a5, a6, a7, a8, a9, a10])), (tp, .inl (kt, 20, .inl f))] sz) (fun v _ => v = none) (fun _ _ => False) (fun u => [(h0, .inr (0, [.ref tp, .int 8, a2, a3, a4, a5, a6, a7, a8, a9, a10])), (tp, .inl (kt, 20, .inl (upd (upd (upd (upd f (4 : Int32).toNatClampNeg (vp_nar .byte (((x : Int32).toUInt32 >>> ((24 : Int32).toUInt32 &&& Int32.toUInt32 31)).toInt32 : Int32).toInt8.toInt32)) (5 : Int32).toNatClampNeg (vp_nar .byte (((x : Int32).toUInt32 >>> ((16 : Int32).toUInt32 &&& Int32.toUInt32 31)).toInt32 : Int32).toInt8.toInt32)) (6 : Int32).toNatClampNeg (vp_nar .byte (((x : Int32).toUInt32 >>> ((8 : Int32).toUInt32 &&& Int32.toUInt32 31)).toInt32 : Int32).toInt8.toInt32)) (7 : Int32).toNatClampNeg (vp_nar .byte (((x : Int32).toUInt32 >>> ((0 : Int32).toUInt32 &&& Int32.toUInt32 31)).toInt32 : Int32).toInt8.toInt32))))]) (fun u => [(kt, .byte)])) 0 0 (va_A [(h0, .inr (0, [.ref tp, .int 4, a2, a3, a4, a5, a6, a7, a8, a9, a10])), (tp, .inl (kt, 20, .inl f))] sz) := by
  refine xt_ofW (cc := b_H_feedNumber) (maxL := 3) (ret := none) (by decide) (List.mem_singleton.mpr rfl) ?_
  intro p e s m args below meth c s₁ B hml htab hv
  obtain ⟨rfl, hsz, hB, hP, hK, hD0⟩ := hv
  subst hsz
  have hx := B.exec
  have hb := B.bytes
  have hr := B.returns
  have hts := hB.1.at ([.ref h0, .int x] : List Value).toArray
  have hown : s.vm.findClass "StackHost" = some m.cls := findClass_of_methodNamed B.named
  have hlocks := B.notSynchronized
  have hD := hD0.self (sz := s.heap.size)
  generalize hAe : va_A [(h0, .inr (0, [.ref tp, .int 4, a2, a3, a4, a5, a6, a7, a8, a9, a10])), (tp, .inl (kt, 20, .inl f))] s.heap.size = A at hB hD ⊢
  have hA : ∀ q : Nat, s.heap.size ≤ q → A q := fun q h => by rw [← hAe]; exact Or.inr h
  have hS : va_S A s.heap s.heap [] := va_S.rf
  have hl := lv_entry ([.ref h0, .int x]) (n := 3) (Nat.le_of_ble_eq_true rfl)
  rw [lg_entry_eq]
  generalize (lg_sl ([.ref h0, .int x]) ++ List.replicate (3 - (lg_sl ([.ref h0, .int x])).length) Slot.unset).toArray = ls at hl ⊢
  have hl : lv_has ls 3 [(0, .ref h0), (1, .int x)] := hl
  refine lv_bipush (v := 24) hx hb d_H_feedNumber_0 (by decide) ?_
  refine lv_istore_n hx hb d_H_feedNumber_2 rfl hl (by decide) rfl (fun ls hl => ?_)
  have hl : lv_has ls 3 [(2, .int 24), (0, .ref h0), (1, .int x)] := hl
  refine lv_iload_n hx hb d_H_feedNumber_3 rfl (lv_at hl 0 rfl) ?_
  refine lv_if_lt (tgt := 36) hx hb d_H_feedNumber_4 rfl (fun h9 => absurd h9 (by decide)) (fun _ => ?_)
  refine lv_aload_n hx hb d_H_feedNumber_7 rfl (lv_at hl 1 rfl) ?_
  refine va_get (D := D) (ci := 0) (v := .ref tp) (C := R_H) (T := F_H) (N := 11) hx hb hts fin_H hown hK hP 0 rfl rfl 0 (by decide) (hts _ m_4570233e) (fun _ h9 => h9) rfl d_H_feedNumber_8 ?_
  refine lv_aload_n hx hb d_H_feedNumber_11 rfl (lv_at hl 1 rfl) ?_
  refine va_get (D := D) (ci := 0) (v := .int 4) (C := R_H) (T := F_H) (N := 11) hx hb hts fin_H hown hK hP 0 rfl rfl 1 (by decide) (hts _ m_1ee8d2b8) (fun _ h9 => h9) rfl d_H_feedNumber_12 ?_
  refine lv_iload_n hx hb d_H_feedNumber_15 rfl (lv_at hl 2 rfl) ?_
  refine lv_iload_n hx hb d_H_feedNumber_16 rfl (lv_at hl 0 rfl) ?_
  refine lv_iushr hx hb d_H_feedNumber_17 rfl ?_
  refine lv_i2b hx hb d_H_feedNumber_18 rfl ?_
  refine va_bast (i := 4) (x := (((x : Int32).toUInt32 >>> ((24 : Int32).toUInt32 &&& Int32.toUInt32 31)).toInt32 : Int32).toInt8.toInt32) hx hb hK hP hD hS 1 0 rfl rfl (xt_vin (by decide +kernel)) d_H_feedNumber_19 (fun H locs hP hD hS => ?_)
  have hP : va_P D xcl [(h0, .inr (0, [.ref tp, .int 4, a2, a3, a4, a5, a6, a7, a8, a9, a10])), (tp, .inl (kt, 20, .inl (upd f (4 : Int32).toNatClampNeg (vp_nar .byte (((x : Int32).toUInt32 >>> ((24 : Int32).toUInt32 &&& Int32.toUInt32 31)).toInt32 : Int32).toInt8.toInt32))))] H := hP
  have hD : va_D A [(h0, .inr (0, [.ref tp, .int 4, a2, a3, a4, a5, a6, a7, a8, a9, a10])), (tp, .inl (kt, 20, .inl (upd f (4 : Int32).toNatClampNeg (vp_nar .byte (((x : Int32).toUInt32 >>> ((24 : Int32).toUInt32 &&& Int32.toUInt32 31)).toInt32 : Int32).toInt8.toInt32))))] := hD
  refine lv_aload_n hx hb d_H_feedNumber_20 rfl (lv_at hl 1 rfl) ?_
  refine lv_dup hx hb d_H_feedNumber_21 rfl ?_
  refine va_get (D := D) (ci := 0) (v := .int 4) (C := R_H) (T := F_H) (N := 11) hx hb hts fin_H hown hK hP 0 rfl rfl 1 (by decide) (hts _ m_1ee8d2b8) (fun _ h9 => h9) rfl d_H_feedNumber_22 ?_
  refine lv_iconst (v := 1) hx hb d_H_feedNumber_25 (by decide) ?_
  refine lv_iadd hx hb d_H_feedNumber_26 ?_
  refine xt_numi (y := 5) (by decide) ?_
  refine va_put (D := D) (ci := 0) (v := .int 5) (ty := .int) (C := R_H) (T := F_H) (N := 11) hx hb hts fin_H t_H t_H_ok n_H hown hK hP hD hS 0 rfl rfl 1 (by decide) (hts _ m_1ee8d2b8) (fun _ h9 => h9) rfl (by decide +kernel) (by first | rfl | decide) (by first | rfl | decide) (Nat.le_of_ble_eq_true rfl) d_H_feedNumber_27 (fun H locs hP hD hS => ?_)
  have hP : va_P D xcl [(h0, .inr (0, [.ref tp, .int 5, a2, a3, a4, a5, a6, a7, a8, a9, a10])), (tp, .inl (kt, 20, .inl (upd f (4 : Int32).toNatClampNeg (vp_nar .byte (((x : Int32).toUInt32 >>> ((24 : Int32).toUInt32 &&& Int32.toUInt32 31)).toInt32 : Int32).toInt8.toInt32))))] H := hP
  have hD : va_D A [(h0, .inr (0, [.ref tp, .int 5, a2, a3, a4, a5, a6, a7, a8, a9, a10])), (tp, .inl (kt, 20, .inl (upd f (4 : Int32).toNatClampNeg (vp_nar .byte (((x : Int32).toUInt32 >>> ((24 : Int32).toUInt32 &&& Int32.toUInt32 31)).toInt32 : Int32).toInt8.toInt32))))] := hD
  refine lv_iinc (v := 16) (k := 0) hx hb d_H_feedNumber_30 hl rfl (by first | decide | rfl) (by decide) rfl (fun ls hl => ?_)
  have hl : lv_has ls 3 [(2, .int 16), (0, .ref h0), (1, .int x)] := hl
  refine lv_goto (tgt := 3) hx hb d_H_feedNumber_33 rfl ?_
  refine lv_iload_n hx hb d_H_feedNumber_3 rfl (lv_at hl 0 rfl) ?_
  refine lv_if_lt (tgt := 36) hx hb d_H_feedNumber_4 rfl (fun h9 => absurd h9 (by decide)) (fun _ => ?_)
  refine lv_aload_n hx hb d_H_feedNumber_7 rfl (lv_at hl 1 rfl) ?_
  refine va_get (D := D) (ci := 0) (v := .ref tp) (C := R_H) (T := F_H) (N := 11) hx hb hts fin_H hown hK hP 0 rfl rfl 0 (by decide) (hts _ m_4570233e) (fun _ h9 => h9) rfl d_H_feedNumber_8 ?_
  refine lv_aload_n hx hb d_H_feedNumber_11 rfl (lv_at hl 1 rfl) ?_
  refine va_get (D := D) (ci := 0) (v := .int 5) (C := R_H) (T := F_H) (N := 11) hx hb hts fin_H hown hK hP 0 rfl rfl 1 (by decide) (hts _ m_1ee8d2b8) (fun _ h9 => h9) rfl d_H_feedNumber_12 ?_
  refine lv_iload_n hx hb d_H_feedNumber_15 rfl (lv_at hl 2 rfl) ?_
  refine lv_iload_n hx hb d_H_feedNumber_16 rfl (lv_at hl 0 rfl) ?_
  refine lv_iushr hx hb d_H_feedNumber_17 rfl ?_
  refine lv_i2b hx hb d_H_feedNumber_18 rfl ?_
  refine va_bast (i := 5) (x := (((x : Int32).toUInt32 >>> ((16 : Int32).toUInt32 &&& Int32.toUInt32 31)).toInt32 : Int32).toInt8.toInt32) hx hb hK hP hD hS 1 0 rfl rfl (xt_vin (by decide +kernel)) d_H_feedNumber_19 (fun H locs hP hD hS => ?_)
  have hP : va_P D xcl [(h0, .inr (0, [.ref tp, .int 5, a2, a3, a4, a5, a6, a7, a8, a9, a10])), (tp, .inl (kt, 20, .inl (upd (upd f (4 : Int32).toNatClampNeg (vp_nar .byte (((x : Int32).toUInt32 >>> ((24 : Int32).toUInt32 &&& Int32.toUInt32 31)).toInt32 : Int32).toInt8.toInt32)) (5 : Int32).toNatClampNeg (vp_nar .byte (((x : Int32).toUInt32 >>> ((16 : Int32).toUInt32 &&& Int32.toUInt32 31)).toInt32 : Int32).toInt8.toInt32))))] H := hP
  have hD : va_D A [(h0, .inr (0, [.ref tp, .int 5, a2, a3, a4, a5, a6, a7, a8, a9, a10])), (tp, .inl (kt, 20, .inl (upd (upd f (4 : Int32).toNatClampNeg (vp_nar .byte (((x : Int32).toUInt32 >>> ((24 : Int32).toUInt32 &&& Int32.toUInt32 31)).toInt32 : Int32).toInt8.toInt32)) (5 : Int32).toNatClampNeg (vp_nar .byte (((x : Int32).toUInt32 >>> ((16 : Int32).toUInt32 &&& Int32.toUInt32 31)).toInt32 : Int32).toInt8.toInt32))))] := hD
  refine lv_aload_n hx hb d_H_feedNumber_20 rfl (lv_at hl 1 rfl) ?_
  refine lv_dup hx hb d_H_feedNumber_21 rfl ?_
  refine va_get (D := D) (ci := 0) (v := .int 5) (C := R_H) (T := F_H) (N := 11) hx hb hts fin_H hown hK hP 0 rfl rfl 1 (by decide) (hts _ m_1ee8d2b8) (fun _ h9 => h9) rfl d_H_feedNumber_22 ?_
  refine lv_iconst (v := 1) hx hb d_H_feedNumber_25 (by decide) ?_
  refine lv_iadd hx hb d_H_feedNumber_26 ?_
  refine xt_numi (y := 6) (by decide) ?_
  refine va_put (D := D) (ci := 0) (v := .int 6) (ty := .int) (C := R_H) (T := F_H) (N := 11) hx hb hts fin_H t_H t_H_ok n_H hown hK hP hD hS 0 rfl rfl 1 (by decide) (hts _ m_1ee8d2b8) (fun _ h9 => h9) rfl (by decide +kernel) (by first | rfl | decide) (by first | rfl | decide) (Nat.le_of_ble_eq_true rfl) d_H_feedNumber_27 (fun H locs hP hD hS => ?_)
  have hP : va_P D xcl [(h0, .inr (0, [.ref tp, .int 6, a2, a3, a4, a5, a6, a7, a8, a9, a10])), (tp, .inl (kt, 20, .inl (upd (upd f (4 : Int32).toNatClampNeg (vp_nar .byte (((x : Int32).toUInt32 >>> ((24 : Int32).toUInt32 &&& Int32.toUInt32 31)).toInt32 : Int32).toInt8.toInt32)) (5 : Int32).toNatClampNeg (vp_nar .byte (((x : Int32).toUInt32 >>> ((16 : Int32).toUInt32 &&& Int32.toUInt32 31)).toInt32 : Int32).toInt8.toInt32))))] H := hP
  have hD : va_D A [(h0, .inr (0, [.ref tp, .int 6, a2, a3, a4, a5, a6, a7, a8, a9, a10])), (tp, .inl (kt, 20, .inl (upd (upd f (4 : Int32).toNatClampNeg (vp_nar .byte (((x : Int32).toUInt32 >>> ((24 : Int32).toUInt32 &&& Int32.toUInt32 31)).toInt32 : Int32).toInt8.toInt32)) (5 : Int32).toNatClampNeg (vp_nar .byte (((x : Int32).toUInt32 >>> ((16 : Int32).toUInt32 &&& Int32.toUInt32 31)).toInt32 : Int32).toInt8.toInt32))))] := hD
  refine lv_iinc (v := 8) (k := 0) hx hb d_H_feedNumber_30 hl rfl (by first | decide | rfl) (by decide) rfl (fun ls hl => ?_)
  have hl : lv_has ls 3 [(2, .int 8), (0, .ref h0), (1, .int x)] := hl
  refine lv_goto (tgt := 3) hx hb d_H_feedNumber_33 rfl ?_
  refine lv_iload_n hx hb d_H_feedNumber_3 rfl (lv_at hl 0 rfl) ?_
  refine lv_if_lt (tgt := 36) hx hb d_H_feedNumber_4 rfl (fun h9 => absurd h9 (by decide)) (fun _ => ?_)
  refine lv_aload_n hx hb d_H_feedNumber_7 rfl (lv_at hl 1 rfl) ?_
  refine va_get (D := D) (ci := 0) (v := .ref tp) (C := R_H) (T := F_H) (N := 11) hx hb hts fin_H hown hK hP 0 rfl rfl 0 (by decide) (hts _ m_4570233e) (fun _ h9 => h9) rfl d_H_feedNumber_8 ?_
  refine lv_aload_n hx hb d_H_feedNumber_11 rfl (lv_at hl 1 rfl) ?_
  refine va_get (D := D) (ci := 0) (v := .int 6) (C := R_H) (T := F_H) (N := 11) hx hb hts fin_H hown hK hP 0 rfl rfl 1 (by decide) (hts _ m_1ee8d2b8) (fun _ h9 => h9) rfl d_H_feedNumber_12 ?_
  refine lv_iload_n hx hb d_H_feedNumber_15 rfl (lv_at hl 2 rfl) ?_
  refine lv_iload_n hx hb d_H_feedNumber_16 rfl (lv_at hl 0 rfl) ?_
  refine lv_iushr hx hb d_H_feedNumber_17 rfl ?_
  refine lv_i2b hx hb d_H_feedNumber_18 rfl ?_
  refine va_bast (i := 6) (x := (((x : Int32).toUInt32 >>> ((8 : Int32).toUInt32 &&& Int32.toUInt32 31)).toInt32 : Int32).toInt8.toInt32) hx hb hK hP hD hS 1 0 rfl rfl (xt_vin (by decide +kernel)) d_H_feedNumber_19 (fun H locs hP hD hS => ?_)
  have hP : va_P D xcl [(h0, .inr (0, [.ref tp, .int 6, a2, a3, a4, a5, a6, a7, a8, a9, a10])), (tp, .inl (kt, 20, .inl (upd (upd (upd f (4 : Int32).toNatClampNeg (vp_nar .byte (((x : Int32).toUInt32 >>> ((24 : Int32).toUInt32 &&& Int32.toUInt32 31)).toInt32 : Int32).toInt8.toInt32)) (5 : Int32).toNatClampNeg (vp_nar .byte (((x : Int32).toUInt32 >>> ((16 : Int32).toUInt32 &&& Int32.toUInt32 31)).toInt32 : Int32).toInt8.toInt32)) (6 : Int32).toNatClampNeg (vp_nar .byte (((x : Int32).toUInt32 >>> ((8 : Int32).toUInt32 &&& Int32.toUInt32 31)).toInt32 : Int32).toInt8.toInt32))))] H := hP
  have hD : va_D A [(h0, .inr (0, [.ref tp, .int 6, a2, a3, a4, a5, a6, a7, a8, a9, a10])), (tp, .inl (kt, 20, .inl (upd (upd (upd f (4 : Int32).toNatClampNeg (vp_nar .byte (((x : Int32).toUInt32 >>> ((24 : Int32).toUInt32 &&& Int32.toUInt32 31)).toInt32 : Int32).toInt8.toInt32)) (5 : Int32).toNatClampNeg (vp_nar .byte (((x : Int32).toUInt32 >>> ((16 : Int32).toUInt32 &&& Int32.toUInt32 31)).toInt32 : Int32).toInt8.toInt32)) (6 : Int32).toNatClampNeg (vp_nar .byte (((x : Int32).toUInt32 >>> ((8 : Int32).toUInt32 &&& Int32.toUInt32 31)).toInt32 : Int32).toInt8.toInt32))))] := hD
  refine lv_aload_n hx hb d_H_feedNumber_20 rfl (lv_at hl 1 rfl) ?_
  refine lv_dup hx hb d_H_feedNumber_21 rfl ?_
  refine va_get (D := D) (ci := 0) (v := .int 6) (C := R_H) (T := F_H) (N := 11) hx hb hts fin_H hown hK hP 0 rfl rfl 1 (by decide) (hts _ m_1ee8d2b8) (fun _ h9 => h9) rfl d_H_feedNumber_22 ?_
  refine lv_iconst (v := 1) hx hb d_H_feedNumber_25 (by decide) ?_
  refine lv_iadd hx hb d_H_feedNumber_26 ?_
  refine xt_numi (y := 7) (by decide) ?_
  refine va_put (D := D) (ci := 0) (v := .int 7) (ty := .int) (C := R_H) (T := F_H) (N := 11) hx hb hts fin_H t_H t_H_ok n_H hown hK hP hD hS 0 rfl rfl 1 (by decide) (hts _ m_1ee8d2b8) (fun _ h9 => h9) rfl (by decide +kernel) (by first | rfl | decide) (by first | rfl | decide) (Nat.le_of_ble_eq_true rfl) d_H_feedNumber_27 (fun H locs hP hD hS => ?_)
  have hP : va_P D xcl [(h0, .inr (0, [.ref tp, .int 7, a2, a3, a4, a5, a6, a7, a8, a9, a10])), (tp, .inl (kt, 20, .inl (upd (upd (upd f (4 : Int32).toNatClampNeg (vp_nar .byte (((x : Int32).toUInt32 >>> ((24 : Int32).toUInt32 &&& Int32.toUInt32 31)).toInt32 : Int32).toInt8.toInt32)) (5 : Int32).toNatClampNeg (vp_nar .byte (((x : Int32).toUInt32 >>> ((16 : Int32).toUInt32 &&& Int32.toUInt32 31)).toInt32 : Int32).toInt8.toInt32)) (6 : Int32).toNatClampNeg (vp_nar .byte (((x : Int32).toUInt32 >>> ((8 : Int32).toUInt32 &&& Int32.toUInt32 31)).toInt32 : Int32).toInt8.toInt32))))] H := hP
  have hD : va_D A [(h0, .inr (0, [.ref tp, .int 7, a2, a3, a4, a5, a6, a7, a8, a9, a10])), (tp, .inl (kt, 20, .inl (upd (upd (upd f (4 : Int32).toNatClampNeg (vp_nar .byte (((x : Int32).toUInt32 >>> ((24 : Int32).toUInt32 &&& Int32.toUInt32 31)).toInt32 : Int32).toInt8.toInt32)) (5 : Int32).toNatClampNeg (vp_nar .byte (((x : Int32).toUInt32 >>> ((16 : Int32).toUInt32 &&& Int32.toUInt32 31)).toInt32 : Int32).toInt8.toInt32)) (6 : Int32).toNatClampNeg (vp_nar .byte (((x : Int32).toUInt32 >>> ((8 : Int32).toUInt32 &&& Int32.toUInt32 31)).toInt32 : Int32).toInt8.toInt32))))] := hD
  refine lv_iinc (v := 0) (k := 0) hx hb d_H_feedNumber_30 hl rfl (by first | decide | rfl) (by decide) rfl (fun ls hl => ?_)
  have hl : lv_has ls 3 [(2, .int 0), (0, .ref h0), (1, .int x)] := hl
  refine lv_goto (tgt := 3) hx hb d_H_feedNumber_33 rfl ?_
  refine lv_iload_n hx hb d_H_feedNumber_3 rfl (lv_at hl 0 rfl) ?_
  refine lv_if_lt (tgt := 36) hx hb d_H_feedNumber_4 rfl (fun h9 => absurd h9 (by decide)) (fun _ => ?_)
  refine lv_aload_n hx hb d_H_feedNumber_7 rfl (lv_at hl 1 rfl) ?_
  refine va_get (D := D) (ci := 0) (v := .ref tp) (C := R_H) (T := F_H) (N := 11) hx hb hts fin_H hown hK hP 0 rfl rfl 0 (by decide) (hts _ m_4570233e) (fun _ h9 => h9) rfl d_H_feedNumber_8 ?_
  refine lv_aload_n hx hb d_H_feedNumber_11 rfl (lv_at hl 1 rfl) ?_
  refine va_get (D := D) (ci := 0) (v := .int 7) (C := R_H) (T := F_H) (N := 11) hx hb hts fin_H hown hK hP 0 rfl rfl 1 (by decide) (hts _ m_1ee8d2b8) (fun _ h9 => h9) rfl d_H_feedNumber_12 ?_
  refine lv_iload_n hx hb d_H_feedNumber_15 rfl (lv_at hl 2 rfl) ?_
  refine lv_iload_n hx hb d_H_feedNumber_16 rfl (lv_at hl 0 rfl) ?_
  refine lv_iushr hx hb d_H_feedNumber_17 rfl ?_
  refine lv_i2b hx hb d_H_feedNumber_18 rfl ?_
  refine va_bast (i := 7) (x := (((x : Int32).toUInt32 >>> ((0 : Int32).toUInt32 &&& Int32.toUInt32 31)).toInt32 : Int32).toInt8.toInt32) hx hb hK hP hD hS 1 0 rfl rfl (xt_vin (by decide +kernel)) d_H_feedNumber_19 (fun H locs hP hD hS => ?_)
  have hP : va_P D xcl [(h0, .inr (0, [.ref tp, .int 7, a2, a3, a4, a5, a6, a7, a8, a9, a10])), (tp, .inl (kt, 20, .inl (upd (upd (upd (upd f (4 : Int32).toNatClampNeg (vp_nar .byte (((x : Int32).toUInt32 >>> ((24 : Int32).toUInt32 &&& Int32.toUInt32 31)).toInt32 : Int32).toInt8.toInt32)) (5 : Int32).toNatClampNeg (vp_nar .byte (((x : Int32).toUInt32 >>> ((16 : Int32).toUInt32 &&& Int32.toUInt32 31)).toInt32 : Int32).toInt8.toInt32)) (6 : Int32).toNatClampNeg (vp_nar .byte (((x : Int32).toUInt32 >>> ((8 : Int32).toUInt32 &&& Int32.toUInt32 31)).toInt32 : Int32).toInt8.toInt32)) (7 : Int32).toNatClampNeg (vp_nar .byte (((x : Int32).toUInt32 >>> ((0 : Int32).toUInt32 &&& Int32.toUInt32 31)).toInt32 : Int32).toInt8.toInt32))))] H := hP
  have hD : va_D A [(h0, .inr (0, [.ref tp, .int 7, a2, a3, a4, a5, a6, a7, a8, a9, a10])), (tp, .inl (kt, 20, .inl (upd (upd (upd (upd f (4 : Int32).toNatClampNeg (vp_nar .byte (((x : Int32).toUInt32 >>> ((24 : Int32).toUInt32 &&& Int32.toUInt32 31)).toInt32 : Int32).toInt8.toInt32)) (5 : Int32).toNatClampNeg (vp_nar .byte (((x : Int32).toUInt32 >>> ((16 : Int32).toUInt32 &&& Int32.toUInt32 31)).toInt32 : Int32).toInt8.toInt32)) (6 : Int32).toNatClampNeg (vp_nar .byte (((x : Int32).toUInt32 >>> ((8 : Int32).toUInt32 &&& Int32.toUInt32 31)).toInt32 : Int32).toInt8.toInt32)) (7 : Int32).toNatClampNeg (vp_nar .byte (((x : Int32).toUInt32 >>> ((0 : Int32).toUInt32 &&& Int32.toUInt32 31)).toInt32 : Int32).toInt8.toInt32))))] := hD
  refine lv_aload_n hx hb d_H_feedNumber_20 rfl (lv_at hl 1 rfl) ?_
  refine lv_dup hx hb d_H_feedNumber_21 rfl ?_
  refine va_get (D := D) (ci := 0) (v := .int 7) (C := R_H) (T := F_H) (N := 11) hx hb hts fin_H hown hK hP 0 rfl rfl 1 (by decide) (hts _ m_1ee8d2b8) (fun _ h9 => h9) rfl d_H_feedNumber_22 ?_
  refine lv_iconst (v := 1) hx hb d_H_feedNumber_25 (by decide) ?_
  refine lv_iadd hx hb d_H_feedNumber_26 ?_
  refine xt_numi (y := 8) (by decide) ?_
  refine va_put (D := D) (ci := 0) (v := .int 8) (ty := .int) (C := R_H) (T := F_H) (N := 11) hx hb hts fin_H t_H t_H_ok n_H hown hK hP hD hS 0 rfl rfl 1 (by decide) (hts _ m_1ee8d2b8) (fun _ h9 => h9) rfl (by decide +kernel) (by first | rfl | decide) (by first | rfl | decide) (Nat.le_of_ble_eq_true rfl) d_H_feedNumber_27 (fun H locs hP hD hS => ?_)
  have hP : va_P D xcl [(h0, .inr (0, [.ref tp, .int 8, a2, a3, a4, a5, a6, a7, a8, a9, a10])), (tp, .inl (kt, 20, .inl (upd (upd (upd (upd f (4 : Int32).toNatClampNeg (vp_nar .byte (((x : Int32).toUInt32 >>> ((24 : Int32).toUInt32 &&& Int32.toUInt32 31)).toInt32 : Int32).toInt8.toInt32)) (5 : Int32).toNatClampNeg (vp_nar .byte (((x : Int32).toUInt32 >>> ((16 : Int32).toUInt32 &&& Int32.toUInt32 31)).toInt32 : Int32).toInt8.toInt32)) (6 : Int32).toNatClampNeg (vp_nar .byte (((x : Int32).toUInt32 >>> ((8 : Int32).toUInt32 &&& Int32.toUInt32 31)).toInt32 : Int32).toInt8.toInt32)) (7 : Int32).toNatClampNeg (vp_nar .byte (((x : Int32).toUInt32 >>> ((0 : Int32).toUInt32 &&& Int32.toUInt32 31)).toInt32 : Int32).toInt8.toInt32))))] H := hP
  have hD : va_D A [(h0, .inr (0, [.ref tp, .int 8, a2, a3, a4, a5, a6, a7, a8, a9, a10])), (tp, .inl (kt, 20, .inl (upd (upd (upd (upd f (4 : Int32).toNatClampNeg (vp_nar .byte (((x : Int32).toUInt32 >>> ((24 : Int32).toUInt32 &&& Int32.toUInt32 31)).toInt32 : Int32).toInt8.toInt32)) (5 : Int32).toNatClampNeg (vp_nar .byte (((x : Int32).toUInt32 >>> ((16 : Int32).toUInt32 &&& Int32.toUInt32 31)).toInt32 : Int32).toInt8.toInt32)) (6 : Int32).toNatClampNeg (vp_nar .byte (((x : Int32).toUInt32 >>> ((8 : Int32).toUInt32 &&& Int32.toUInt32 31)).toInt32 : Int32).toInt8.toInt32)) (7 : Int32).toNatClampNeg (vp_nar .byte (((x : Int32).toUInt32 >>> ((0 : Int32).toUInt32 &&& Int32.toUInt32 31)).toInt32 : Int32).toInt8.toInt32))))] := hD
  refine lv_iinc (v := (-8)) (k := 0) hx hb d_H_feedNumber_30 hl rfl (by first | decide | rfl) (by decide) rfl (fun ls hl => ?_)
  have hl : lv_has ls 3 [(2, .int (-8)), (0, .ref h0), (1, .int x)] := hl
  refine lv_goto (tgt := 3) hx hb d_H_feedNumber_33 rfl ?_
  refine lv_iload_n hx hb d_H_feedNumber_3 rfl (lv_at hl 0 rfl) ?_
  refine lv_if_lt (tgt := 36) hx hb d_H_feedNumber_4 rfl (fun _ => ?_) (fun h9 => absurd h9 (by decide))
  refine W.widen (k := 0) (n := 0) (by decide) (by decide) ?_
  refine xt_mono xt_ofMQ ?_
  exact W.vret hx hb hr (fun t ht hW => ⟨(fun _ => 0), Or.inl ⟨_, rfl, rfl⟩, by rw [ht]; exact hP.sub [0, 1] rfl, va_K.moved hW.alike (hK.sub [0] rfl), hD.sub [0, 1] (by decide) rfl, hS.F ht⟩) hS.2.2 d_H_feedNumber_36 hlocks

