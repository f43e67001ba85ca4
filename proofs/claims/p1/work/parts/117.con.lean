set_option maxHeartbeats 4000000 in
set_option maxRecDepth 100000 in
theorem c_M_readModule (l : Launch) (D : va_G) (h0 : Nat) (a0 a1 a2 a3 a4 a5 a6 a7 a8 a9 a10 a11 a12 a13 a15 a16 a19 a20 a21 a22 a23 a24 a25 a26 a27 a28 a29 a30 a31 a32 a33 a34 a35 a36 a37 a38 a39 a40 a41 a42 a43 a44 a45 a46 a47 a48 a49 a50 a51 a52 a53 a54 a55 a56 a57 a58 a59 a60 a61 a62 a63 a64 a65 a66 a67 a68 a69 a70 a71 a72 a73 a74 a75 a76 a77 a78 a79 a80 a81 a82 a83 a84 a85 a86 a87 a88 a89 a90 a91 a92 a93 a94 a95 a96 : Value) (sz : Nat) : xt_Met l y_M_readModule [.code y_M_readModule b_M_readModule 8 none] ({ frames := 9, cells := 1, slots := 8, locals := 220 }) (xt_P D xcl [.ref h0, .int 0] [(h0, .inr (8, [a0, a1, a2, a3, a4, a5, a6, a7, a8, a9, a10, a11, a12, a13, .int 0, a15, a16, .int 0, .int 0, a19, a20, a21, a22, a23, a24, a25, a26, a27, a28, a29, a30, a31, a32, a33, a34, a35, a36, a37, a38, a39, a40, a41, a42, a43, a44, a45, a46, a47, a48, a49, a50, a51, a52, a53, a54, a55, a56, a57, a58, a59, a60, a61, a62, a63, a64, a65, a66, a67, a68, a69, a70, a71, a72, a73, a74, a75, a76, a77, a78, a79, a80, a81, a82, a83, a84, a85, a86, a87, a88, a89, a90, a91, a92, a93, a94, a95, a96]))] [] sz) (xt_Q (S := Nat → Nat) D xcl (va_A [(h0, .inr (8, [a0, a1, a2, a3, a4, a5, a6, a7, a8, a9, a10, a11, a12, a13, .int 0, a15, a16, .int 0, .int 0, a19, a20, a21, a22, a23, a24, a25, a26, a27, a28, a29, a30, a31, a32, a33, a34, a35, a36, a37, a38, a39, a40, a41, a42, a43, a44, a45, a46, a47, a48, a49, a50, a51, a52, a53, a54, a55, a56, a57, a58, a59, a60, a61, a62, a63, a64, a65, a66, a67, a68, a69, a70, a71, a72, a73, a74, a75, a76, a77, a78, a79, a80, a81, a82, a83, a84, a85, a86, a87, a88, a89, a90, a91, a92, a93, a94, a95, a96]))] sz) (fun v _ => v = none) (fun _ _ => False) (fun u => [(h0, .inr (8, [a0, a1, a2, a3, a4, a5, a6, a7, a8, a9, a10, a11, a12, a13, .int 0, .int 8, a16, .int 1, .int 0, a19, a20, a21, a22, a23, a24, a25, a26, a27, a28, a29, a30, a31, a32, a33, a34, a35, a36, a37, a38, a39, a40, a41, a42, a43, a44, a45, a46, a47, a48, a49, a50, a51, a52, a53, a54, a55, a56, a57, a58, a59, a60, a61, a62, a63, a64, a65, a66, a67, a68, a69, a70, a71, a72, a73, a74, a75, a76, a77, a78, a79, a80, a81, a82, a83, a84, a85, a86, a87, a88, a89, a90, a91, a92, a93, a94, a95, a96]))]) (fun u => [])) 1 8 (va_A [(h0, .inr (8, [a0, a1, a2, a3, a4, a5, a6, a7, a8, a9, a10, a11, a12, a13, .int 0, a15, a16, .int 0, .int 0, a19, a20, a21, a22, a23, a24, a25, a26, a27, a28, a29, a30, a31, a32, a33, a34, a35, a36, a37, a38, a39, a40, a41, a42, a43, a44, a45, a46, a47, a48, a49, a50, a51, a52, a53, a54, a55, a56, a57, a58, a59, a60, a61, a62, a63, a64, a65, a66, a67, a68, a69, a70, a71, a72, a73, a74, a75, a76, a77, a78, a79, a80, a81, a82, a83, a84, a85, a86, a87, a88, a89, a90, a91, a92, a93, a94, a95, a96]))] sz) := by
  refine xt_ofW (cc := b_M_readModule) (maxL := 8) (ret := none) (by decide) (List.mem_singleton.mpr rfl) ?_
  intro p e s m args below meth c s₁ B hml htab hv
  obtain ⟨rfl, hsz, hB, hP, hK, hD0⟩ := hv
  subst hsz
  have hx := B.exec
  have hb := B.bytes
  have hr := B.returns
  have hts := hB.1.at ([.ref h0, .int 0] : List Value).toArray
  have hown : s.vm.findClass "StackHostModel" = some m.cls := findClass_of_methodNamed B.named
  have hlocks := B.notSynchronized
  have hD := hD0.self (sz := s.heap.size)
  generalize hAe : va_A [(h0, .inr (8, [a0, a1, a2, a3, a4, a5, a6, a7, a8, a9, a10, a11, a12, a13, .int 0, a15, a16, .int 0, .int 0, a19, a20, a21, a22, a23, a24, a25, a26, a27, a28, a29, a30, a31, a32, a33, a34, a35, a36, a37, a38, a39, a40, a41, a42, a43, a44, a45, a46, a47, a48, a49, a50, a51, a52, a53, a54, a55, a56, a57, a58, a59, a60, a61, a62, a63, a64, a65, a66, a67, a68, a69, a70, a71, a72, a73, a74, a75, a76, a77, a78, a79, a80, a81, a82, a83, a84, a85, a86, a87, a88, a89, a90, a91, a92, a93, a94, a95, a96]))] s.heap.size = A at hB hD ⊢
  have hA : ∀ q : Nat, s.heap.size ≤ q → A q := fun q h => by rw [← hAe]; exact Or.inr h
  have hS : va_S A s.heap s.heap [] := va_S.rf
  have hl := lv_entry ([.ref h0, .int 0]) (n := 8) (Nat.le_of_ble_eq_true rfl)
  rw [lg_entry_eq]
  generalize (lg_sl ([.ref h0, .int 0]) ++ List.replicate (8 - (lg_sl ([.ref h0, .int 0])).length) Slot.unset).toArray = ls at hl ⊢
  have hl : lv_has ls 8 [(0, .ref h0), (1, .int 0)] := hl
  refine lv_bipush (v := 8) hx hb d_M_readModule_0 (by decide) ?_
  have hcq1 : 0 + 1 ≤ 1 := by decide
  have hsq1 : 0 + 8 ≤ 8 := by decide
  refine va_newa (atype := .int) (ty := .int) (a0 := (8, .inl (fun _ => 0))) (n := 8) (N' := 8) hx hb (hts _ m_d160d5ac) rfl hK hP hD hS hA (fun _ => rfl) (by decide +kernel) (by decide +kernel) (by decide +kernel) hcq1 hsq1 d_M_readModule_2 (fun q1 k2 H hK hP hD hS => ?_)
  have hP : va_P D xcl [(h0, .inr (8, [a0, a1, a2, a3, a4, a5, a6, a7, a8, a9, a10, a11, a12, a13, .int 0, a15, a16, .int 0, .int 0, a19, a20, a21, a22, a23, a24, a25, a26, a27, a28, a29, a30, a31, a32, a33, a34, a35, a36, a37, a38, a39, a40, a41, a42, a43, a44, a45, a46, a47, a48, a49, a50, a51, a52, a53, a54, a55, a56, a57, a58, a59, a60, a61, a62, a63, a64, a65, a66, a67, a68, a69, a70, a71, a72, a73, a74, a75, a76, a77, a78, a79, a80, a81, a82, a83, a84, a85, a86, a87, a88, a89, a90, a91, a92, a93, a94, a95, a96])), (q1, .inl (k2, 8, .inl (fun _ => 0)))] H := hP
  have hD : va_D A [(h0, .inr (8, [a0, a1, a2, a3, a4, a5, a6, a7, a8, a9, a10, a11, a12, a13, .int 0, a15, a16, .int 0, .int 0, a19, a20, a21, a22, a23, a24, a25, a26, a27, a28, a29, a30, a31, a32, a33, a34, a35, a36, a37, a38, a39, a40, a41, a42, a43, a44, a45, a46, a47, a48, a49, a50, a51, a52, a53, a54, a55, a56, a57, a58, a59, a60, a61, a62, a63, a64, a65, a66, a67, a68, a69, a70, a71, a72, a73, a74, a75, a76, a77, a78, a79, a80, a81, a82, a83, a84, a85, a86, a87, a88, a89, a90, a91, a92, a93, a94, a95, a96])), (q1, .inl (k2, 8, .inl (fun _ => 0)))] := hD
  have hK : va_K D xcl [(k2, .int)] s := hK
  refine W.widen (k := 1) (n := 8) (by omega) (by omega) ?_
  refine lv_dup hx hb d_M_readModule_4 rfl ?_
  refine lv_iconst (v := 0) hx hb d_M_readModule_5 (by decide) ?_
  refine lv_iconst (v := 0) hx hb d_M_readModule_6 (by decide) ?_
  refine va_iast (i := 0) (x := 0) hx hb hK hP hD hS 1 0 rfl rfl (xt_vin (by decide +kernel)) d_M_readModule_7 (fun H locs hP hD hS => ?_)
  have hP : va_P D xcl [(h0, .inr (8, [a0, a1, a2, a3, a4, a5, a6, a7, a8, a9, a10, a11, a12, a13, .int 0, a15, a16, .int 0, .int 0, a19, a20, a21, a22, a23, a24, a25, a26, a27, a28, a29, a30, a31, a32, a33, a34, a35, a36, a37, a38, a39, a40, a41, a42, a43, a44, a45, a46, a47, a48, a49, a50, a51, a52, a53, a54, a55, a56, a57, a58, a59, a60, a61, a62, a63, a64, a65, a66, a67, a68, a69, a70, a71, a72, a73, a74, a75, a76, a77, a78, a79, a80, a81, a82, a83, a84, a85, a86, a87, a88, a89, a90, a91, a92, a93, a94, a95, a96])), (q1, .inl (k2, 8, .inl (upd (fun _ => 0) (0 : Int32).toNatClampNeg 0)))] H := hP
  have hD : va_D A [(h0, .inr (8, [a0, a1, a2, a3, a4, a5, a6, a7, a8, a9, a10, a11, a12, a13, .int 0, a15, a16, .int 0, .int 0, a19, a20, a21, a22, a23, a24, a25, a26, a27, a28, a29, a30, a31, a32, a33, a34, a35, a36, a37, a38, a39, a40, a41, a42, a43, a44, a45, a46, a47, a48, a49, a50, a51, a52, a53, a54, a55, a56, a57, a58, a59, a60, a61, a62, a63, a64, a65, a66, a67, a68, a69, a70, a71, a72, a73, a74, a75, a76, a77, a78, a79, a80, a81, a82, a83, a84, a85, a86, a87, a88, a89, a90, a91, a92, a93, a94, a95, a96])), (q1, .inl (k2, 8, .inl (upd (fun _ => 0) (0 : Int32).toNatClampNeg 0)))] := hD
  refine lv_dup hx hb d_M_readModule_8 rfl ?_
  refine lv_iconst (v := 1) hx hb d_M_readModule_9 (by decide) ?_
  refine lv_bipush (v := 97) hx hb d_M_readModule_10 (by decide) ?_
  refine va_iast (i := 1) (x := 97) hx hb hK hP hD hS 1 0 rfl rfl (xt_vin (by decide +kernel)) d_M_readModule_12 (fun H locs hP hD hS => ?_)
  have hP : va_P D xcl [(h0, .inr (8, [a0, a1, a2, a3, a4, a5, a6, a7, a8, a9, a10, a11, a12, a13, .int 0, a15, a16, .int 0, .int 0, a19, a20, a21, a22, a23, a24, a25, a26, a27, a28, a29, a30, a31, a32, a33, a34, a35, a36, a37, a38, a39, a40, a41, a42, a43, a44, a45, a46, a47, a48, a49, a50, a51, a52, a53, a54, a55, a56, a57, a58, a59, a60, a61, a62, a63, a64, a65, a66, a67, a68, a69, a70, a71, a72, a73, a74, a75, a76, a77, a78, a79, a80, a81, a82, a83, a84, a85, a86, a87, a88, a89, a90, a91, a92, a93, a94, a95, a96])), (q1, .inl (k2, 8, .inl (upd (upd (fun _ => 0) (0 : Int32).toNatClampNeg 0) (1 : Int32).toNatClampNeg 97)))] H := hP
  have hD : va_D A [(h0, .inr (8, [a0, a1, a2, a3, a4, a5, a6, a7, a8, a9, a10, a11, a12, a13, .int 0, a15, a16, .int 0, .int 0, a19, a20, a21, a22, a23, a24, a25, a26, a27, a28, a29, a30, a31, a32, a33, a34, a35, a36, a37, a38, a39, a40, a41, a42, a43, a44, a45, a46, a47, a48, a49, a50, a51, a52, a53, a54, a55, a56, a57, a58, a59, a60, a61, a62, a63, a64, a65, a66, a67, a68, a69, a70, a71, a72, a73, a74, a75, a76, a77, a78, a79, a80, a81, a82, a83, a84, a85, a86, a87, a88, a89, a90, a91, a92, a93, a94, a95, a96])), (q1, .inl (k2, 8, .inl (upd (upd (fun _ => 0) (0 : Int32).toNatClampNeg 0) (1 : Int32).toNatClampNeg 97)))] := hD
  refine lv_dup hx hb d_M_readModule_13 rfl ?_
  refine lv_iconst (v := 2) hx hb d_M_readModule_14 (by decide) ?_
  refine lv_bipush (v := 115) hx hb d_M_readModule_15 (by decide) ?_
  refine va_iast (i := 2) (x := 115) hx hb hK hP hD hS 1 0 rfl rfl (xt_vin (by decide +kernel)) d_M_readModule_17 (fun H locs hP hD hS => ?_)
  have hP : va_P D xcl [(h0, .inr (8, [a0, a1, a2, a3, a4, a5, a6, a7, a8, a9, a10, a11, a12, a13, .int 0, a15, a16, .int 0, .int 0, a19, a20, a21, a22, a23, a24, a25, a26, a27, a28, a29, a30, a31, a32, a33, a34, a35, a36, a37, a38, a39, a40, a41, a42, a43, a44, a45, a46, a47, a48, a49, a50, a51, a52, a53, a54, a55, a56, a57, a58, a59, a60, a61, a62, a63, a64, a65, a66, a67, a68, a69, a70, a71, a72, a73, a74, a75, a76, a77, a78, a79, a80, a81, a82, a83, a84, a85, a86, a87, a88, a89, a90, a91, a92, a93, a94, a95, a96])), (q1, .inl (k2, 8, .inl (upd (upd (upd (fun _ => 0) (0 : Int32).toNatClampNeg 0) (1 : Int32).toNatClampNeg 97) (2 : Int32).toNatClampNeg 115)))] H := hP
  have hD : va_D A [(h0, .inr (8, [a0, a1, a2, a3, a4, a5, a6, a7, a8, a9, a10, a11, a12, a13, .int 0, a15, a16, .int 0, .int 0, a19, a20, a21, a22, a23, a24, a25, a26, a27, a28, a29, a30, a31, a32, a33, a34, a35, a36, a37, a38, a39, a40, a41, a42, a43, a44, a45, a46, a47, a48, a49, a50, a51, a52, a53, a54, a55, a56, a57, a58, a59, a60, a61, a62, a63, a64, a65, a66, a67, a68, a69, a70, a71, a72, a73, a74, a75, a76, a77, a78, a79, a80, a81, a82, a83, a84, a85, a86, a87, a88, a89, a90, a91, a92, a93, a94, a95, a96])), (q1, .inl (k2, 8, .inl (upd (upd (upd (fun _ => 0) (0 : Int32).toNatClampNeg 0) (1 : Int32).toNatClampNeg 97) (2 : Int32).toNatClampNeg 115)))] := hD
  refine lv_dup hx hb d_M_readModule_18 rfl ?_
  refine lv_iconst (v := 3) hx hb d_M_readModule_19 (by decide) ?_
  refine lv_bipush (v := 109) hx hb d_M_readModule_20 (by decide) ?_
  refine va_iast (i := 3) (x := 109) hx hb hK hP hD hS 1 0 rfl rfl (xt_vin (by decide +kernel)) d_M_readModule_22 (fun H locs hP hD hS => ?_)
  have hP : va_P D xcl [(h0, .inr (8, [a0, a1, a2, a3, a4, a5, a6, a7, a8, a9, a10, a11, a12, a13, .int 0, a15, a16, .int 0, .int 0, a19, a20, a21, a22, a23, a24, a25, a26, a27, a28, a29, a30, a31, a32, a33, a34, a35, a36, a37, a38, a39, a40, a41, a42, a43, a44, a45, a46, a47, a48, a49, a50, a51, a52, a53, a54, a55, a56, a57, a58, a59, a60, a61, a62, a63, a64, a65, a66, a67, a68, a69, a70, a71, a72, a73, a74, a75, a76, a77, a78, a79, a80, a81, a82, a83, a84, a85, a86, a87, a88, a89, a90, a91, a92, a93, a94, a95, a96])), (q1, .inl (k2, 8, .inl (upd (upd (upd (upd (fun _ => 0) (0 : Int32).toNatClampNeg 0) (1 : Int32).toNatClampNeg 97) (2 : Int32).toNatClampNeg 115) (3 : Int32).toNatClampNeg 109)))] H := hP
  have hD : va_D A [(h0, .inr (8, [a0, a1, a2, a3, a4, a5, a6, a7, a8, a9, a10, a11, a12, a13, .int 0, a15, a16, .int 0, .int 0, a19, a20, a21, a22, a23, a24, a25, a26, a27, a28, a29, a30, a31, a32, a33, a34, a35, a36, a37, a38, a39, a40, a41, a42, a43, a44, a45, a46, a47, a48, a49, a50, a51, a52, a53, a54, a55, a56, a57, a58, a59, a60, a61, a62, a63, a64, a65, a66, a67, a68, a69, a70, a71, a72, a73, a74, a75, a76, a77, a78, a79, a80, a81, a82, a83, a84, a85, a86, a87, a88, a89, a90, a91, a92, a93, a94, a95, a96])), (q1, .inl (k2, 8, .inl (upd (upd (upd (upd (fun _ => 0) (0 : Int32).toNatClampNeg 0) (1 : Int32).toNatClampNeg 97) (2 : Int32).toNatClampNeg 115) (3 : Int32).toNatClampNeg 109)))] := hD
  refine lv_dup hx hb d_M_readModule_23 rfl ?_
  refine lv_iconst (v := 4) hx hb d_M_readModule_24 (by decide) ?_
  refine lv_iconst (v := 1) hx hb d_M_readModule_25 (by decide) ?_
  refine va_iast (i := 4) (x := 1) hx hb hK hP hD hS 1 0 rfl rfl (xt_vin (by decide +kernel)) d_M_readModule_26 (fun H locs hP hD hS => ?_)
  have hP : va_P D xcl [(h0, .inr (8, [a0, a1, a2, a3, a4, a5, a6, a7, a8, a9, a10, a11, a12, a13, .int 0, a15, a16, .int 0, .int 0, a19, a20, a21, a22, a23, a24, a25, a26, a27, a28, a29, a30, a31, a32, a33, a34, a35, a36, a37, a38, a39, a40, a41, a42, a43, a44, a45, a46, a47, a48, a49, a50, a51, a52, a53, a54, a55, a56, a57, a58, a59, a60, a61, a62, a63, a64, a65, a66, a67, a68, a69, a70, a71, a72, a73, a74, a75, a76, a77, a78, a79, a80, a81, a82, a83, a84, a85, a86, a87, a88, a89, a90, a91, a92, a93, a94, a95, a96])), (q1, .inl (k2, 8, .inl (upd (upd (upd (upd (upd (fun _ => 0) (0 : Int32).toNatClampNeg 0) (1 : Int32).toNatClampNeg 97) (2 : Int32).toNatClampNeg 115) (3 : Int32).toNatClampNeg 109) (4 : Int32).toNatClampNeg 1)))] H := hP
  have hD : va_D A [(h0, .inr (8, [a0, a1, a2, a3, a4, a5, a6, a7, a8, a9, a10, a11, a12, a13, .int 0, a15, a16, .int 0, .int 0, a19, a20, a21, a22, a23, a24, a25, a26, a27, a28, a29, a30, a31, a32, a33, a34, a35, a36, a37, a38, a39, a40, a41, a42, a43, a44, a45, a46, a47, a48, a49, a50, a51, a52, a53, a54, a55, a56, a57, a58, a59, a60, a61, a62, a63, a64, a65, a66, a67, a68, a69, a70, a71, a72, a73, a74, a75, a76, a77, a78, a79, a80, a81, a82, a83, a84, a85, a86, a87, a88, a89, a90, a91, a92, a93, a94, a95, a96])), (q1, .inl (k2, 8, .inl (upd (upd (upd (upd (upd (fun _ => 0) (0 : Int32).toNatClampNeg 0) (1 : Int32).toNatClampNeg 97) (2 : Int32).toNatClampNeg 115) (3 : Int32).toNatClampNeg 109) (4 : Int32).toNatClampNeg 1)))] := hD
  refine lv_dup hx hb d_M_readModule_27 rfl ?_
  refine lv_iconst (v := 5) hx hb d_M_readModule_28 (by decide) ?_
  refine lv_iconst (v := 0) hx hb d_M_readModule_29 (by decide) ?_
  refine va_iast (i := 5) (x := 0) hx hb hK hP hD hS 1 0 rfl rfl (xt_vin (by decide +kernel)) d_M_readModule_30 (fun H locs hP hD hS => ?_)
  have hP : va_P D xcl [(h0, .inr (8, [a0, a1, a2, a3, a4, a5, a6, a7, a8, a9, a10, a11, a12, a13, .int 0, a15, a16, .int 0, .int 0, a19, a20, a21, a22, a23, a24, a25, a26, a27, a28, a29, a30, a31, a32, a33, a34, a35, a36, a37, a38, a39, a40, a41, a42, a43, a44, a45, a46, a47, a48, a49, a50, a51, a52, a53, a54, a55, a56, a57, a58, a59, a60, a61, a62, a63, a64, a65, a66, a67, a68, a69, a70, a71, a72, a73, a74, a75, a76, a77, a78, a79, a80, a81, a82, a83, a84, a85, a86, a87, a88, a89, a90, a91, a92, a93, a94, a95, a96])), (q1, .inl (k2, 8, .inl (upd (upd (upd (upd (upd (upd (fun _ => 0) (0 : Int32).toNatClampNeg 0) (1 : Int32).toNatClampNeg 97) (2 : Int32).toNatClampNeg 115) (3 : Int32).toNatClampNeg 109) (4 : Int32).toNatClampNeg 1) (5 : Int32).toNatClampNeg 0)))] H := hP
  have hD : va_D A [(h0, .inr (8, [a0, a1, a2, a3, a4, a5, a6, a7, a8, a9, a10, a11, a12, a13, .int 0, a15, a16, .int 0, .int 0, a19, a20, a21, a22, a23, a24, a25, a26, a27, a28, a29, a30, a31, a32, a33, a34, a35, a36, a37, a38, a39, a40, a41, a42, a43, a44, a45, a46, a47, a48, a49, a50, a51, a52, a53, a54, a55, a56, a57, a58, a59, a60, a61, a62, a63, a64, a65, a66, a67, a68, a69, a70, a71, a72, a73, a74, a75, a76, a77, a78, a79, a80, a81, a82, a83, a84, a85, a86, a87, a88, a89, a90, a91, a92, a93, a94, a95, a96])), (q1, .inl (k2, 8, .inl (upd (upd (upd (upd (upd (upd (fun _ => 0) (0 : Int32).toNatClampNeg 0) (1 : Int32).toNatClampNeg 97) (2 : Int32).toNatClampNeg 115) (3 : Int32).toNatClampNeg 109) (4 : Int32).toNatClampNeg 1) (5 : Int32).toNatClampNeg 0)))] := hD
  refine lv_dup hx hb d_M_readModule_31 rfl ?_
  refine lv_bipush (v := 6) hx hb d_M_readModule_32 (by decide) ?_
  refine lv_iconst (v := 0) hx hb d_M_readModule_34 (by decide) ?_
  refine va_iast (i := 6) (x := 0) hx hb hK hP hD hS 1 0 rfl rfl (xt_vin (by decide +kernel)) d_M_readModule_35 (fun H locs hP hD hS => ?_)
  have hP : va_P D xcl [(h0, .inr (8, [a0, a1, a2, a3, a4, a5, a6, a7, a8, a9, a10, a11, a12, a13, .int 0, a15, a16, .int 0, .int 0, a19, a20, a21, a22, a23, a24, a25, a26, a27, a28, a29, a30, a31, a32, a33, a34, a35, a36, a37, a38, a39, a40, a41, a42, a43, a44, a45, a46, a47, a48, a49, a50, a51, a52, a53, a54, a55, a56, a57, a58, a59, a60, a61, a62, a63, a64, a65, a66, a67, a68, a69, a70, a71, a72, a73, a74, a75, a76, a77, a78, a79, a80, a81, a82, a83, a84, a85, a86, a87, a88, a89, a90, a91, a92, a93, a94, a95, a96])), (q1, .inl (k2, 8, .inl (upd (upd (upd (upd (upd (upd (upd (fun _ => 0) (0 : Int32).toNatClampNeg 0) (1 : Int32).toNatClampNeg 97) (2 : Int32).toNatClampNeg 115) (3 : Int32).toNatClampNeg 109) (4 : Int32).toNatClampNeg 1) (5 : Int32).toNatClampNeg 0) (6 : Int32).toNatClampNeg 0)))] H := hP
  have hD : va_D A [(h0, .inr (8, [a0, a1, a2, a3, a4, a5, a6, a7, a8, a9, a10, a11, a12, a13, .int 0, a15, a16, .int 0, .int 0, a19, a20, a21, a22, a23, a24, a25, a26, a27, a28, a29, a30, a31, a32, a33, a34, a35, a36, a37, a38, a39, a40, a41, a42, a43, a44, a45, a46, a47, a48, a49, a50, a51, a52, a53, a54, a55, a56, a57, a58, a59, a60, a61, a62, a63, a64, a65, a66, a67, a68, a69, a70, a71, a72, a73, a74, a75, a76, a77, a78, a79, a80, a81, a82, a83, a84, a85, a86, a87, a88, a89, a90, a91, a92, a93, a94, a95, a96])), (q1, .inl (k2, 8, .inl (upd (upd (upd (upd (upd (upd (upd (fun _ => 0) (0 : Int32).toNatClampNeg 0) (1 : Int32).toNatClampNeg 97) (2 : Int32).toNatClampNeg 115) (3 : Int32).toNatClampNeg 109) (4 : Int32).toNatClampNeg 1) (5 : Int32).toNatClampNeg 0) (6 : Int32).toNatClampNeg 0)))] := hD
  refine lv_dup hx hb d_M_readModule_36 rfl ?_
  refine lv_bipush (v := 7) hx hb d_M_readModule_37 (by decide) ?_
  refine lv_iconst (v := 0) hx hb d_M_readModule_39 (by decide) ?_
  refine va_iast (i := 7) (x := 0) hx hb hK hP hD hS 1 0 rfl rfl (xt_vin (by decide +kernel)) d_M_readModule_40 (fun H locs hP hD hS => ?_)
  have hP : va_P D xcl [(h0, .inr (8, [a0, a1, a2, a3, a4, a5, a6, a7, a8, a9, a10, a11, a12, a13, .int 0, a15, a16, .int 0, .int 0, a19, a20, a21, a22, a23, a24, a25, a26, a27, a28, a29, a30, a31, a32, a33, a34, a35, a36, a37, a38, a39, a40, a41, a42, a43, a44, a45, a46, a47, a48, a49, a50, a51, a52, a53, a54, a55, a56, a57, a58, a59, a60, a61, a62, a63, a64, a65, a66, a67, a68, a69, a70, a71, a72, a73, a74, a75, a76, a77, a78, a79, a80, a81, a82, a83, a84, a85, a86, a87, a88, a89, a90, a91, a92, a93, a94, a95, a96])), (q1, .inl (k2, 8, .inl (upd (upd (upd (upd (upd (upd (upd (upd (fun _ => 0) (0 : Int32).toNatClampNeg 0) (1 : Int32).toNatClampNeg 97) (2 : Int32).toNatClampNeg 115) (3 : Int32).toNatClampNeg 109) (4 : Int32).toNatClampNeg 1) (5 : Int32).toNatClampNeg 0) (6 : Int32).toNatClampNeg 0) (7 : Int32).toNatClampNeg 0)))] H := hP
  have hD : va_D A [(h0, .inr (8, [a0, a1, a2, a3, a4, a5, a6, a7, a8, a9, a10, a11, a12, a13, .int 0, a15, a16, .int 0, .int 0, a19, a20, a21, a22, a23, a24, a25, a26, a27, a28, a29, a30, a31, a32, a33, a34, a35, a36, a37, a38, a39, a40, a41, a42, a43, a44, a45, a46, a47, a48, a49, a50, a51, a52, a53, a54, a55, a56, a57, a58, a59, a60, a61, a62, a63, a64, a65, a66, a67, a68, a69, a70, a71, a72, a73, a74, a75, a76, a77, a78, a79, a80, a81, a82, a83, a84, a85, a86, a87, a88, a89, a90, a91, a92, a93, a94, a95, a96])), (q1, .inl (k2, 8, .inl (upd (upd (upd (upd (upd (upd (upd (upd (fun _ => 0) (0 : Int32).toNatClampNeg 0) (1 : Int32).toNatClampNeg 97) (2 : Int32).toNatClampNeg 115) (3 : Int32).toNatClampNeg 109) (4 : Int32).toNatClampNeg 1) (5 : Int32).toNatClampNeg 0) (6 : Int32).toNatClampNeg 0) (7 : Int32).toNatClampNeg 0)))] := hD
  refine lv_astore_n hx hb d_M_readModule_41 rfl hl (by decide) rfl (fun ls hl => ?_)
  have hl : lv_has ls 8 [(2, .ref q1), (0, .ref h0), (1, .int 0)] := hl
  refine lv_iconst (v := 0) hx hb d_M_readModule_42 (by decide) ?_
  refine lv_istore_n hx hb d_M_readModule_43 rfl hl (by decide) rfl (fun ls hl => ?_)
  have hl : lv_has ls 8 [(3, .int 0), (2, .ref q1), (0, .ref h0), (1, .int 0)] := hl
  refine lv_iload_n hx hb d_M_readModule_44 rfl (lv_at hl 0 rfl) ?_
  refine lv_bipush (v := 8) hx hb d_M_readModule_45 (by decide) ?_
  refine lv_icmp_ge (tgt := 98) hx hb d_M_readModule_47 rfl (fun h9 => absurd h9 (by decide)) (fun _ => ?_)
  refine lv_aload_n hx hb d_M_readModule_50 rfl (lv_at hl 2 rfl) ?_
  refine va_get (D := D) (ci := 8) (v := .int 0) (C := R_M) (T := F_M) (N := 97) hx hb hts fin_M hown hK hP 0 rfl rfl 14 (by decide) (hts _ m_a8fce005) (fun _ h9 => h9) rfl d_M_readModule_51 ?_
  refine lv_iload_n hx hb d_M_readModule_54 rfl (lv_at hl 0 rfl) ?_
  refine lv_iadd hx hb d_M_readModule_55 ?_
  refine xt_numi (y := 0) (by decide) ?_
  refine lv_iload_n hx hb d_M_readModule_56 rfl (lv_at hl 3 rfl) ?_
  refine lv_icmp_ge (tgt := 81) hx hb d_M_readModule_57 rfl (fun _ => ?_) (fun h9 => absurd h9 (by decide))
  refine lv_aload_n hx hb d_M_readModule_81 rfl (lv_at hl 2 rfl) ?_
  refine lv_iconst (v := 1) hx hb d_M_readModule_82 (by decide) ?_
  refine lv_aload_n hx hb d_M_readModule_83 rfl (lv_at hl 2 rfl) ?_
  refine va_get (D := D) (ci := 8) (v := .int 0) (C := R_M) (T := F_M) (N := 97) hx hb hts fin_M hown hK hP 0 rfl rfl 14 (by decide) (hts _ m_a8fce005) (fun _ h9 => h9) rfl d_M_readModule_84 ?_
  refine lv_iload_n hx hb d_M_readModule_87 rfl (lv_at hl 0 rfl) ?_
  refine lv_iadd hx hb d_M_readModule_88 ?_
  refine xt_numi (y := 0) (by decide) ?_
  refine xt_call (D := D) (cl := xcl) (wr := [(q1, .inl (k2, 8, .inl (upd (upd (upd (upd (upd (upd (upd (upd (fun _ => 0) (0 : Int32).toNatClampNeg 0) (1 : Int32).toNatClampNeg 97) (2 : Int32).toNatClampNeg 115) (3 : Int32).toNatClampNeg 109) (4 : Int32).toNatClampNeg 1) (5 : Int32).toNatClampNeg 0) (6 : Int32).toNatClampNeg 0) (7 : Int32).toNatClampNeg 0)))]) (fun T hT X => by
    obtain ⟨cb, r1, r2, r3⟩ := va_recv hK hP (ci := 8) (q0 := 0) rfl rfl
    exact xt_invV X hx hown (hts _ m_939052ad) (hts _ m_29cc8c73) (hts _ m_3b1ac7ab) (xt_sigOf (hts _ m_8f062ecd)) nm_M_fail (by rw [hT]; exact r1) r2 r3 (g := F0 m 89 ls [.int 0, .int 1, .ref h0]) rfl (argsL := [.int 1, .int 0]) (rest := []) rfl rfl (by rw [hb]; exact d_M_readModule_89)) (c_M_fail_0 l D h0 (a0) (a1) (a2) (a3) (a4) (a5) (a6) (a7) (a8) (a9) (a10) (a11) (a12) (a13) (a15) (a16) (a19) (a20) (a21) (a22) (a23) (a24) (a25) (a26) (a27) (a28) (a29) (a30) (a31) (a32) (a33) (a34) (a35) (a36) (a37) (a38) (a39) (a40) (a41) (a42) (a43) (a44) (a45) (a46) (a47) (a48) (a49) (a50) (a51) (a52) (a53) (a54) (a55) (a56) (a57) (a58) (a59) (a60) (a61) (a62) (a63) (a64) (a65) (a66) (a67) (a68) (a69) (a70) (a71) (a72) (a73) (a74) (a75) (a76) (a77) (a78) (a79) (a80) (a81) (a82) (a83) (a84) (a85) (a86) (a87) (a88) (a89) (a90) (a91) (a92) (a93) (a94) (a95) (a96) H.size) (hml.trans hl.1.symm) (by rw [hb]; exact d_M_readModule_89) (Nat.le_of_ble_eq_true rfl) rfl rfl (by decide) (by decide) (by decide) (by decide) (xt_w1 hB m_8f062ecd) (xt_cdOf hB m_8f062ecd) (hts _ m_d5ed7bed) hB hK hP hD hS hA [0] [1] [] rfl rfl rfl (by decide) (by decide) (by decide) (fun v4 u3 H locs hp hP hD hK hS => ?_) (fun XX9 ax9 u3 H locs hp hex hP hD hK hS => ?_)
  · obtain rfl : v4 = none := hp
    have hP : va_P D xcl [(q1, .inl (k2, 8, .inl (upd (upd (upd (upd (upd (upd (upd (upd (fun _ => 0) (0 : Int32).toNatClampNeg 0) (1 : Int32).toNatClampNeg 97) (2 : Int32).toNatClampNeg 115) (3 : Int32).toNatClampNeg 109) (4 : Int32).toNatClampNeg 1) (5 : Int32).toNatClampNeg 0) (6 : Int32).toNatClampNeg 0) (7 : Int32).toNatClampNeg 0))), (h0, .inr (8, [a0, a1, a2, a3, a4, a5, a6, a7, a8, a9, a10, a11, a12, a13, .int 0, a15, a16, .int 1, .int 0, a19, a20, a21, a22, a23, a24, a25, a26, a27, a28, a29, a30, a31, a32, a33, a34, a35, a36, a37, a38, a39, a40, a41, a42, a43, a44, a45, a46, a47, a48, a49, a50, a51, a52, a53, a54, a55, a56, a57, a58, a59, a60, a61, a62, a63, a64, a65, a66, a67, a68, a69, a70, a71, a72, a73, a74, a75, a76, a77, a78, a79, a80, a81, a82, a83, a84, a85, a86, a87, a88, a89, a90, a91, a92, a93, a94, a95, a96]))] H := hP
    have hD : va_D A [(q1, .inl (k2, 8, .inl (upd (upd (upd (upd (upd (upd (upd (upd (fun _ => 0) (0 : Int32).toNatClampNeg 0) (1 : Int32).toNatClampNeg 97) (2 : Int32).toNatClampNeg 115) (3 : Int32).toNatClampNeg 109) (4 : Int32).toNatClampNeg 1) (5 : Int32).toNatClampNeg 0) (6 : Int32).toNatClampNeg 0) (7 : Int32).toNatClampNeg 0))), (h0, .inr (8, [a0, a1, a2, a3, a4, a5, a6, a7, a8, a9, a10, a11, a12, a13, .int 0, a15, a16, .int 1, .int 0, a19, a20, a21, a22, a23, a24, a25, a26, a27, a28, a29, a30, a31, a32, a33, a34, a35, a36, a37, a38, a39, a40, a41, a42, a43, a44, a45, a46, a47, a48, a49, a50, a51, a52, a53, a54, a55, a56, a57, a58, a59, a60, a61, a62, a63, a64, a65, a66, a67, a68, a69, a70, a71, a72, a73, a74, a75, a76, a77, a78, a79, a80, a81, a82, a83, a84, a85, a86, a87, a88, a89, a90, a91, a92, a93, a94, a95, a96]))] := hD
    have hK : va_K D xcl [(k2, .int)] s := hK
    refine W.eq (g2 := F0 m 92 ls []) rfl ?_
    refine W.widen (k := 1) (n := 8) (by omega) (by omega) ?_
    refine lv_iinc (v := 1) (k := 0) hx hb d_M_readModule_92 hl rfl (by first | decide | rfl) (by decide) rfl (fun ls hl => ?_)
    have hl : lv_has ls 8 [(3, .int 1), (2, .ref q1), (0, .ref h0), (1, .int 0)] := hl
    refine lv_goto (tgt := 44) hx hb d_M_readModule_95 rfl ?_
    refine lv_iload_n hx hb d_M_readModule_44 rfl (lv_at hl 0 rfl) ?_
    refine lv_bipush (v := 8) hx hb d_M_readModule_45 (by decide) ?_
    refine lv_icmp_ge (tgt := 98) hx hb d_M_readModule_47 rfl (fun h9 => absurd h9 (by decide)) (fun _ => ?_)
    refine lv_aload_n hx hb d_M_readModule_50 rfl (lv_at hl 2 rfl) ?_
    refine va_get (D := D) (ci := 8) (v := .int 0) (C := R_M) (T := F_M) (N := 97) hx hb hts fin_M hown hK hP 1 rfl rfl 14 (by decide) (hts _ m_a8fce005) (fun _ h9 => h9) rfl d_M_readModule_51 ?_
    refine lv_iload_n hx hb d_M_readModule_54 rfl (lv_at hl 0 rfl) ?_
    refine lv_iadd hx hb d_M_readModule_55 ?_
    refine xt_numi (y := 1) (by decide) ?_
    refine lv_iload_n hx hb d_M_readModule_56 rfl (lv_at hl 3 rfl) ?_
    refine lv_icmp_ge (tgt := 81) hx hb d_M_readModule_57 rfl (fun _ => ?_) (fun h9 => absurd h9 (by decide))
    refine lv_aload_n hx hb d_M_readModule_81 rfl (lv_at hl 2 rfl) ?_
    refine lv_iconst (v := 1) hx hb d_M_readModule_82 (by decide) ?_
    refine lv_aload_n hx hb d_M_readModule_83 rfl (lv_at hl 2 rfl) ?_
    refine va_get (D := D) (ci := 8) (v := .int 0) (C := R_M) (T := F_M) (N := 97) hx hb hts fin_M hown hK hP 1 rfl rfl 14 (by decide) (hts _ m_a8fce005) (fun _ h9 => h9) rfl d_M_readModule_84 ?_
    refine lv_iload_n hx hb d_M_readModule_87 rfl (lv_at hl 0 rfl) ?_
    refine lv_iadd hx hb d_M_readModule_88 ?_
    refine xt_numi (y := 1) (by decide) ?_
    refine xt_call (D := D) (cl := xcl) (wr := [(q1, .inl (k2, 8, .inl (upd (upd (upd (upd (upd (upd (upd (upd (fun _ => 0) (0 : Int32).toNatClampNeg 0) (1 : Int32).toNatClampNeg 97) (2 : Int32).toNatClampNeg 115) (3 : Int32).toNatClampNeg 109) (4 : Int32).toNatClampNeg 1) (5 : Int32).toNatClampNeg 0) (6 : Int32).toNatClampNeg 0) (7 : Int32).toNatClampNeg 0)))]) (fun T hT X => by
      obtain ⟨cb, r1, r2, r3⟩ := va_recv hK hP (ci := 8) (q0 := 1) rfl rfl
      exact xt_invV X hx hown (hts _ m_939052ad) (hts _ m_29cc8c73) (hts _ m_3b1ac7ab) (xt_sigOf (hts _ m_8f062ecd)) nm_M_fail (by rw [hT]; exact r1) r2 r3 (g := F0 m 89 ls [.int 1, .int 1, .ref h0]) rfl (argsL := [.int 1, .int 1]) (rest := []) rfl rfl (by rw [hb]; exact d_M_readModule_89)) (c_M_fail_1 l D h0 1 (a0) (a1) (a2) (a3) (a4) (a5) (a6) (a7) (a8) (a9) (a10) (a11) (a12) (a13) (.int 0) (a15) (a16) (.int 0) (a19) (a20) (a21) (a22) (a23) (a24) (a25) (a26) (a27) (a28) (a29) (a30) (a31) (a32) (a33) (a34) (a35) (a36) (a37) (a38) (a39) (a40) (a41) (a42) (a43) (a44) (a45) (a46) (a47) (a48) (a49) (a50) (a51) (a52) (a53) (a54) (a55) (a56) (a57) (a58) (a59) (a60) (a61) (a62) (a63) (a64) (a65) (a66) (a67) (a68) (a69) (a70) (a71) (a72) (a73) (a74) (a75) (a76) (a77) (a78) (a79) (a80) (a81) (a82) (a83) (a84) (a85) (a86) (a87) (a88) (a89) (a90) (a91) (a92) (a93) (a94) (a95) (a96) H.size) (hml.trans hl.1.symm) (by rw [hb]; exact d_M_readModule_89) (Nat.le_of_ble_eq_true rfl) rfl rfl (by decide) (by decide) (by decide) (by decide) (xt_w1 hB m_8f062ecd) (xt_cdOf hB m_8f062ecd) (hts _ m_d5ed7bed) hB hK hP hD hS hA [1] [0] [] rfl rfl rfl (by decide) (by decide) (by decide) (fun v6 u5 H locs hp hP hD hK hS => ?_) (fun XX9 ax9 u5 H locs hp hex hP hD hK hS => ?_)
    · obtain rfl : v6 = none := hp
      have hP : va_P D xcl [(q1, .inl (k2, 8, .inl (upd (upd (upd (upd (upd (upd (upd (upd (fun _ => 0) (0 : Int32).toNatClampNeg 0) (1 : Int32).toNatClampNeg 97) (2 : Int32).toNatClampNeg 115) (3 : Int32).toNatClampNeg 109) (4 : Int32).toNatClampNeg 1) (5 : Int32).toNatClampNeg 0) (6 : Int32).toNatClampNeg 0) (7 : Int32).toNatClampNeg 0))), (h0, .inr (8, [a0, a1, a2, a3, a4, a5, a6, a7, a8, a9, a10, a11, a12, a13, .int 0, a15, a16, .int 1, .int 0, a19, a20, a21, a22, a23, a24, a25, a26, a27, a28, a29, a30, a31, a32, a33, a34, a35, a36, a37, a38, a39, a40, a41, a42, a43, a44, a45, a46, a47, a48, a49, a50, a51, a52, a53, a54, a55, a56, a57, a58, a59, a60, a61, a62, a63, a64, a65, a66, a67, a68, a69, a70, a71, a72, a73, a74, a75, a76, a77, a78, a79, a80, a81, a82, a83, a84, a85, a86, a87, a88, a89, a90, a91, a92, a93, a94, a95, a96]))] H := hP
      have hD : va_D A [(q1, .inl (k2, 8, .inl (upd (upd (upd (upd (upd (upd (upd (upd (fun _ => 0) (0 : Int32).toNatClampNeg 0) (1 : Int32).toNatClampNeg 97) (2 : Int32).toNatClampNeg 115) (3 : Int32).toNatClampNeg 109) (4 : Int32).toNatClampNeg 1) (5 : Int32).toNatClampNeg 0) (6 : Int32).toNatClampNeg 0) (7 : Int32).toNatClampNeg 0))), (h0, .inr (8, [a0, a1, a2, a3, a4, a5, a6, a7, a8, a9, a10, a11, a12, a13, .int 0, a15, a16, .int 1, .int 0, a19, a20, a21, a22, a23, a24, a25, a26, a27, a28, a29, a30, a31, a32, a33, a34, a35, a36, a37, a38, a39, a40, a41, a42, a43, a44, a45, a46, a47, a48, a49, a50, a51, a52, a53, a54, a55, a56, a57, a58, a59, a60, a61, a62, a63, a64, a65, a66, a67, a68, a69, a70, a71, a72, a73, a74, a75, a76, a77, a78, a79, a80, a81, a82, a83, a84, a85, a86, a87, a88, a89, a90, a91, a92, a93, a94, a95, a96]))] := hD
      have hK : va_K D xcl [(k2, .int)] s := hK
      refine W.eq (g2 := F0 m 92 ls []) rfl ?_
      refine W.widen (k := 1) (n := 8) (by omega) (by omega) ?_
      refine lv_iinc (v := 2) (k := 0) hx hb d_M_readModule_92 hl rfl (by first | decide | rfl) (by decide) rfl (fun ls hl => ?_)
      have hl : lv_has ls 8 [(3, .int 2), (2, .ref q1), (0, .ref h0), (1, .int 0)] := hl
      refine lv_goto (tgt := 44) hx hb d_M_readModule_95 rfl ?_
      refine lv_iload_n hx hb d_M_readModule_44 rfl (lv_at hl 0 rfl) ?_
      refine lv_bipush (v := 8) hx hb d_M_readModule_45 (by decide) ?_
      refine lv_icmp_ge (tgt := 98) hx hb d_M_readModule_47 rfl (fun h9 => absurd h9 (by decide)) (fun _ => ?_)
      refine lv_aload_n hx hb d_M_readModule_50 rfl (lv_at hl 2 rfl) ?_
      refine va_get (D := D) (ci := 8) (v := .int 0) (C := R_M) (T := F_M) (N := 97) hx hb hts fin_M hown hK hP 1 rfl rfl 14 (by decide) (hts _ m_a8fce005) (fun _ h9 => h9) rfl d_M_readModule_51 ?_
      refine lv_iload_n hx hb d_M_readModule_54 rfl (lv_at hl 0 rfl) ?_
      refine lv_iadd hx hb d_M_readModule_55 ?_
      refine xt_numi (y := 2) (by decide) ?_
      refine lv_iload_n hx hb d_M_readModule_56 rfl (lv_at hl 3 rfl) ?_
      refine lv_icmp_ge (tgt := 81) hx hb d_M_readModule_57 rfl (fun _ => ?_) (fun h9 => absurd h9 (by decide))
      refine lv_aload_n hx hb d_M_readModule_81 rfl (lv_at hl 2 rfl) ?_
      refine lv_iconst (v := 1) hx hb d_M_readModule_82 (by decide) ?_
      refine lv_aload_n hx hb d_M_readModule_83 rfl (lv_at hl 2 rfl) ?_
      refine va_get (D := D) (ci := 8) (v := .int 0) (C := R_M) (T := F_M) (N := 97) hx hb hts fin_M hown hK hP 1 rfl rfl 14 (by decide) (hts _ m_a8fce005) (fun _ h9 => h9) rfl d_M_readModule_84 ?_
      refine lv_iload_n hx hb d_M_readModule_87 rfl (lv_at hl 0 rfl) ?_
      refine lv_iadd hx hb d_M_readModule_88 ?_
      refine xt_numi (y := 2) (by decide) ?_
      refine xt_call (D := D) (cl := xcl) (wr := [(q1, .inl (k2, 8, .inl (upd (upd (upd (upd (upd (upd (upd (upd (fun _ => 0) (0 : Int32).toNatClampNeg 0) (1 : Int32).toNatClampNeg 97) (2 : Int32).toNatClampNeg 115) (3 : Int32).toNatClampNeg 109) (4 : Int32).toNatClampNeg 1) (5 : Int32).toNatClampNeg 0) (6 : Int32).toNatClampNeg 0) (7 : Int32).toNatClampNeg 0)))]) (fun T hT X => by
        obtain ⟨cb, r1, r2, r3⟩ := va_recv hK hP (ci := 8) (q0 := 1) rfl rfl
        exact xt_invV X hx hown (hts _ m_939052ad) (hts _ m_29cc8c73) (hts _ m_3b1ac7ab) (xt_sigOf (hts _ m_8f062ecd)) nm_M_fail (by rw [hT]; exact r1) r2 r3 (g := F0 m 89 ls [.int 2, .int 1, .ref h0]) rfl (argsL := [.int 1, .int 2]) (rest := []) rfl rfl (by rw [hb]; exact d_M_readModule_89)) (c_M_fail_1 l D h0 2 (a0) (a1) (a2) (a3) (a4) (a5) (a6) (a7) (a8) (a9) (a10) (a11) (a12) (a13) (.int 0) (a15) (a16) (.int 0) (a19) (a20) (a21) (a22) (a23) (a24) (a25) (a26) (a27) (a28) (a29) (a30) (a31) (a32) (a33) (a34) (a35) (a36) (a37) (a38) (a39) (a40) (a41) (a42) (a43) (a44) (a45) (a46) (a47) (a48) (a49) (a50) (a51) (a52) (a53) (a54) (a55) (a56) (a57) (a58) (a59) (a60) (a61) (a62) (a63) (a64) (a65) (a66) (a67) (a68) (a69) (a70) (a71) (a72) (a73) (a74) (a75) (a76) (a77) (a78) (a79) (a80) (a81) (a82) (a83) (a84) (a85) (a86) (a87) (a88) (a89) (a90) (a91) (a92) (a93) (a94) (a95) (a96) H.size) (hml.trans hl.1.symm) (by rw [hb]; exact d_M_readModule_89) (Nat.le_of_ble_eq_true rfl) rfl rfl (by decide) (by decide) (by decide) (by decide) (xt_w1 hB m_8f062ecd) (xt_cdOf hB m_8f062ecd) (hts _ m_d5ed7bed) hB hK hP hD hS hA [1] [0] [] rfl rfl rfl (by decide) (by decide) (by decide) (fun v8 u7 H locs hp hP hD hK hS => ?_) (fun XX9 ax9 u7 H locs hp hex hP hD hK hS => ?_)
      · obtain rfl : v8 = none := hp
        have hP : va_P D xcl [(q1, .inl (k2, 8, .inl (upd (upd (upd (upd (upd (upd (upd (upd (fun _ => 0) (0 : Int32).toNatClampNeg 0) (1 : Int32).toNatClampNeg 97) (2 : Int32).toNatClampNeg 115) (3 : Int32).toNatClampNeg 109) (4 : Int32).toNatClampNeg 1) (5 : Int32).toNatClampNeg 0) (6 : Int32).toNatClampNeg 0) (7 : Int32).toNatClampNeg 0))), (h0, .inr (8, [a0, a1, a2, a3, a4, a5, a6, a7, a8, a9, a10, a11, a12, a13, .int 0, a15, a16, .int 1, .int 0, a19, a20, a21, a22, a23, a24, a25, a26, a27, a28, a29, a30, a31, a32, a33, a34, a35, a36, a37, a38, a39, a40, a41, a42, a43, a44, a45, a46, a47, a48, a49, a50, a51, a52, a53, a54, a55, a56, a57, a58, a59, a60, a61, a62, a63, a64, a65, a66, a67, a68, a69, a70, a71, a72, a73, a74, a75, a76, a77, a78, a79, a80, a81, a82, a83, a84, a85, a86, a87, a88, a89, a90, a91, a92, a93, a94, a95, a96]))] H := hP
        have hD : va_D A [(q1, .inl (k2, 8, .inl (upd (upd (upd (upd (upd (upd (upd (upd (fun _ => 0) (0 : Int32).toNatClampNeg 0) (1 : Int32).toNatClampNeg 97) (2 : Int32).toNatClampNeg 115) (3 : Int32).toNatClampNeg 109) (4 : Int32).toNatClampNeg 1) (5 : Int32).toNatClampNeg 0) (6 : Int32).toNatClampNeg 0) (7 : Int32).toNatClampNeg 0))), (h0, .inr (8, [a0, a1, a2, a3, a4, a5, a6, a7, a8, a9, a10, a11, a12, a13, .int 0, a15, a16, .int 1, .int 0, a19, a20, a21, a22, a23, a24, a25, a26, a27, a28, a29, a30, a31, a32, a33, a34, a35, a36, a37, a38, a39, a40, a41, a42, a43, a44, a45, a46, a47, a48, a49, a50, a51, a52, a53, a54, a55, a56, a57, a58, a59, a60, a61, a62, a63, a64, a65, a66, a67, a68, a69, a70, a71, a72, a73, a74, a75, a76, a77, a78, a79, a80, a81, a82, a83, a84, a85, a86, a87, a88, a89, a90, a91, a92, a93, a94, a95, a96]))] := hD
        have hK : va_K D xcl [(k2, .int)] s := hK
        refine W.eq (g2 := F0 m 92 ls []) rfl ?_
        refine W.widen (k := 1) (n := 8) (by omega) (by omega) ?_
        refine lv_iinc (v := 3) (k := 0) hx hb d_M_readModule_92 hl rfl (by first | decide | rfl) (by decide) rfl (fun ls hl => ?_)
        have hl : lv_has ls 8 [(3, .int 3), (2, .ref q1), (0, .ref h0), (1, .int 0)] := hl
        refine lv_goto (tgt := 44) hx hb d_M_readModule_95 rfl ?_
        refine lv_iload_n hx hb d_M_readModule_44 rfl (lv_at hl 0 rfl) ?_
        refine lv_bipush (v := 8) hx hb d_M_readModule_45 (by decide) ?_
        refine lv_icmp_ge (tgt := 98) hx hb d_M_readModule_47 rfl (fun h9 => absurd h9 (by decide)) (fun _ => ?_)
        refine lv_aload_n hx hb d_M_readModule_50 rfl (lv_at hl 2 rfl) ?_
        refine va_get (D := D) (ci := 8) (v := .int 0) (C := R_M) (T := F_M) (N := 97) hx hb hts fin_M hown hK hP 1 rfl rfl 14 (by decide) (hts _ m_a8fce005) (fun _ h9 => h9) rfl d_M_readModule_51 ?_
        refine lv_iload_n hx hb d_M_readModule_54 rfl (lv_at hl 0 rfl) ?_
        refine lv_iadd hx hb d_M_readModule_55 ?_
        refine xt_numi (y := 3) (by decide) ?_
        refine lv_iload_n hx hb d_M_readModule_56 rfl (lv_at hl 3 rfl) ?_
        refine lv_icmp_ge (tgt := 81) hx hb d_M_readModule_57 rfl (fun _ => ?_) (fun h9 => absurd h9 (by decide))
        refine lv_aload_n hx hb d_M_readModule_81 rfl (lv_at hl 2 rfl) ?_
        refine lv_iconst (v := 1) hx hb d_M_readModule_82 (by decide) ?_
        refine lv_aload_n hx hb d_M_readModule_83 rfl (lv_at hl 2 rfl) ?_
        refine va_get (D := D) (ci := 8) (v := .int 0) (C := R_M) (T := F_M) (N := 97) hx hb hts fin_M hown hK hP 1 rfl rfl 14 (by decide) (hts _ m_a8fce005) (fun _ h9 => h9) rfl d_M_readModule_84 ?_
        refine lv_iload_n hx hb d_M_readModule_87 rfl (lv_at hl 0 rfl) ?_
        refine lv_iadd hx hb d_M_readModule_88 ?_
        refine xt_numi (y := 3) (by decide) ?_
        refine xt_call (D := D) (cl := xcl) (wr := [(q1, .inl (k2, 8, .inl (upd (upd (upd (upd (upd (upd (upd (upd (fun _ => 0) (0 : Int32).toNatClampNeg 0) (1 : Int32).toNatClampNeg 97) (2 : Int32).toNatClampNeg 115) (3 : Int32).toNatClampNeg 109) (4 : Int32).toNatClampNeg 1) (5 : Int32).toNatClampNeg 0) (6 : Int32).toNatClampNeg 0) (7 : Int32).toNatClampNeg 0)))]) (fun T hT X => by
          obtain ⟨cb, r1, r2, r3⟩ := va_recv hK hP (ci := 8) (q0 := 1) rfl rfl
          exact xt_invV X hx hown (hts _ m_939052ad) (hts _ m_29cc8c73) (hts _ m_3b1ac7ab) (xt_sigOf (hts _ m_8f062ecd)) nm_M_fail (by rw [hT]; exact r1) r2 r3 (g := F0 m 89 ls [.int 3, .int 1, .ref h0]) rfl (argsL := [.int 1, .int 3]) (rest := []) rfl rfl (by rw [hb]; exact d_M_readModule_89)) (c_M_fail_1 l D h0 3 (a0) (a1) (a2) (a3) (a4) (a5) (a6) (a7) (a8) (a9) (a10) (a11) (a12) (a13) (.int 0) (a15) (a16) (.int 0) (a19) (a20) (a21) (a22) (a23) (a24) (a25) (a26) (a27) (a28) (a29) (a30) (a31) (a32) (a33) (a34) (a35) (a36) (a37) (a38) (a39) (a40) (a41) (a42) (a43) (a44) (a45) (a46) (a47) (a48) (a49) (a50) (a51) (a52) (a53) (a54) (a55) (a56) (a57) (a58) (a59) (a60) (a61) (a62) (a63) (a64) (a65) (a66) (a67) (a68) (a69) (a70) (a71) (a72) (a73) (a74) (a75) (a76) (a77) (a78) (a79) (a80) (a81) (a82) (a83) (a84) (a85) (a86) (a87) (a88) (a89) (a90) (a91) (a92) (a93) (a94) (a95) (a96) H.size) (hml.trans hl.1.symm) (by rw [hb]; exact d_M_readModule_89) (Nat.le_of_ble_eq_true rfl) rfl rfl (by decide) (by decide) (by decide) (by decide) (xt_w1 hB m_8f062ecd) (xt_cdOf hB m_8f062ecd) (hts _ m_d5ed7bed) hB hK hP hD hS hA [1] [0] [] rfl rfl rfl (by decide) (by decide) (by decide) (fun v10 u9 H locs hp hP hD hK hS => ?_) (fun XX9 ax9 u9 H locs hp hex hP hD hK hS => ?_)
        · obtain rfl : v10 = none := hp
          have hP : va_P D xcl [(q1, .inl (k2, 8, .inl (upd (upd (upd (upd (upd (upd (upd (upd (fun _ => 0) (0 : Int32).toNatClampNeg 0) (1 : Int32).toNatClampNeg 97) (2 : Int32).toNatClampNeg 115) (3 : Int32).toNatClampNeg 109) (4 : Int32).toNatClampNeg 1) (5 : Int32).toNatClampNeg 0) (6 : Int32).toNatClampNeg 0) (7 : Int32).toNatClampNeg 0))), (h0, .inr (8, [a0, a1, a2, a3, a4, a5, a6, a7, a8, a9, a10, a11, a12, a13, .int 0, a15, a16, .int 1, .int 0, a19, a20, a21, a22, a23, a24, a25, a26, a27, a28, a29, a30, a31, a32, a33, a34, a35, a36, a37, a38, a39, a40, a41, a42, a43, a44, a45, a46, a47, a48, a49, a50, a51, a52, a53, a54, a55, a56, a57, a58, a59, a60, a61, a62, a63, a64, a65, a66, a67, a68, a69, a70, a71, a72, a73, a74, a75, a76, a77, a78, a79, a80, a81, a82, a83, a84, a85, a86, a87, a88, a89, a90, a91, a92, a93, a94, a95, a96]))] H := hP
          have hD : va_D A [(q1, .inl (k2, 8, .inl (upd (upd (upd (upd (upd (upd (upd (upd (fun _ => 0) (0 : Int32).toNatClampNeg 0) (1 : Int32).toNatClampNeg 97) (2 : Int32).toNatClampNeg 115) (3 : Int32).toNatClampNeg 109) (4 : Int32).toNatClampNeg 1) (5 : Int32).toNatClampNeg 0) (6 : Int32).toNatClampNeg 0) (7 : Int32).toNatClampNeg 0))), (h0, .inr (8, [a0, a1, a2, a3, a4, a5, a6, a7, a8, a9, a10, a11, a12, a13, .int 0, a15, a16, .int 1, .int 0, a19, a20, a21, a22, a23, a24, a25, a26, a27, a28, a29, a30, a31, a32, a33, a34, a35, a36, a37, a38, a39, a40, a41, a42, a43, a44, a45, a46, a47, a48, a49, a50, a51, a52, a53, a54, a55, a56, a57, a58, a59, a60, a61, a62, a63, a64, a65, a66, a67, a68, a69, a70, a71, a72, a73, a74, a75, a76, a77, a78, a79, a80, a81, a82, a83, a84, a85, a86, a87, a88, a89, a90, a91, a92, a93, a94, a95, a96]))] := hD
          have hK : va_K D xcl [(k2, .int)] s := hK
          refine W.eq (g2 := F0 m 92 ls []) rfl ?_
          refine W.widen (k := 1) (n := 8) (by omega) (by omega) ?_
          refine lv_iinc (v := 4) (k := 0) hx hb d_M_readModule_92 hl rfl (by first | decide | rfl) (by decide) rfl (fun ls hl => ?_)
          have hl : lv_has ls 8 [(3, .int 4), (2, .ref q1), (0, .ref h0), (1, .int 0)] := hl
          refine lv_goto (tgt := 44) hx hb d_M_readModule_95 rfl ?_
          refine lv_iload_n hx hb d_M_readModule_44 rfl (lv_at hl 0 rfl) ?_
          refine lv_bipush (v := 8) hx hb d_M_readModule_45 (by decide) ?_
          refine lv_icmp_ge (tgt := 98) hx hb d_M_readModule_47 rfl (fun h9 => absurd h9 (by decide)) (fun _ => ?_)
          refine lv_aload_n hx hb d_M_readModule_50 rfl (lv_at hl 2 rfl) ?_
          refine va_get (D := D) (ci := 8) (v := .int 0) (C := R_M) (T := F_M) (N := 97) hx hb hts fin_M hown hK hP 1 rfl rfl 14 (by decide) (hts _ m_a8fce005) (fun _ h9 => h9) rfl d_M_readModule_51 ?_
          refine lv_iload_n hx hb d_M_readModule_54 rfl (lv_at hl 0 rfl) ?_
          refine lv_iadd hx hb d_M_readModule_55 ?_
          refine xt_numi (y := 4) (by decide) ?_
          refine lv_iload_n hx hb d_M_readModule_56 rfl (lv_at hl 3 rfl) ?_
          refine lv_icmp_ge (tgt := 81) hx hb d_M_readModule_57 rfl (fun _ => ?_) (fun h9 => absurd h9 (by decide))
          refine lv_aload_n hx hb d_M_readModule_81 rfl (lv_at hl 2 rfl) ?_
          refine lv_iconst (v := 1) hx hb d_M_readModule_82 (by decide) ?_
          refine lv_aload_n hx hb d_M_readModule_83 rfl (lv_at hl 2 rfl) ?_
          refine va_get (D := D) (ci := 8) (v := .int 0) (C := R_M) (T := F_M) (N := 97) hx hb hts fin_M hown hK hP 1 rfl rfl 14 (by decide) (hts _ m_a8fce005) (fun _ h9 => h9) rfl d_M_readModule_84 ?_
          refine lv_iload_n hx hb d_M_readModule_87 rfl (lv_at hl 0 rfl) ?_
          refine lv_iadd hx hb d_M_readModule_88 ?_
          refine xt_numi (y := 4) (by decide) ?_
          refine xt_call (D := D) (cl := xcl) (wr := [(q1, .inl (k2, 8, .inl (upd (upd (upd (upd (upd (upd (upd (upd (fun _ => 0) (0 : Int32).toNatClampNeg 0) (1 : Int32).toNatClampNeg 97) (2 : Int32).toNatClampNeg 115) (3 : Int32).toNatClampNeg 109) (4 : Int32).toNatClampNeg 1) (5 : Int32).toNatClampNeg 0) (6 : Int32).toNatClampNeg 0) (7 : Int32).toNatClampNeg 0)))]) (fun T hT X => by
            obtain ⟨cb, r1, r2, r3⟩ := va_recv hK hP (ci := 8) (q0 := 1) rfl rfl
            exact xt_invV X hx hown (hts _ m_939052ad) (hts _ m_29cc8c73) (hts _ m_3b1ac7ab) (xt_sigOf (hts _ m_8f062ecd)) nm_M_fail (by rw [hT]; exact r1) r2 r3 (g := F0 m 89 ls [.int 4, .int 1, .ref h0]) rfl (argsL := [.int 1, .int 4]) (rest := []) rfl rfl (by rw [hb]; exact d_M_readModule_89)) (c_M_fail_1 l D h0 4 (a0) (a1) (a2) (a3) (a4) (a5) (a6) (a7) (a8) (a9) (a10) (a11) (a12) (a13) (.int 0) (a15) (a16) (.int 0) (a19) (a20) (a21) (a22) (a23) (a24) (a25) (a26) (a27) (a28) (a29) (a30) (a31) (a32) (a33) (a34) (a35) (a36) (a37) (a38) (a39) (a40) (a41) (a42) (a43) (a44) (a45) (a46) (a47) (a48) (a49) (a50) (a51) (a52) (a53) (a54) (a55) (a56) (a57) (a58) (a59) (a60) (a61) (a62) (a63) (a64) (a65) (a66) (a67) (a68) (a69) (a70) (a71) (a72) (a73) (a74) (a75) (a76) (a77) (a78) (a79) (a80) (a81) (a82) (a83) (a84) (a85) (a86) (a87) (a88) (a89) (a90) (a91) (a92) (a93) (a94) (a95) (a96) H.size) (hml.trans hl.1.symm) (by rw [hb]; exact d_M_readModule_89) (Nat.le_of_ble_eq_true rfl) rfl rfl (by decide) (by decide) (by decide) (by decide) (xt_w1 hB m_8f062ecd) (xt_cdOf hB m_8f062ecd) (hts _ m_d5ed7bed) hB hK hP hD hS hA [1] [0] [] rfl rfl rfl (by decide) (by decide) (by decide) (fun v12 u11 H locs hp hP hD hK hS => ?_) (fun XX9 ax9 u11 H locs hp hex hP hD hK hS => ?_)
          · obtain rfl : v12 = none := hp
            have hP : va_P D xcl [(q1, .inl (k2, 8, .inl (upd (upd (upd (upd (upd (upd (upd (upd (fun _ => 0) (0 : Int32).toNatClampNeg 0) (1 : Int32).toNatClampNeg 97) (2 : Int32).toNatClampNeg 115) (3 : Int32).toNatClampNeg 109) (4 : Int32).toNatClampNeg 1) (5 : Int32).toNatClampNeg 0) (6 : Int32).toNatClampNeg 0) (7 : Int32).toNatClampNeg 0))), (h0, .inr (8, [a0, a1, a2, a3, a4, a5, a6, a7, a8, a9, a10, a11, a12, a13, .int 0, a15, a16, .int 1, .int 0, a19, a20, a21, a22, a23, a24, a25, a26, a27, a28, a29, a30, a31, a32, a33, a34, a35, a36, a37, a38, a39, a40, a41, a42, a43, a44, a45, a46, a47, a48, a49, a50, a51, a52, a53, a54, a55, a56, a57, a58, a59, a60, a61, a62, a63, a64, a65, a66, a67, a68, a69, a70, a71, a72, a73, a74, a75, a76, a77, a78, a79, a80, a81, a82, a83, a84, a85, a86, a87, a88, a89, a90, a91, a92, a93, a94, a95, a96]))] H := hP
            have hD : va_D A [(q1, .inl (k2, 8, .inl (upd (upd (upd (upd (upd (upd (upd (upd (fun _ => 0) (0 : Int32).toNatClampNeg 0) (1 : Int32).toNatClampNeg 97) (2 : Int32).toNatClampNeg 115) (3 : Int32).toNatClampNeg 109) (4 : Int32).toNatClampNeg 1) (5 : Int32).toNatClampNeg 0) (6 : Int32).toNatClampNeg 0) (7 : Int32).toNatClampNeg 0))), (h0, .inr (8, [a0, a1, a2, a3, a4, a5, a6, a7, a8, a9, a10, a11, a12, a13, .int 0, a15, a16, .int 1, .int 0, a19, a20, a21, a22, a23, a24, a25, a26, a27, a28, a29, a30, a31, a32, a33, a34, a35, a36, a37, a38, a39, a40, a41, a42, a43, a44, a45, a46, a47, a48, a49, a50, a51, a52, a53, a54, a55, a56, a57, a58, a59, a60, a61, a62, a63, a64, a65, a66, a67, a68, a69, a70, a71, a72, a73, a74, a75, a76, a77, a78, a79, a80, a81, a82, a83, a84, a85, a86, a87, a88, a89, a90, a91, a92, a93, a94, a95, a96]))] := hD
            have hK : va_K D xcl [(k2, .int)] s := hK
            refine W.eq (g2 := F0 m 92 ls []) rfl ?_
            refine W.widen (k := 1) (n := 8) (by omega) (by omega) ?_
            refine lv_iinc (v := 5) (k := 0) hx hb d_M_readModule_92 hl rfl (by first | decide | rfl) (by decide) rfl (fun ls hl => ?_)
            have hl : lv_has ls 8 [(3, .int 5), (2, .ref q1), (0, .ref h0), (1, .int 0)] := hl
            refine lv_goto (tgt := 44) hx hb d_M_readModule_95 rfl ?_
            refine lv_iload_n hx hb d_M_readModule_44 rfl (lv_at hl 0 rfl) ?_
            refine lv_bipush (v := 8) hx hb d_M_readModule_45 (by decide) ?_
            refine lv_icmp_ge (tgt := 98) hx hb d_M_readModule_47 rfl (fun h9 => absurd h9 (by decide)) (fun _ => ?_)
            refine lv_aload_n hx hb d_M_readModule_50 rfl (lv_at hl 2 rfl) ?_
            refine va_get (D := D) (ci := 8) (v := .int 0) (C := R_M) (T := F_M) (N := 97) hx hb hts fin_M hown hK hP 1 rfl rfl 14 (by decide) (hts _ m_a8fce005) (fun _ h9 => h9) rfl d_M_readModule_51 ?_
            refine lv_iload_n hx hb d_M_readModule_54 rfl (lv_at hl 0 rfl) ?_
            refine lv_iadd hx hb d_M_readModule_55 ?_
            refine xt_numi (y := 5) (by decide) ?_
            refine lv_iload_n hx hb d_M_readModule_56 rfl (lv_at hl 3 rfl) ?_
            refine lv_icmp_ge (tgt := 81) hx hb d_M_readModule_57 rfl (fun _ => ?_) (fun h9 => absurd h9 (by decide))
            refine lv_aload_n hx hb d_M_readModule_81 rfl (lv_at hl 2 rfl) ?_
            refine lv_iconst (v := 1) hx hb d_M_readModule_82 (by decide) ?_
            refine lv_aload_n hx hb d_M_readModule_83 rfl (lv_at hl 2 rfl) ?_
            refine va_get (D := D) (ci := 8) (v := .int 0) (C := R_M) (T := F_M) (N := 97) hx hb hts fin_M hown hK hP 1 rfl rfl 14 (by decide) (hts _ m_a8fce005) (fun _ h9 => h9) rfl d_M_readModule_84 ?_
            refine lv_iload_n hx hb d_M_readModule_87 rfl (lv_at hl 0 rfl) ?_
            refine lv_iadd hx hb d_M_readModule_88 ?_
            refine xt_numi (y := 5) (by decide) ?_
            refine xt_call (D := D) (cl := xcl) (wr := [(q1, .inl (k2, 8, .inl (upd (upd (upd (upd (upd (upd (upd (upd (fun _ => 0) (0 : Int32).toNatClampNeg 0) (1 : Int32).toNatClampNeg 97) (2 : Int32).toNatClampNeg 115) (3 : Int32).toNatClampNeg 109) (4 : Int32).toNatClampNeg 1) (5 : Int32).toNatClampNeg 0) (6 : Int32).toNatClampNeg 0) (7 : Int32).toNatClampNeg 0)))]) (fun T hT X => by
              obtain ⟨cb, r1, r2, r3⟩ := va_recv hK hP (ci := 8) (q0 := 1) rfl rfl
              exact xt_invV X hx hown (hts _ m_939052ad) (hts _ m_29cc8c73) (hts _ m_3b1ac7ab) (xt_sigOf (hts _ m_8f062ecd)) nm_M_fail (by rw [hT]; exact r1) r2 r3 (g := F0 m 89 ls [.int 5, .int 1, .ref h0]) rfl (argsL := [.int 1, .int 5]) (rest := []) rfl rfl (by rw [hb]; exact d_M_readModule_89)) (c_M_fail_1 l D h0 5 (a0) (a1) (a2) (a3) (a4) (a5) (a6) (a7) (a8) (a9) (a10) (a11) (a12) (a13) (.int 0) (a15) (a16) (.int 0) (a19) (a20) (a21) (a22) (a23) (a24) (a25) (a26) (a27) (a28) (a29) (a30) (a31) (a32) (a33) (a34) (a35) (a36) (a37) (a38) (a39) (a40) (a41) (a42) (a43) (a44) (a45) (a46) (a47) (a48) (a49) (a50) (a51) (a52) (a53) (a54) (a55) (a56) (a57) (a58) (a59) (a60) (a61) (a62) (a63) (a64) (a65) (a66) (a67) (a68) (a69) (a70) (a71) (a72) (a73) (a74) (a75) (a76) (a77) (a78) (a79) (a80) (a81) (a82) (a83) (a84) (a85) (a86) (a87) (a88) (a89) (a90) (a91) (a92) (a93) (a94) (a95) (a96) H.size) (hml.trans hl.1.symm) (by rw [hb]; exact d_M_readModule_89) (Nat.le_of_ble_eq_true rfl) rfl rfl (by decide) (by decide) (by decide) (by decide) (xt_w1 hB m_8f062ecd) (xt_cdOf hB m_8f062ecd) (hts _ m_d5ed7bed) hB hK hP hD hS hA [1] [0] [] rfl rfl rfl (by decide) (by decide) (by decide) (fun v14 u13 H locs hp hP hD hK hS => ?_) (fun XX9 ax9 u13 H locs hp hex hP hD hK hS => ?_)
            · obtain rfl : v14 = none := hp
              have hP : va_P D xcl [(q1, .inl (k2, 8, .inl (upd (upd (upd (upd (upd (upd (upd (upd (fun _ => 0) (0 : Int32).toNatClampNeg 0) (1 : Int32).toNatClampNeg 97) (2 : Int32).toNatClampNeg 115) (3 : Int32).toNatClampNeg 109) (4 : Int32).toNatClampNeg 1) (5 : Int32).toNatClampNeg 0) (6 : Int32).toNatClampNeg 0) (7 : Int32).toNatClampNeg 0))), (h0, .inr (8, [a0, a1, a2, a3, a4, a5, a6, a7, a8, a9, a10, a11, a12, a13, .int 0, a15, a16, .int 1, .int 0, a19, a20, a21, a22, a23, a24, a25, a26, a27, a28, a29, a30, a31, a32, a33, a34, a35, a36, a37, a38, a39, a40, a41, a42, a43, a44, a45, a46, a47, a48, a49, a50, a51, a52, a53, a54, a55, a56, a57, a58, a59, a60, a61, a62, a63, a64, a65, a66, a67, a68, a69, a70, a71, a72, a73, a74, a75, a76, a77, a78, a79, a80, a81, a82, a83, a84, a85, a86, a87, a88, a89, a90, a91, a92, a93, a94, a95, a96]))] H := hP
              have hD : va_D A [(q1, .inl (k2, 8, .inl (upd (upd (upd (upd (upd (upd (upd (upd (fun _ => 0) (0 : Int32).toNatClampNeg 0) (1 : Int32).toNatClampNeg 97) (2 : Int32).toNatClampNeg 115) (3 : Int32).toNatClampNeg 109) (4 : Int32).toNatClampNeg 1) (5 : Int32).toNatClampNeg 0) (6 : Int32).toNatClampNeg 0) (7 : Int32).toNatClampNeg 0))), (h0, .inr (8, [a0, a1, a2, a3, a4, a5, a6, a7, a8, a9, a10, a11, a12, a13, .int 0, a15, a16, .int 1, .int 0, a19, a20, a21, a22, a23, a24, a25, a26, a27, a28, a29, a30, a31, a32, a33, a34, a35, a36, a37, a38, a39, a40, a41, a42, a43, a44, a45, a46, a47, a48, a49, a50, a51, a52, a53, a54, a55, a56, a57, a58, a59, a60, a61, a62, a63, a64, a65, a66, a67, a68, a69, a70, a71, a72, a73, a74, a75, a76, a77, a78, a79, a80, a81, a82, a83, a84, a85, a86, a87, a88, a89, a90, a91, a92, a93, a94, a95, a96]))] := hD
              have hK : va_K D xcl [(k2, .int)] s := hK
              refine W.eq (g2 := F0 m 92 ls []) rfl ?_
              refine W.widen (k := 1) (n := 8) (by omega) (by omega) ?_
              refine lv_iinc (v := 6) (k := 0) hx hb d_M_readModule_92 hl rfl (by first | decide | rfl) (by decide) rfl (fun ls hl => ?_)
              have hl : lv_has ls 8 [(3, .int 6), (2, .ref q1), (0, .ref h0), (1, .int 0)] := hl
              refine lv_goto (tgt := 44) hx hb d_M_readModule_95 rfl ?_
              refine lv_iload_n hx hb d_M_readModule_44 rfl (lv_at hl 0 rfl) ?_
              refine lv_bipush (v := 8) hx hb d_M_readModule_45 (by decide) ?_
              refine lv_icmp_ge (tgt := 98) hx hb d_M_readModule_47 rfl (fun h9 => absurd h9 (by decide)) (fun _ => ?_)
              refine lv_aload_n hx hb d_M_readModule_50 rfl (lv_at hl 2 rfl) ?_
              refine va_get (D := D) (ci := 8) (v := .int 0) (C := R_M) (T := F_M) (N := 97) hx hb hts fin_M hown hK hP 1 rfl rfl 14 (by decide) (hts _ m_a8fce005) (fun _ h9 => h9) rfl d_M_readModule_51 ?_
              refine lv_iload_n hx hb d_M_readModule_54 rfl (lv_at hl 0 rfl) ?_
              refine lv_iadd hx hb d_M_readModule_55 ?_
              refine xt_numi (y := 6) (by decide) ?_
              refine lv_iload_n hx hb d_M_readModule_56 rfl (lv_at hl 3 rfl) ?_
              refine lv_icmp_ge (tgt := 81) hx hb d_M_readModule_57 rfl (fun _ => ?_) (fun h9 => absurd h9 (by decide))
              refine lv_aload_n hx hb d_M_readModule_81 rfl (lv_at hl 2 rfl) ?_
              refine lv_iconst (v := 1) hx hb d_M_readModule_82 (by decide) ?_
              refine lv_aload_n hx hb d_M_readModule_83 rfl (lv_at hl 2 rfl) ?_
              refine va_get (D := D) (ci := 8) (v := .int 0) (C := R_M) (T := F_M) (N := 97) hx hb hts fin_M hown hK hP 1 rfl rfl 14 (by decide) (hts _ m_a8fce005) (fun _ h9 => h9) rfl d_M_readModule_84 ?_
              refine lv_iload_n hx hb d_M_readModule_87 rfl (lv_at hl 0 rfl) ?_
              refine lv_iadd hx hb d_M_readModule_88 ?_
              refine xt_numi (y := 6) (by decide) ?_
              refine xt_call (D := D) (cl := xcl) (wr := [(q1, .inl (k2, 8, .inl (upd (upd (upd (upd (upd (upd (upd (upd (fun _ => 0) (0 : Int32).toNatClampNeg 0) (1 : Int32).toNatClampNeg 97) (2 : Int32).toNatClampNeg 115) (3 : Int32).toNatClampNeg 109) (4 : Int32).toNatClampNeg 1) (5 : Int32).toNatClampNeg 0) (6 : Int32).toNatClampNeg 0) (7 : Int32).toNatClampNeg 0)))]) (fun T hT X => by
                obtain ⟨cb, r1, r2, r3⟩ := va_recv hK hP (ci := 8) (q0 := 1) rfl rfl
                exact xt_invV X hx hown (hts _ m_939052ad) (hts _ m_29cc8c73) (hts _ m_3b1ac7ab) (xt_sigOf (hts _ m_8f062ecd)) nm_M_fail (by rw [hT]; exact r1) r2 r3 (g := F0 m 89 ls [.int 6, .int 1, .ref h0]) rfl (argsL := [.int 1, .int 6]) (rest := []) rfl rfl (by rw [hb]; exact d_M_readModule_89)) (c_M_fail_1 l D h0 6 (a0) (a1) (a2) (a3) (a4) (a5) (a6) (a7) (a8) (a9) (a10) (a11) (a12) (a13) (.int 0) (a15) (a16) (.int 0) (a19) (a20) (a21) (a22) (a23) (a24) (a25) (a26) (a27) (a28) (a29) (a30) (a31) (a32) (a33) (a34) (a35) (a36) (a37) (a38) (a39) (a40) (a41) (a42) (a43) (a44) (a45) (a46) (a47) (a48) (a49) (a50) (a51) (a52) (a53) (a54) (a55) (a56) (a57) (a58) (a59) (a60) (a61) (a62) (a63) (a64) (a65) (a66) (a67) (a68) (a69) (a70) (a71) (a72) (a73) (a74) (a75) (a76) (a77) (a78) (a79) (a80) (a81) (a82) (a83) (a84) (a85) (a86) (a87) (a88) (a89) (a90) (a91) (a92) (a93) (a94) (a95) (a96) H.size) (hml.trans hl.1.symm) (by rw [hb]; exact d_M_readModule_89) (Nat.le_of_ble_eq_true rfl) rfl rfl (by decide) (by decide) (by decide) (by decide) (xt_w1 hB m_8f062ecd) (xt_cdOf hB m_8f062ecd) (hts _ m_d5ed7bed) hB hK hP hD hS hA [1] [0] [] rfl rfl rfl (by decide) (by decide) (by decide) (fun v16 u15 H locs hp hP hD hK hS => ?_) (fun XX9 ax9 u15 H locs hp hex hP hD hK hS => ?_)
              · obtain rfl : v16 = none := hp
                have hP : va_P D xcl [(q1, .inl (k2, 8, .inl (upd (upd (upd (upd (upd (upd (upd (upd (fun _ => 0) (0 : Int32).toNatClampNeg 0) (1 : Int32).toNatClampNeg 97) (2 : Int32).toNatClampNeg 115) (3 : Int32).toNatClampNeg 109) (4 : Int32).toNatClampNeg 1) (5 : Int32).toNatClampNeg 0) (6 : Int32).toNatClampNeg 0) (7 : Int32).toNatClampNeg 0))), (h0, .inr (8, [a0, a1, a2, a3, a4, a5, a6, a7, a8, a9, a10, a11, a12, a13, .int 0, a15, a16, .int 1, .int 0, a19, a20, a21, a22, a23, a24, a25, a26, a27, a28, a29, a30, a31, a32, a33, a34, a35, a36, a37, a38, a39, a40, a41, a42, a43, a44, a45, a46, a47, a48, a49, a50, a51, a52, a53, a54, a55, a56, a57, a58, a59, a60, a61, a62, a63, a64, a65, a66, a67, a68, a69, a70, a71, a72, a73, a74, a75, a76, a77, a78, a79, a80, a81, a82, a83, a84, a85, a86, a87, a88, a89, a90, a91, a92, a93, a94, a95, a96]))] H := hP
                have hD : va_D A [(q1, .inl (k2, 8, .inl (upd (upd (upd (upd (upd (upd (upd (upd (fun _ => 0) (0 : Int32).toNatClampNeg 0) (1 : Int32).toNatClampNeg 97) (2 : Int32).toNatClampNeg 115) (3 : Int32).toNatClampNeg 109) (4 : Int32).toNatClampNeg 1) (5 : Int32).toNatClampNeg 0) (6 : Int32).toNatClampNeg 0) (7 : Int32).toNatClampNeg 0))), (h0, .inr (8, [a0, a1, a2, a3, a4, a5, a6, a7, a8, a9, a10, a11, a12, a13, .int 0, a15, a16, .int 1, .int 0, a19, a20, a21, a22, a23, a24, a25, a26, a27, a28, a29, a30, a31, a32, a33, a34, a35, a36, a37, a38, a39, a40, a41, a42, a43, a44, a45, a46, a47, a48, a49, a50, a51, a52, a53, a54, a55, a56, a57, a58, a59, a60, a61, a62, a63, a64, a65, a66, a67, a68, a69, a70, a71, a72, a73, a74, a75, a76, a77, a78, a79, a80, a81, a82, a83, a84, a85, a86, a87, a88, a89, a90, a91, a92, a93, a94, a95, a96]))] := hD
                have hK : va_K D xcl [(k2, .int)] s := hK
                refine W.eq (g2 := F0 m 92 ls []) rfl ?_
                refine W.widen (k := 1) (n := 8) (by omega) (by omega) ?_
                refine lv_iinc (v := 7) (k := 0) hx hb d_M_readModule_92 hl rfl (by first | decide | rfl) (by decide) rfl (fun ls hl => ?_)
                have hl : lv_has ls 8 [(3, .int 7), (2, .ref q1), (0, .ref h0), (1, .int 0)] := hl
                refine lv_goto (tgt := 44) hx hb d_M_readModule_95 rfl ?_
                refine lv_iload_n hx hb d_M_readModule_44 rfl (lv_at hl 0 rfl) ?_
                refine lv_bipush (v := 8) hx hb d_M_readModule_45 (by decide) ?_
                refine lv_icmp_ge (tgt := 98) hx hb d_M_readModule_47 rfl (fun h9 => absurd h9 (by decide)) (fun _ => ?_)
                refine lv_aload_n hx hb d_M_readModule_50 rfl (lv_at hl 2 rfl) ?_
                refine va_get (D := D) (ci := 8) (v := .int 0) (C := R_M) (T := F_M) (N := 97) hx hb hts fin_M hown hK hP 1 rfl rfl 14 (by decide) (hts _ m_a8fce005) (fun _ h9 => h9) rfl d_M_readModule_51 ?_
                refine lv_iload_n hx hb d_M_readModule_54 rfl (lv_at hl 0 rfl) ?_
                refine lv_iadd hx hb d_M_readModule_55 ?_
                refine xt_numi (y := 7) (by decide) ?_
                refine lv_iload_n hx hb d_M_readModule_56 rfl (lv_at hl 3 rfl) ?_
                refine lv_icmp_ge (tgt := 81) hx hb d_M_readModule_57 rfl (fun _ => ?_) (fun h9 => absurd h9 (by decide))
                refine lv_aload_n hx hb d_M_readModule_81 rfl (lv_at hl 2 rfl) ?_
                refine lv_iconst (v := 1) hx hb d_M_readModule_82 (by decide) ?_
                refine lv_aload_n hx hb d_M_readModule_83 rfl (lv_at hl 2 rfl) ?_
                refine va_get (D := D) (ci := 8) (v := .int 0) (C := R_M) (T := F_M) (N := 97) hx hb hts fin_M hown hK hP 1 rfl rfl 14 (by decide) (hts _ m_a8fce005) (fun _ h9 => h9) rfl d_M_readModule_84 ?_
                refine lv_iload_n hx hb d_M_readModule_87 rfl (lv_at hl 0 rfl) ?_
                refine lv_iadd hx hb d_M_readModule_88 ?_
                refine xt_numi (y := 7) (by decide) ?_
                refine xt_call (D := D) (cl := xcl) (wr := [(q1, .inl (k2, 8, .inl (upd (upd (upd (upd (upd (upd (upd (upd (fun _ => 0) (0 : Int32).toNatClampNeg 0) (1 : Int32).toNatClampNeg 97) (2 : Int32).toNatClampNeg 115) (3 : Int32).toNatClampNeg 109) (4 : Int32).toNatClampNeg 1) (5 : Int32).toNatClampNeg 0) (6 : Int32).toNatClampNeg 0) (7 : Int32).toNatClampNeg 0)))]) (fun T hT X => by
                  obtain ⟨cb, r1, r2, r3⟩ := va_recv hK hP (ci := 8) (q0 := 1) rfl rfl
                  exact xt_invV X hx hown (hts _ m_939052ad) (hts _ m_29cc8c73) (hts _ m_3b1ac7ab) (xt_sigOf (hts _ m_8f062ecd)) nm_M_fail (by rw [hT]; exact r1) r2 r3 (g := F0 m 89 ls [.int 7, .int 1, .ref h0]) rfl (argsL := [.int 1, .int 7]) (rest := []) rfl rfl (by rw [hb]; exact d_M_readModule_89)) (c_M_fail_1 l D h0 7 (a0) (a1) (a2) (a3) (a4) (a5) (a6) (a7) (a8) (a9) (a10) (a11) (a12) (a13) (.int 0) (a15) (a16) (.int 0) (a19) (a20) (a21) (a22) (a23) (a24) (a25) (a26) (a27) (a28) (a29) (a30) (a31) (a32) (a33) (a34) (a35) (a36) (a37) (a38) (a39) (a40) (a41) (a42) (a43) (a44) (a45) (a46) (a47) (a48) (a49) (a50) (a51) (a52) (a53) (a54) (a55) (a56) (a57) (a58) (a59) (a60) (a61) (a62) (a63) (a64) (a65) (a66) (a67) (a68) (a69) (a70) (a71) (a72) (a73) (a74) (a75) (a76) (a77) (a78) (a79) (a80) (a81) (a82) (a83) (a84) (a85) (a86) (a87) (a88) (a89) (a90) (a91) (a92) (a93) (a94) (a95) (a96) H.size) (hml.trans hl.1.symm) (by rw [hb]; exact d_M_readModule_89) (Nat.le_of_ble_eq_true rfl) rfl rfl (by decide) (by decide) (by decide) (by decide) (xt_w1 hB m_8f062ecd) (xt_cdOf hB m_8f062ecd) (hts _ m_d5ed7bed) hB hK hP hD hS hA [1] [0] [] rfl rfl rfl (by decide) (by decide) (by decide) (fun v18 u17 H locs hp hP hD hK hS => ?_) (fun XX9 ax9 u17 H locs hp hex hP hD hK hS => ?_)
                · obtain rfl : v18 = none := hp
                  have hP : va_P D xcl [(q1, .inl (k2, 8, .inl (upd (upd (upd (upd (upd (upd (upd (upd (fun _ => 0) (0 : Int32).toNatClampNeg 0) (1 : Int32).toNatClampNeg 97) (2 : Int32).toNatClampNeg 115) (3 : Int32).toNatClampNeg 109) (4 : Int32).toNatClampNeg 1) (5 : Int32).toNatClampNeg 0) (6 : Int32).toNatClampNeg 0) (7 : Int32).toNatClampNeg 0))), (h0, .inr (8, [a0, a1, a2, a3, a4, a5, a6, a7, a8, a9, a10, a11, a12, a13, .int 0, a15, a16, .int 1, .int 0, a19, a20, a21, a22, a23, a24, a25, a26, a27, a28, a29, a30, a31, a32, a33, a34, a35, a36, a37, a38, a39, a40, a41, a42, a43, a44, a45, a46, a47, a48, a49, a50, a51, a52, a53, a54, a55, a56, a57, a58, a59, a60, a61, a62, a63, a64, a65, a66, a67, a68, a69, a70, a71, a72, a73, a74, a75, a76, a77, a78, a79, a80, a81, a82, a83, a84, a85, a86, a87, a88, a89, a90, a91, a92, a93, a94, a95, a96]))] H := hP
                  have hD : va_D A [(q1, .inl (k2, 8, .inl (upd (upd (upd (upd (upd (upd (upd (upd (fun _ => 0) (0 : Int32).toNatClampNeg 0) (1 : Int32).toNatClampNeg 97) (2 : Int32).toNatClampNeg 115) (3 : Int32).toNatClampNeg 109) (4 : Int32).toNatClampNeg 1) (5 : Int32).toNatClampNeg 0) (6 : Int32).toNatClampNeg 0) (7 : Int32).toNatClampNeg 0))), (h0, .inr (8, [a0, a1, a2, a3, a4, a5, a6, a7, a8, a9, a10, a11, a12, a13, .int 0, a15, a16, .int 1, .int 0, a19, a20, a21, a22, a23, a24, a25, a26, a27, a28, a29, a30, a31, a32, a33, a34, a35, a36, a37, a38, a39, a40, a41, a42, a43, a44, a45, a46, a47, a48, a49, a50, a51, a52, a53, a54, a55, a56, a57, a58, a59, a60, a61, a62, a63, a64, a65, a66, a67, a68, a69, a70, a71, a72, a73, a74, a75, a76, a77, a78, a79, a80, a81, a82, a83, a84, a85, a86, a87, a88, a89, a90, a91, a92, a93, a94, a95, a96]))] := hD
                  have hK : va_K D xcl [(k2, .int)] s := hK
                  refine W.eq (g2 := F0 m 92 ls []) rfl ?_
                  refine W.widen (k := 1) (n := 8) (by omega) (by omega) ?_
                  refine lv_iinc (v := 8) (k := 0) hx hb d_M_readModule_92 hl rfl (by first | decide | rfl) (by decide) rfl (fun ls hl => ?_)
                  have hl : lv_has ls 8 [(3, .int 8), (2, .ref q1), (0, .ref h0), (1, .int 0)] := hl
                  refine lv_goto (tgt := 44) hx hb d_M_readModule_95 rfl ?_
                  refine lv_iload_n hx hb d_M_readModule_44 rfl (lv_at hl 0 rfl) ?_
                  refine lv_bipush (v := 8) hx hb d_M_readModule_45 (by decide) ?_
                  refine lv_icmp_ge (tgt := 98) hx hb d_M_readModule_47 rfl (fun _ => ?_) (fun h9 => absurd h9 (by decide))
                  refine lv_aload_n hx hb d_M_readModule_98 rfl (lv_at hl 2 rfl) ?_
                  refine lv_aload_n hx hb d_M_readModule_99 rfl (lv_at hl 2 rfl) ?_
                  refine va_get (D := D) (ci := 8) (v := .int 0) (C := R_M) (T := F_M) (N := 97) hx hb hts fin_M hown hK hP 1 rfl rfl 14 (by decide) (hts _ m_a8fce005) (fun _ h9 => h9) rfl d_M_readModule_100 ?_
                  refine lv_bipush (v := 8) hx hb d_M_readModule_103 (by decide) ?_
                  refine lv_iadd hx hb d_M_readModule_105 ?_
                  refine xt_numi (y := 8) (by decide) ?_
                  refine va_put (D := D) (ci := 8) (v := .int 8) (ty := .int) (C := R_M) (T := F_M) (N := 97) hx hb hts fin_M t_M t_M_ok n_M hown hK hP hD hS 1 rfl rfl 15 (by decide) (hts _ m_6c2d27ad) (fun _ h9 => h9) rfl (by decide +kernel) (by first | rfl | decide) (by first | rfl | decide) (Nat.le_of_ble_eq_true rfl) d_M_readModule_106 (fun H locs hP hD hS => ?_)
                  have hP : va_P D xcl [(q1, .inl (k2, 8, .inl (upd (upd (upd (upd (upd (upd (upd (upd (fun _ => 0) (0 : Int32).toNatClampNeg 0) (1 : Int32).toNatClampNeg 97) (2 : Int32).toNatClampNeg 115) (3 : Int32).toNatClampNeg 109) (4 : Int32).toNatClampNeg 1) (5 : Int32).toNatClampNeg 0) (6 : Int32).toNatClampNeg 0) (7 : Int32).toNatClampNeg 0))), (h0, .inr (8, [a0, a1, a2, a3, a4, a5, a6, a7, a8, a9, a10, a11, a12, a13, .int 0, .int 8, a16, .int 1, .int 0, a19, a20, a21, a22, a23, a24, a25, a26, a27, a28, a29, a30, a31, a32, a33, a34, a35, a36, a37, a38, a39, a40, a41, a42, a43, a44, a45, a46, a47, a48, a49, a50, a51, a52, a53, a54, a55, a56, a57, a58, a59, a60, a61, a62, a63, a64, a65, a66, a67, a68, a69, a70, a71, a72, a73, a74, a75, a76, a77, a78, a79, a80, a81, a82, a83, a84, a85, a86, a87, a88, a89, a90, a91, a92, a93, a94, a95, a96]))] H := hP
                  have hD : va_D A [(q1, .inl (k2, 8, .inl (upd (upd (upd (upd (upd (upd (upd (upd (fun _ => 0) (0 : Int32).toNatClampNeg 0) (1 : Int32).toNatClampNeg 97) (2 : Int32).toNatClampNeg 115) (3 : Int32).toNatClampNeg 109) (4 : Int32).toNatClampNeg 1) (5 : Int32).toNatClampNeg 0) (6 : Int32).toNatClampNeg 0) (7 : Int32).toNatClampNeg 0))), (h0, .inr (8, [a0, a1, a2, a3, a4, a5, a6, a7, a8, a9, a10, a11, a12, a13, .int 0, .int 8, a16, .int 1, .int 0, a19, a20, a21, a22, a23, a24, a25, a26, a27, a28, a29, a30, a31, a32, a33, a34, a35, a36, a37, a38, a39, a40, a41, a42, a43, a44, a45, a46, a47, a48, a49, a50, a51, a52, a53, a54, a55, a56, a57, a58, a59, a60, a61, a62, a63, a64, a65, a66, a67, a68, a69, a70, a71, a72, a73, a74, a75, a76, a77, a78, a79, a80, a81, a82, a83, a84, a85, a86, a87, a88, a89, a90, a91, a92, a93, a94, a95, a96]))] := hD
                  refine lv_iconst (v := 0) hx hb d_M_readModule_109 (by decide) ?_
                  refine lv_istore_n hx hb d_M_readModule_110 rfl hl (by decide) rfl (fun ls hl => ?_)
                  have hl : lv_has ls 8 [(3, .int 0), (2, .ref q1), (0, .ref h0), (1, .int 0)] := hl
                  refine lv_aload_n hx hb d_M_readModule_111 rfl (lv_at hl 2 rfl) ?_
                  refine va_get (D := D) (ci := 8) (v := .int 1) (C := R_M) (T := F_M) (N := 97) hx hb hts fin_M hown hK hP 1 rfl rfl 17 (by decide) (hts _ m_ff69da61) (fun _ h9 => h9) rfl d_M_readModule_112 ?_
                  refine lv_if_ne (tgt := 281) hx hb d_M_readModule_115 rfl (fun _ => ?_) (fun h9 => absurd h9 (by decide))
                  refine lv_aload_n hx hb d_M_readModule_281 rfl (lv_at hl 2 rfl) ?_
                  refine va_get (D := D) (ci := 8) (v := .int 1) (C := R_M) (T := F_M) (N := 97) hx hb hts fin_M hown hK hP 1 rfl rfl 17 (by decide) (hts _ m_ff69da61) (fun _ h9 => h9) rfl d_M_readModule_282 ?_
                  refine lv_if_ne (tgt := 327) hx hb d_M_readModule_285 rfl (fun _ => ?_) (fun h9 => absurd h9 (by decide))
                  refine W.widen (k := 1) (n := 8) (by decide) (by decide) ?_
                  refine xt_mono xt_ofMQ ?_
                  exact W.vret hx hb hr (fun t ht hW => ⟨(fun _ => 0), Or.inl ⟨_, rfl, rfl⟩, by rw [ht]; exact hP.sub [1] rfl, va_K.moved hW.alike (hK.sub [] rfl), hD.sub [1] (by decide) rfl, hS.F ht⟩) hS.2.2 d_M_readModule_327 hlocks
                · exact False.elim hp
              · exact False.elim hp
            · exact False.elim hp
          · exact False.elim hp
        · exact False.elim hp
      · exact False.elim hp
    · exact False.elim hp
  · exact False.elim hp

