theorem m_b8b9132e : (.methodLink "StackHostModel$Exact" 197 y_Exact_reformed : Cond) ∈ xt_tbl := xt_in (xt_t13 (List.mem_of_getElem? (i := 39) (by decide +kernel))) (by decide +kernel)
theorem m_62aa3384 : (.instanceMethod y_Exact_reformed : Cond) ∈ xt_tbl := xt_in (xt_t13 (List.mem_of_getElem? (i := 41) (by decide +kernel))) (by decide +kernel)
theorem m_3dad0ddb : (.selects "StackHostModel$Exact" y_Exact_reformed y_Exact_reformed : Cond) ∈ xt_tbl := xt_in (xt_v16 (q := (⟨"StackHostModel$Exact", "reformed", "(JI)J"⟩, 11)) (List.mem_of_getElem? (i := 3) (by decide +kernel))) (by decide +kernel)
theorem m_f4426c3a : (.code y_Exact_reformed b_Exact_reformed 8 (some .long) : Cond) ∈ xt_tbl := xt_in (xt_t13 (List.mem_of_getElem? (i := 42) (by decide +kernel))) (by decide +kernel)
theorem m_ed6fa259 : (.methodLink "StackHostModel$Exact" 194 y_Exact_floating : Cond) ∈ xt_tbl := xt_in (xt_t13 (List.mem_of_getElem? (i := 11) (by decide +kernel))) (by decide +kernel)
theorem m_507a6f35 : (.instanceMethod y_Exact_floating : Cond) ∈ xt_tbl := xt_in (xt_t13 (List.mem_of_getElem? (i := 13) (by decide +kernel))) (by decide +kernel)
theorem m_cb6a4b02 : (.selects "StackHostModel$Exact" y_Exact_floating y_Exact_floating : Cond) ∈ xt_tbl := xt_in (xt_v15 (q := (⟨"StackHostModel$Exact", "floating", "(JZ)J"⟩, 11)) (List.mem_of_getElem? (i := 12) (by decide +kernel))) (by decide +kernel)
theorem m_0a89dfd9 : (.code y_Exact_floating b_Exact_floating 5 (some .long) : Cond) ∈ xt_tbl := xt_in (xt_t13 (List.mem_of_getElem? (i := 14) (by decide +kernel))) (by decide +kernel)
theorem m_b050622d : (.methodLink "StackHostModel$Exact" 190 y_Exact_cut : Cond) ∈ xt_tbl := xt_in (xt_t12 (List.mem_of_getElem? (i := 210) (by decide +kernel))) (by decide +kernel)
theorem m_ab5ee0c1 : (.instanceMethod y_Exact_cut : Cond) ∈ xt_tbl := xt_in (xt_t12 (List.mem_of_getElem? (i := 212) (by decide +kernel))) (by decide +kernel)
theorem m_d7109498 : (.selects "StackHostModel$Exact" y_Exact_cut y_Exact_cut : Cond) ∈ xt_tbl := xt_in (xt_v15 (q := (⟨"StackHostModel$Exact", "cut", "(JIZ)J"⟩, 11)) (List.mem_of_getElem? (i := 4) (by decide +kernel))) (by decide +kernel)
theorem m_5411d610 : (.code y_Exact_cut b_Exact_cut 10 (some .long) : Cond) ∈ xt_tbl := xt_in (xt_t12 (List.mem_of_getElem? (i := 213) (by decide +kernel))) (by decide +kernel)
theorem nm_Exact_reformed : xt_nm y_Exact_reformed 2 := ⟨by decide +kernel, by decide +kernel⟩
theorem nm_Exact_floating : xt_nm y_Exact_floating 2 := ⟨by decide +kernel, by decide +kernel⟩
theorem nm_Exact_cut : xt_nm y_Exact_cut 3 := ⟨by decide +kernel, by decide +kernel⟩
set_option maxRecDepth 100000 in
def T_Exact_turnedInto : List (Nat × Instr × Nat) := [(0, .iload_n 1, 1), (1, .iconst 2, 1), (2, .irem, 1), (3, .ifCond .ne 7, 3), (6, .iconst 1, 1), (7, .goto 4, 3), (10, .iconst 0, 1), (11, .istore 4, 2), (13, .iload_n 1, 1), (14, .sipush 168, 3), (17, .if_icmp .lt 10, 3), (20, .iload_n 1, 1), (21, .sipush 171, 3), (24, .if_icmp .le 17, 3), (27, .iload_n 1, 1), (28, .sipush 174, 3), (31, .if_icmp .lt 51, 3), (34, .iload_n 1, 1), (35, .sipush 177, 3), (38, .if_icmp .gt 44, 3), (41, .aload_n 0, 1), (42, .iload_n 1, 1), (43, .invokestatic 30, 3), (46, .iconst 2, 1), (47, .if_icmp .ne 8, 3), (50, .bipush 32, 2), (52, .goto 5, 3), (55, .bipush 64, 2), (57, .invokevirtual 186, 3), (60, .aload_n 0, 1), (61, .lload_n 2, 1), (62, .iload_n 1, 1), (63, .sipush 172, 3), (66, .if_icmp .ge 8, 3), (69, .bipush 32, 2), (71, .goto 5, 3), (74, .bipush 64, 2), (76, .iload 4, 2), (78, .invokevirtual 190, 3), (81, .lreturn, 1), (82, .iload_n 1, 1), (83, .tableswitch 204 172 187 #[77, 77, 204, 204, 204, 204, 93, 93, 93, 93, 166, 128, 128, 128, 128, 166], 77), (160, .iload 4, 2), (162, .ifCond .eq 12, 3), (165, .lload_n 2, 1), (166, .bipush 32, 2), (168, .invokestatic 164, 3), (171, .goto 4, 3), (174, .lload_n 2, 1), (175, .lreturn, 1), (176, .aload_n 0, 1), (177, .bipush 32, 2), (179, .invokevirtual 186, 3), (182, .aload_n 0, 1), (183, .iload 4, 2), (185, .ifCond .eq 19, 3), (188, .iload_n 1, 1), (189, .sipush 180, 3), (192, .if_icmp .ge 12, 3), (195, .lload_n 2, 1), (196, .bipush 32, 2), (198, .invokestatic 164, 3), (201, .goto 4, 3), (204, .lload_n 2, 1), (205, .iload 4, 2), (207, .invokevirtual 194, 3), (210, .lreturn, 1), (211, .aload_n 0, 1), (212, .bipush 64, 2), (214, .invokevirtual 186, 3), (217, .aload_n 0, 1), (218, .iload_n 1, 1), (219, .sipush 183, 3), (222, .if_icmp .ne 12, 3), (225, .lload_n 2, 1), (226, .bipush 32, 2), (228, .invokestatic 164, 3), (231, .goto 4, 3), (234, .lload_n 2, 1), (235, .iload 4, 2), (237, .ifCond .ne 7, 3), (240, .iconst 1, 1), (241, .goto 4, 3), (244, .iconst 0, 1), (245, .invokevirtual 194, 3), (248, .lreturn, 1), (249, .aload_n 0, 1), (250, .iload_n 1, 1), (251, .sipush 182, 3), (254, .if_icmp .ne 8, 3), (257, .bipush 64, 2), (259, .goto 5, 3), (262, .bipush 32, 2), (264, .invokevirtual 186, 3), (267, .aload_n 0, 1), (268, .lload_n 2, 1), (269, .iload_n 1, 1), (270, .sipush 182, 3), (273, .if_icmp .ne 8, 3), (276, .bipush 32, 2), (278, .goto 5, 3), (281, .bipush 64, 2), (283, .invokevirtual 197, 3), (286, .lreturn, 1), (287, .lload_n 2, 1), (288, .lreturn, 1)]
theorem D_Exact_turnedInto : ∀ q ∈ T_Exact_turnedInto, decode b_Exact_turnedInto q.1 = .ok (q.2.1, q.2.2) := by decide +kernel
def w_Exact_turnedInto_L287 (Qr : Int64 → xb_H → Prop) (x2 : Int64) (h : xb_H) : Prop :=
    Qr x2 h

def w_Exact_turnedInto_L283 (Qr : Int64 → xb_H → Prop) (y0 : Int32) (y1 : Int64) (y2 : Nat) (h : xb_H) : Prop :=
    xb_k h y2 = 10 ∧ w_Exact_reformed y2 y1 y0 h (fun (r3 : Int64) (h2 : xb_H) => xb_ext h h2 → Qr r3 h2)

def w_Exact_turnedInto_L264 (Qr : Int64 → xb_H → Prop) (x0 : Nat) (x1 : Int32) (x2 : Int64) (y0 : Int32) (y1 : Nat) (h : xb_H) : Prop :=
    xb_k h y1 = 10 ∧ w_Exact_format y1 y0 h (fun (h2 : xb_H) => xb_ext h h2 → ((¬ x1 = (182 : Int32) → w_Exact_turnedInto_L283 Qr 64 x2 x0 h2) ∧ (x1 = (182 : Int32) → w_Exact_turnedInto_L283 Qr 32 x2 x0 h2)))

def w_Exact_turnedInto_L249 (Qr : Int64 → xb_H → Prop) (x0 : Nat) (x1 : Int32) (x2 : Int64) (h : xb_H) : Prop :=
    ((¬ x1 = (182 : Int32) → w_Exact_turnedInto_L264 Qr x0 x1 x2 32 x0 h) ∧ (x1 = (182 : Int32) → w_Exact_turnedInto_L264 Qr x0 x1 x2 64 x0 h))

def w_Exact_turnedInto_L245 (Qr : Int64 → xb_H → Prop) (y0 : Int32) (y1 : Int64) (y2 : Nat) (h : xb_H) : Prop :=
    xb_k h y2 = 10 ∧ w_Exact_floating y2 y1 y0 h (fun (r3 : Int64) (h2 : xb_H) => xb_ext h h2 → Qr r3 h2)

def w_Exact_turnedInto_L235 (Qr : Int64 → xb_H → Prop) (x4 : Int32) (y0 : Int64) (y1 : Nat) (h : xb_H) : Prop :=
    ((¬ x4 = (0 : Int32) → w_Exact_turnedInto_L245 Qr 0 y0 y1 h) ∧ (x4 = (0 : Int32) → w_Exact_turnedInto_L245 Qr 1 y0 y1 h))

def w_Exact_turnedInto_L211 (Qr : Int64 → xb_H → Prop) (x0 : Nat) (x1 : Int32) (x2 : Int64) (x4 : Int32) (h : xb_H) : Prop :=
    xb_k h x0 = 10 ∧ w_Exact_format x0 64 h (fun (h2 : xb_H) => xb_ext h h2 → ((¬ x1 = (183 : Int32) → w_Exact_turnedInto_L235 Qr x4 x2 x0 h2) ∧ (x1 = (183 : Int32) → w_Exact_withSign x2 32 h2 (fun (r6 : Int64) (h5 : xb_H) => xb_ext h2 h5 → w_Exact_turnedInto_L235 Qr x4 r6 x0 h5))))

def w_Exact_turnedInto_L205 (Qr : Int64 → xb_H → Prop) (x4 : Int32) (y0 : Int64) (y1 : Nat) (h : xb_H) : Prop :=
    xb_k h y1 = 10 ∧ w_Exact_floating y1 y0 x4 h (fun (r3 : Int64) (h2 : xb_H) => xb_ext h h2 → Qr r3 h2)

def w_Exact_turnedInto_L204 (Qr : Int64 → xb_H → Prop) (x2 : Int64) (x4 : Int32) (y0 : Nat) (h : xb_H) : Prop :=
    w_Exact_turnedInto_L205 Qr x4 x2 y0 h

def w_Exact_turnedInto_L176 (Qr : Int64 → xb_H → Prop) (x0 : Nat) (x1 : Int32) (x2 : Int64) (x4 : Int32) (h : xb_H) : Prop :=
    xb_k h x0 = 10 ∧ w_Exact_format x0 32 h (fun (h2 : xb_H) => xb_ext h h2 → ((x4 = (0 : Int32) → w_Exact_turnedInto_L204 Qr x2 x4 x0 h2) ∧ (¬ x4 = (0 : Int32) → (((180 : Int32) ≤ x1 → w_Exact_turnedInto_L204 Qr x2 x4 x0 h2) ∧ (¬ (180 : Int32) ≤ x1 → w_Exact_withSign x2 32 h2 (fun (r7 : Int64) (h6 : xb_H) => xb_ext h2 h6 → w_Exact_turnedInto_L205 Qr x4 r7 x0 h6))))))

def w_Exact_turnedInto_L175 (Qr : Int64 → xb_H → Prop) (y0 : Int64) (h : xb_H) : Prop :=
    Qr y0 h

def w_Exact_turnedInto_L160 (Qr : Int64 → xb_H → Prop) (x2 : Int64) (x4 : Int32) (h : xb_H) : Prop :=
    ((x4 = (0 : Int32) → w_Exact_turnedInto_L175 Qr x2 h) ∧ (¬ x4 = (0 : Int32) → w_Exact_withSign x2 32 h (fun (r3 : Int64) (h2 : xb_H) => xb_ext h h2 → w_Exact_turnedInto_L175 Qr r3 h2)))

def w_Exact_turnedInto_L82 (Qr : Int64 → xb_H → Prop) (x0 : Nat) (x1 : Int32) (x2 : Int64) (x4 : Int32) (h : xb_H) : Prop :=
    ((x1 = 172 → w_Exact_turnedInto_L160 Qr x2 x4 h) ∧ (x1 = 173 → w_Exact_turnedInto_L160 Qr x2 x4 h) ∧ (x1 = 174 → w_Exact_turnedInto_L287 Qr x2 h) ∧ (x1 = 175 → w_Exact_turnedInto_L287 Qr x2 h) ∧ (x1 = 176 → w_Exact_turnedInto_L287 Qr x2 h) ∧ (x1 = 177 → w_Exact_turnedInto_L287 Qr x2 h) ∧ (x1 = 178 → w_Exact_turnedInto_L176 Qr x0 x1 x2 x4 h) ∧ (x1 = 179 → w_Exact_turnedInto_L176 Qr x0 x1 x2 x4 h) ∧ (x1 = 180 → w_Exact_turnedInto_L176 Qr x0 x1 x2 x4 h) ∧ (x1 = 181 → w_Exact_turnedInto_L176 Qr x0 x1 x2 x4 h) ∧ (x1 = 182 → w_Exact_turnedInto_L249 Qr x0 x1 x2 h) ∧ (x1 = 183 → w_Exact_turnedInto_L211 Qr x0 x1 x2 x4 h) ∧ (x1 = 184 → w_Exact_turnedInto_L211 Qr x0 x1 x2 x4 h) ∧ (x1 = 185 → w_Exact_turnedInto_L211 Qr x0 x1 x2 x4 h) ∧ (x1 = 186 → w_Exact_turnedInto_L211 Qr x0 x1 x2 x4 h) ∧ (x1 = 187 → w_Exact_turnedInto_L249 Qr x0 x1 x2 h) ∧ (¬ x1 = 172 → ¬ x1 = 173 → ¬ x1 = 174 → ¬ x1 = 175 → ¬ x1 = 176 → ¬ x1 = 177 → ¬ x1 = 178 → ¬ x1 = 179 → ¬ x1 = 180 → ¬ x1 = 181 → ¬ x1 = 182 → ¬ x1 = 183 → ¬ x1 = 184 → ¬ x1 = 185 → ¬ x1 = 186 → ¬ x1 = 187 → w_Exact_turnedInto_L287 Qr x2 h))

def w_Exact_turnedInto_L76 (Qr : Int64 → xb_H → Prop) (x4 : Int32) (y0 : Int32) (y1 : Int64) (y2 : Nat) (h : xb_H) : Prop :=
    xb_k h y2 = 10 ∧ w_Exact_cut y2 y1 y0 x4 h (fun (r3 : Int64) (h2 : xb_H) => xb_ext h h2 → Qr r3 h2)

def w_Exact_turnedInto_L57 (Qr : Int64 → xb_H → Prop) (x0 : Nat) (x1 : Int32) (x2 : Int64) (x4 : Int32) (y0 : Int32) (y1 : Nat) (h : xb_H) : Prop :=
    xb_k h y1 = 10 ∧ w_Exact_format y1 y0 h (fun (h2 : xb_H) => xb_ext h h2 → (((172 : Int32) ≤ x1 → w_Exact_turnedInto_L76 Qr x4 64 x2 x0 h2) ∧ (¬ (172 : Int32) ≤ x1 → w_Exact_turnedInto_L76 Qr x4 32 x2 x0 h2)))

def w_Exact_turnedInto_L41 (Qr : Int64 → xb_H → Prop) (x0 : Nat) (x1 : Int32) (x2 : Int64) (x4 : Int32) (h : xb_H) : Prop :=
    w_Exact_first x1 h (fun (r2 : Int32) (h1 : xb_H) => xb_ext h h1 → ((¬ r2 = (2 : Int32) → w_Exact_turnedInto_L57 Qr x0 x1 x2 x4 64 x0 h1) ∧ (r2 = (2 : Int32) → w_Exact_turnedInto_L57 Qr x0 x1 x2 x4 32 x0 h1)))

def w_Exact_turnedInto_L27 (Qr : Int64 → xb_H → Prop) (x0 : Nat) (x1 : Int32) (x2 : Int64) (x4 : Int32) (h : xb_H) : Prop :=
    ((x1 < (174 : Int32) → w_Exact_turnedInto_L82 Qr x0 x1 x2 x4 h) ∧ (¬ x1 < (174 : Int32) → (((177 : Int32) < x1 → w_Exact_turnedInto_L82 Qr x0 x1 x2 x4 h) ∧ (¬ (177 : Int32) < x1 → w_Exact_turnedInto_L41 Qr x0 x1 x2 x4 h))))

def w_Exact_turnedInto_L11 (Qr : Int64 → xb_H → Prop) (x0 : Nat) (x1 : Int32) (x2 : Int64) (y0 : Int32) (h : xb_H) : Prop :=
    ((x1 < (168 : Int32) → w_Exact_turnedInto_L27 Qr x0 x1 x2 y0 h) ∧ (¬ x1 < (168 : Int32) → ((x1 ≤ (171 : Int32) → w_Exact_turnedInto_L41 Qr x0 x1 x2 y0 h) ∧ (¬ x1 ≤ (171 : Int32) → w_Exact_turnedInto_L27 Qr x0 x1 x2 y0 h))))

def w_Exact_turnedInto (x0 : Nat) (x1 : Int32) (x2 : Int64) (h : xb_H) (Qr : Int64 → xb_H → Prop) : Prop :=
    ((¬ (x1 - x1 / 2 * 2) = (0 : Int32) → w_Exact_turnedInto_L11 Qr x0 x1 x2 0 h) ∧ ((x1 - x1 / 2 * 2) = (0 : Int32) → w_Exact_turnedInto_L11 Qr x0 x1 x2 1 h))

set_option maxHeartbeats 4000000 in
set_option maxRecDepth 100000 in
theorem am_Exact_turnedInto_L287 (l : Launch) (hfl : l.flags = pinnedFlags ++ [noTraceFlag]) (D : va_G) (A : Nat → Prop) (σ MC MS : Nat) (h0 : xb_H) (Qr : Int64 → xb_H → Prop) (x2 : Int64) (h : xb_H) (hw : w_Exact_turnedInto_L287 Qr x2 h) : xb_am l D A σ 6 MC MS h0 (fun v h => ∃ r, v = some (.long r) ∧ Qr r h) (fun _ _ => False) y_Exact_turnedInto.cls y_Exact_turnedInto.name b_Exact_turnedInto 5 ([] : List ExceptionTableEntry) (some .long) 287 [(2, .long x2)] [] h 0 0 := by
  unfold w_Exact_turnedInto_L287 at hw
  intro p e s m args below meth c hC H locs ls k n hE hl hR hS hk hn
  obtain ⟨hx, hb, hown, hlocks, htab, hml, hr, hB, hA, hnm⟩ := id hC
  have hts := hB.1.1.at args
  refine lv_lload_n hx hb (xb_d D_Exact_turnedInto 104 rfl) rfl (lv_at hl 0 rfl) ?_
  exact xb_lret hx hb hr hlocks (show k ≤ MC by omega) (show n ≤ MS by omega) hE hR hS (xb_d D_Exact_turnedInto 105 rfl) hw

set_option maxHeartbeats 4000000 in
set_option maxRecDepth 100000 in
theorem am_Exact_turnedInto_L283 (l : Launch) (hfl : l.flags = pinnedFlags ++ [noTraceFlag]) (D : va_G) (A : Nat → Prop) (σ MC MS : Nat) (h0 : xb_H) (Qr : Int64 → xb_H → Prop) (y0 : Int32) (y1 : Int64) (y2 : Nat) (h : xb_H) (hw : w_Exact_turnedInto_L283 Qr y0 y1 y2 h) : xb_am l D A σ 6 MC MS h0 (fun v h => ∃ r, v = some (.long r) ∧ Qr r h) (fun _ _ => False) y_Exact_turnedInto.cls y_Exact_turnedInto.name b_Exact_turnedInto 5 ([] : List ExceptionTableEntry) (some .long) 283 [] [.int y0, .long y1, .ref y2] h 0 0 := by
  unfold w_Exact_turnedInto_L283 at hw
  intro p e s m args below meth c hC H locs ls k n hE hl hR hS hk hn
  obtain ⟨hx, hb, hown, hlocks, htab, hml, hr, hB, hA, hnm⟩ := id hC
  have hts := hB.1.1.at args
  obtain ⟨hk1, hw⟩ := hw
  refine xb_call (D := D) (A := A) (σ := σ) (h := h) (d := 5) (mc := 0) (ms := 0) (maxL := 8) (rest := []) (av := [.ref y2, .long y1, .int y0]) (fun T hT X => by obtain ⟨cb, r1, r2, r3⟩ := xb_recv (ci := 9) hR rfl hk1 (by decide); exact xt_invV X hx hown (hts _ m_b8b9132e) (hts _ m_62aa3384) (hts _ m_3dad0ddb) (xt_sigOf (hts _ m_f4426c3a)) nm_Exact_reformed (by rw [hT]; exact r1) r2 r3 (g := F0 m 283 ls [.int y0, .long y1, .ref y2]) rfl (argsL := [.long y1, .int y0]) (rest := []) rfl rfl (by rw [hb]; exact (xb_d D_Exact_turnedInto 102 rfl))) (ok_Exact_reformed l hfl D A σ y2 y1 y0 h _ hw) (hml.trans hl.1.symm) (by rw [hb]; exact (xb_d D_Exact_turnedInto 102 rfl)) (Nat.le_of_ble_eq_true rfl) (Nat.le_of_ble_eq_true rfl) (Nat.le_of_ble_eq_true rfl) (show k + 0 ≤ MC by omega) (show n + 0 ≤ MS by omega) (xt_w1 hB.1 m_f4426c3a) (xt_cdOf hB.1 m_f4426c3a) (hts _ m_b807310b) hB hR hS hA (fun vv h2 H locs hq hEh2 hR hS => ?_) (fun XX ax h2 H locs hq hEh2 hex hR hS => ?_)
  · obtain ⟨r3, rfl, hw⟩ := hq
    have hw := hw hEh2
    have hE := hE.tr hEh2
    refine W.eq (g2 := F0 m 286 ls [.long r3]) rfl ?_
    exact xb_lret hx hb hr hlocks (show k ≤ MC by omega) (show n ≤ MS by omega) hE hR hS (xb_d D_Exact_turnedInto 103 rfl) hw
  · exact False.elim hq

set_option maxHeartbeats 4000000 in
set_option maxRecDepth 100000 in
theorem am_Exact_turnedInto_L264 (l : Launch) (hfl : l.flags = pinnedFlags ++ [noTraceFlag]) (D : va_G) (A : Nat → Prop) (σ MC MS : Nat) (h0 : xb_H) (Qr : Int64 → xb_H → Prop) (x0 : Nat) (x1 : Int32) (x2 : Int64) (y0 : Int32) (y1 : Nat) (h : xb_H) (hw : w_Exact_turnedInto_L264 Qr x0 x1 x2 y0 y1 h) : xb_am l D A σ 6 MC MS h0 (fun v h => ∃ r, v = some (.long r) ∧ Qr r h) (fun _ _ => False) y_Exact_turnedInto.cls y_Exact_turnedInto.name b_Exact_turnedInto 5 ([] : List ExceptionTableEntry) (some .long) 264 [(0, .ref x0), (1, .int x1), (2, .long x2)] [.int y0, .ref y1] h 0 0 := by
  unfold w_Exact_turnedInto_L264 at hw
  intro p e s m args below meth c hC H locs ls k n hE hl hR hS hk hn
  obtain ⟨hx, hb, hown, hlocks, htab, hml, hr, hB, hA, hnm⟩ := id hC
  have hts := hB.1.1.at args
  obtain ⟨hk1, hw⟩ := hw
  refine xb_call (D := D) (A := A) (σ := σ) (h := h) (d := 2) (mc := 0) (ms := 0) (maxL := 2) (rest := []) (av := [.ref y1, .int y0]) (fun T hT X => by obtain ⟨cb, r1, r2, r3⟩ := xb_recv (ci := 9) hR rfl hk1 (by decide); exact xt_invV X hx hown (hts _ m_c71b9470) (hts _ m_83158a9f) (hts _ m_b726eab7) (xt_sigOf (hts _ m_e24dd969)) nm_Exact_format (by rw [hT]; exact r1) r2 r3 (g := F0 m 264 ls [.int y0, .ref y1]) rfl (argsL := [.int y0]) (rest := []) rfl rfl (by rw [hb]; exact (xb_d D_Exact_turnedInto 93 rfl))) (ok_Exact_format l hfl D A σ y1 y0 h _ hw) (hml.trans hl.1.symm) (by rw [hb]; exact (xb_d D_Exact_turnedInto 93 rfl)) (Nat.le_of_ble_eq_true rfl) (Nat.le_of_ble_eq_true rfl) (Nat.le_of_ble_eq_true rfl) (show k + 0 ≤ MC by omega) (show n + 0 ≤ MS by omega) (xt_w1 hB.1 m_e24dd969) (xt_cdOf hB.1 m_e24dd969) (hts _ m_b807310b) hB hR hS hA (fun vv h2 H locs hq hEh2 hR hS => ?_) (fun XX ax h2 H locs hq hEh2 hex hR hS => ?_)
  · obtain ⟨rfl, hw⟩ := hq
    have hw := hw hEh2
    have hE := hE.tr hEh2
    refine W.eq (g2 := F0 m 267 ls []) rfl ?_
    refine lv_aload_n hx hb (xb_d D_Exact_turnedInto 94 rfl) rfl (lv_at hl 0 rfl) ?_
    refine lv_lload_n hx hb (xb_d D_Exact_turnedInto 95 rfl) rfl (lv_at hl 2 rfl) ?_
    refine lv_iload_n hx hb (xb_d D_Exact_turnedInto 96 rfl) rfl (lv_at hl 1 rfl) ?_
    refine lv_sipush (v := 182) hx hb (xb_d D_Exact_turnedInto 97 rfl) (by decide) ?_
    refine lv_icmp_ne (tgt := 281) hx hb (xb_d D_Exact_turnedInto 98 rfl) rfl (fun hc4 => ?_) (fun hc4 => ?_)
    · have hw := hw.1 hc4
      refine lv_bipush (v := 64) hx hb (xb_d D_Exact_turnedInto 101 rfl) (by decide) ?_
      exact am_Exact_turnedInto_L283 l hfl D A σ MC MS h0 Qr 64 x2 x0 h2 hw p e s m args below meth c hC H locs ls k n hE (lv_sub hl [] rfl) hR hS (by omega) (by omega)
    · have hw := hw.2 hc4
      refine lv_bipush (v := 32) hx hb (xb_d D_Exact_turnedInto 99 rfl) (by decide) ?_
      refine lv_goto (tgt := 283) hx hb (xb_d D_Exact_turnedInto 100 rfl) rfl ?_
      exact am_Exact_turnedInto_L283 l hfl D A σ MC MS h0 Qr 32 x2 x0 h2 hw p e s m args below meth c hC H locs ls k n hE (lv_sub hl [] rfl) hR hS (by omega) (by omega)
  · exact False.elim hq

set_option maxHeartbeats 4000000 in
set_option maxRecDepth 100000 in
theorem am_Exact_turnedInto_L249 (l : Launch) (hfl : l.flags = pinnedFlags ++ [noTraceFlag]) (D : va_G) (A : Nat → Prop) (σ MC MS : Nat) (h0 : xb_H) (Qr : Int64 → xb_H → Prop) (x0 : Nat) (x1 : Int32) (x2 : Int64) (h : xb_H) (hw : w_Exact_turnedInto_L249 Qr x0 x1 x2 h) : xb_am l D A σ 6 MC MS h0 (fun v h => ∃ r, v = some (.long r) ∧ Qr r h) (fun _ _ => False) y_Exact_turnedInto.cls y_Exact_turnedInto.name b_Exact_turnedInto 5 ([] : List ExceptionTableEntry) (some .long) 249 [(0, .ref x0), (1, .int x1), (2, .long x2)] [] h 0 0 := by
  unfold w_Exact_turnedInto_L249 at hw
  intro p e s m args below meth c hC H locs ls k n hE hl hR hS hk hn
  obtain ⟨hx, hb, hown, hlocks, htab, hml, hr, hB, hA, hnm⟩ := id hC
  have hts := hB.1.1.at args
  refine lv_aload_n hx hb (xb_d D_Exact_turnedInto 86 rfl) rfl (lv_at hl 0 rfl) ?_
  refine lv_iload_n hx hb (xb_d D_Exact_turnedInto 87 rfl) rfl (lv_at hl 1 rfl) ?_
  refine lv_sipush (v := 182) hx hb (xb_d D_Exact_turnedInto 88 rfl) (by decide) ?_
  refine lv_icmp_ne (tgt := 262) hx hb (xb_d D_Exact_turnedInto 89 rfl) rfl (fun hc1 => ?_) (fun hc1 => ?_)
  · have hw := hw.1 hc1
    refine lv_bipush (v := 32) hx hb (xb_d D_Exact_turnedInto 92 rfl) (by decide) ?_
    exact am_Exact_turnedInto_L264 l hfl D A σ MC MS h0 Qr x0 x1 x2 32 x0 h hw p e s m args below meth c hC H locs ls k n hE (lv_sub hl [0, 1, 2] rfl) hR hS (by omega) (by omega)
  · have hw := hw.2 hc1
    refine lv_bipush (v := 64) hx hb (xb_d D_Exact_turnedInto 90 rfl) (by decide) ?_
    refine lv_goto (tgt := 264) hx hb (xb_d D_Exact_turnedInto 91 rfl) rfl ?_
    exact am_Exact_turnedInto_L264 l hfl D A σ MC MS h0 Qr x0 x1 x2 64 x0 h hw p e s m args below meth c hC H locs ls k n hE (lv_sub hl [0, 1, 2] rfl) hR hS (by omega) (by omega)

set_option maxHeartbeats 4000000 in
set_option maxRecDepth 100000 in
theorem am_Exact_turnedInto_L245 (l : Launch) (hfl : l.flags = pinnedFlags ++ [noTraceFlag]) (D : va_G) (A : Nat → Prop) (σ MC MS : Nat) (h0 : xb_H) (Qr : Int64 → xb_H → Prop) (y0 : Int32) (y1 : Int64) (y2 : Nat) (h : xb_H) (hw : w_Exact_turnedInto_L245 Qr y0 y1 y2 h) : xb_am l D A σ 6 MC MS h0 (fun v h => ∃ r, v = some (.long r) ∧ Qr r h) (fun _ _ => False) y_Exact_turnedInto.cls y_Exact_turnedInto.name b_Exact_turnedInto 5 ([] : List ExceptionTableEntry) (some .long) 245 [] [.int y0, .long y1, .ref y2] h 0 0 := by
  unfold w_Exact_turnedInto_L245 at hw
  intro p e s m args below meth c hC H locs ls k n hE hl hR hS hk hn
  obtain ⟨hx, hb, hown, hlocks, htab, hml, hr, hB, hA, hnm⟩ := id hC
  have hts := hB.1.1.at args
  obtain ⟨hk1, hw⟩ := hw
  refine xb_call (D := D) (A := A) (σ := σ) (h := h) (d := 5) (mc := 0) (ms := 0) (maxL := 5) (rest := []) (av := [.ref y2, .long y1, .int y0]) (fun T hT X => by obtain ⟨cb, r1, r2, r3⟩ := xb_recv (ci := 9) hR rfl hk1 (by decide); exact xt_invV X hx hown (hts _ m_ed6fa259) (hts _ m_507a6f35) (hts _ m_cb6a4b02) (xt_sigOf (hts _ m_0a89dfd9)) nm_Exact_floating (by rw [hT]; exact r1) r2 r3 (g := F0 m 245 ls [.int y0, .long y1, .ref y2]) rfl (argsL := [.long y1, .int y0]) (rest := []) rfl rfl (by rw [hb]; exact (xb_d D_Exact_turnedInto 84 rfl))) (ok_Exact_floating l hfl D A σ y2 y1 y0 h _ hw) (hml.trans hl.1.symm) (by rw [hb]; exact (xb_d D_Exact_turnedInto 84 rfl)) (Nat.le_of_ble_eq_true rfl) (Nat.le_of_ble_eq_true rfl) (Nat.le_of_ble_eq_true rfl) (show k + 0 ≤ MC by omega) (show n + 0 ≤ MS by omega) (xt_w1 hB.1 m_0a89dfd9) (xt_cdOf hB.1 m_0a89dfd9) (hts _ m_b807310b) hB hR hS hA (fun vv h2 H locs hq hEh2 hR hS => ?_) (fun XX ax h2 H locs hq hEh2 hex hR hS => ?_)
  · obtain ⟨r3, rfl, hw⟩ := hq
    have hw := hw hEh2
    have hE := hE.tr hEh2
    refine W.eq (g2 := F0 m 248 ls [.long r3]) rfl ?_
    exact xb_lret hx hb hr hlocks (show k ≤ MC by omega) (show n ≤ MS by omega) hE hR hS (xb_d D_Exact_turnedInto 85 rfl) hw
  · exact False.elim hq

set_option maxHeartbeats 4000000 in
set_option maxRecDepth 100000 in
theorem am_Exact_turnedInto_L235 (l : Launch) (hfl : l.flags = pinnedFlags ++ [noTraceFlag]) (D : va_G) (A : Nat → Prop) (σ MC MS : Nat) (h0 : xb_H) (Qr : Int64 → xb_H → Prop) (x4 : Int32) (y0 : Int64) (y1 : Nat) (h : xb_H) (hw : w_Exact_turnedInto_L235 Qr x4 y0 y1 h) : xb_am l D A σ 6 MC MS h0 (fun v h => ∃ r, v = some (.long r) ∧ Qr r h) (fun _ _ => False) y_Exact_turnedInto.cls y_Exact_turnedInto.name b_Exact_turnedInto 5 ([] : List ExceptionTableEntry) (some .long) 235 [(4, .int x4)] [.long y0, .ref y1] h 0 0 := by
  unfold w_Exact_turnedInto_L235 at hw
  intro p e s m args below meth c hC H locs ls k n hE hl hR hS hk hn
  obtain ⟨hx, hb, hown, hlocks, htab, hml, hr, hB, hA, hnm⟩ := id hC
  have hts := hB.1.1.at args
  refine lv_iload hx hb (xb_d D_Exact_turnedInto 79 rfl) (lv_at hl 0 rfl) ?_
  refine lv_if_ne (tgt := 244) hx hb (xb_d D_Exact_turnedInto 80 rfl) rfl (fun hc1 => ?_) (fun hc1 => ?_)
  · have hw := hw.1 hc1
    refine lv_iconst (v := 0) hx hb (xb_d D_Exact_turnedInto 83 rfl) (by decide) ?_
    exact am_Exact_turnedInto_L245 l hfl D A σ MC MS h0 Qr 0 y0 y1 h hw p e s m args below meth c hC H locs ls k n hE (lv_sub hl [] rfl) hR hS (by omega) (by omega)
  · have hw := hw.2 hc1
    refine lv_iconst (v := 1) hx hb (xb_d D_Exact_turnedInto 81 rfl) (by decide) ?_
    refine lv_goto (tgt := 245) hx hb (xb_d D_Exact_turnedInto 82 rfl) rfl ?_
    exact am_Exact_turnedInto_L245 l hfl D A σ MC MS h0 Qr 1 y0 y1 h hw p e s m args below meth c hC H locs ls k n hE (lv_sub hl [] rfl) hR hS (by omega) (by omega)

set_option maxHeartbeats 4000000 in
set_option maxRecDepth 100000 in
theorem am_Exact_turnedInto_L211 (l : Launch) (hfl : l.flags = pinnedFlags ++ [noTraceFlag]) (D : va_G) (A : Nat → Prop) (σ MC MS : Nat) (h0 : xb_H) (Qr : Int64 → xb_H → Prop) (x0 : Nat) (x1 : Int32) (x2 : Int64) (x4 : Int32) (h : xb_H) (hw : w_Exact_turnedInto_L211 Qr x0 x1 x2 x4 h) : xb_am l D A σ 6 MC MS h0 (fun v h => ∃ r, v = some (.long r) ∧ Qr r h) (fun _ _ => False) y_Exact_turnedInto.cls y_Exact_turnedInto.name b_Exact_turnedInto 5 ([] : List ExceptionTableEntry) (some .long) 211 [(0, .ref x0), (1, .int x1), (2, .long x2), (4, .int x4)] [] h 0 0 := by
  unfold w_Exact_turnedInto_L211 at hw
  intro p e s m args below meth c hC H locs ls k n hE hl hR hS hk hn
  obtain ⟨hx, hb, hown, hlocks, htab, hml, hr, hB, hA, hnm⟩ := id hC
  have hts := hB.1.1.at args
  refine lv_aload_n hx hb (xb_d D_Exact_turnedInto 67 rfl) rfl (lv_at hl 0 rfl) ?_
  refine lv_bipush (v := 64) hx hb (xb_d D_Exact_turnedInto 68 rfl) (by decide) ?_
  obtain ⟨hk1, hw⟩ := hw
  refine xb_call (D := D) (A := A) (σ := σ) (h := h) (d := 2) (mc := 0) (ms := 0) (maxL := 2) (rest := []) (av := [.ref x0, .int 64]) (fun T hT X => by obtain ⟨cb, r1, r2, r3⟩ := xb_recv (ci := 9) hR rfl hk1 (by decide); exact xt_invV X hx hown (hts _ m_c71b9470) (hts _ m_83158a9f) (hts _ m_b726eab7) (xt_sigOf (hts _ m_e24dd969)) nm_Exact_format (by rw [hT]; exact r1) r2 r3 (g := F0 m 214 ls [.int 64, .ref x0]) rfl (argsL := [.int 64]) (rest := []) rfl rfl (by rw [hb]; exact (xb_d D_Exact_turnedInto 69 rfl))) (ok_Exact_format l hfl D A σ x0 64 h _ hw) (hml.trans hl.1.symm) (by rw [hb]; exact (xb_d D_Exact_turnedInto 69 rfl)) (Nat.le_of_ble_eq_true rfl) (Nat.le_of_ble_eq_true rfl) (Nat.le_of_ble_eq_true rfl) (show k + 0 ≤ MC by omega) (show n + 0 ≤ MS by omega) (xt_w1 hB.1 m_e24dd969) (xt_cdOf hB.1 m_e24dd969) (hts _ m_b807310b) hB hR hS hA (fun vv h2 H locs hq hEh2 hR hS => ?_) (fun XX ax h2 H locs hq hEh2 hex hR hS => ?_)
  · obtain ⟨rfl, hw⟩ := hq
    have hw := hw hEh2
    have hE := hE.tr hEh2
    refine W.eq (g2 := F0 m 217 ls []) rfl ?_
    refine lv_aload_n hx hb (xb_d D_Exact_turnedInto 70 rfl) rfl (lv_at hl 0 rfl) ?_
    refine lv_iload_n hx hb (xb_d D_Exact_turnedInto 71 rfl) rfl (lv_at hl 1 rfl) ?_
    refine lv_sipush (v := 183) hx hb (xb_d D_Exact_turnedInto 72 rfl) (by decide) ?_
    refine lv_icmp_ne (tgt := 234) hx hb (xb_d D_Exact_turnedInto 73 rfl) rfl (fun hc4 => ?_) (fun hc4 => ?_)
    · have hw := hw.1 hc4
      refine lv_lload_n hx hb (xb_d D_Exact_turnedInto 78 rfl) rfl (lv_at hl 2 rfl) ?_
      exact am_Exact_turnedInto_L235 l hfl D A σ MC MS h0 Qr x4 x2 x0 h2 hw p e s m args below meth c hC H locs ls k n hE (lv_sub hl [3] rfl) hR hS (by omega) (by omega)
    · have hw := hw.2 hc4
      refine lv_lload_n hx hb (xb_d D_Exact_turnedInto 74 rfl) rfl (lv_at hl 2 rfl) ?_
      refine lv_bipush (v := 32) hx hb (xb_d D_Exact_turnedInto 75 rfl) (by decide) ?_
      refine xb_call (D := D) (A := A) (σ := σ) (h := h2) (d := 2) (mc := 0) (ms := 0) (maxL := 3) (rest := [.ref x0]) (av := [.long x2, .int 32]) (fun T hT X => xt_invS X hx hown (hts _ m_a66ea30b) (hts _ m_ccb01543) (hts _ m_b807310b) (xt_sgS (hts _ m_dcff08ea)).1 (xt_sgS (hts _ m_dcff08ea)).2 nm_Exact_withSign (g := F0 m 228 ls [.int 32, .long x2, .ref x0]) rfl (argsL := [.long x2, .int 32]) (rest := [.ref x0]) rfl rfl (by rw [hb]; exact (xb_d D_Exact_turnedInto 76 rfl))) (ok_Exact_withSign l hfl D A σ x2 32 h2 _ hw) (hml.trans hl.1.symm) (by rw [hb]; exact (xb_d D_Exact_turnedInto 76 rfl)) (Nat.le_of_ble_eq_true rfl) (Nat.le_of_ble_eq_true rfl) (Nat.le_of_ble_eq_true rfl) (show k + 0 ≤ MC by omega) (show n + 0 ≤ MS by omega) (xt_w1 hB.1 m_dcff08ea) (xt_cdOf hB.1 m_dcff08ea) (hts _ m_b807310b) hB hR hS hA (fun vv h5 H locs hq hEh5 hR hS => ?_) (fun XX ax h5 H locs hq hEh5 hex hR hS => ?_)
      · obtain ⟨r6, rfl, hw⟩ := hq
        have hw := hw hEh5
        have hE := hE.tr hEh5
        refine W.eq (g2 := F0 m 231 ls [.long r6, .ref x0]) rfl ?_
        refine lv_goto (tgt := 235) hx hb (xb_d D_Exact_turnedInto 77 rfl) rfl ?_
        exact am_Exact_turnedInto_L235 l hfl D A σ MC MS h0 Qr x4 r6 x0 h5 hw p e s m args below meth c hC H locs ls k n hE (lv_sub hl [3] rfl) hR hS (by omega) (by omega)
      · exact False.elim hq
  · exact False.elim hq

set_option maxHeartbeats 4000000 in
set_option maxRecDepth 100000 in
theorem am_Exact_turnedInto_L205 (l : Launch) (hfl : l.flags = pinnedFlags ++ [noTraceFlag]) (D : va_G) (A : Nat → Prop) (σ MC MS : Nat) (h0 : xb_H) (Qr : Int64 → xb_H → Prop) (x4 : Int32) (y0 : Int64) (y1 : Nat) (h : xb_H) (hw : w_Exact_turnedInto_L205 Qr x4 y0 y1 h) : xb_am l D A σ 6 MC MS h0 (fun v h => ∃ r, v = some (.long r) ∧ Qr r h) (fun _ _ => False) y_Exact_turnedInto.cls y_Exact_turnedInto.name b_Exact_turnedInto 5 ([] : List ExceptionTableEntry) (some .long) 205 [(4, .int x4)] [.long y0, .ref y1] h 0 0 := by
  unfold w_Exact_turnedInto_L205 at hw
  intro p e s m args below meth c hC H locs ls k n hE hl hR hS hk hn
  obtain ⟨hx, hb, hown, hlocks, htab, hml, hr, hB, hA, hnm⟩ := id hC
  have hts := hB.1.1.at args
  refine lv_iload hx hb (xb_d D_Exact_turnedInto 64 rfl) (lv_at hl 0 rfl) ?_
  obtain ⟨hk1, hw⟩ := hw
  refine xb_call (D := D) (A := A) (σ := σ) (h := h) (d := 5) (mc := 0) (ms := 0) (maxL := 5) (rest := []) (av := [.ref y1, .long y0, .int x4]) (fun T hT X => by obtain ⟨cb, r1, r2, r3⟩ := xb_recv (ci := 9) hR rfl hk1 (by decide); exact xt_invV X hx hown (hts _ m_ed6fa259) (hts _ m_507a6f35) (hts _ m_cb6a4b02) (xt_sigOf (hts _ m_0a89dfd9)) nm_Exact_floating (by rw [hT]; exact r1) r2 r3 (g := F0 m 207 ls [.int x4, .long y0, .ref y1]) rfl (argsL := [.long y0, .int x4]) (rest := []) rfl rfl (by rw [hb]; exact (xb_d D_Exact_turnedInto 65 rfl))) (ok_Exact_floating l hfl D A σ y1 y0 x4 h _ hw) (hml.trans hl.1.symm) (by rw [hb]; exact (xb_d D_Exact_turnedInto 65 rfl)) (Nat.le_of_ble_eq_true rfl) (Nat.le_of_ble_eq_true rfl) (Nat.le_of_ble_eq_true rfl) (show k + 0 ≤ MC by omega) (show n + 0 ≤ MS by omega) (xt_w1 hB.1 m_0a89dfd9) (xt_cdOf hB.1 m_0a89dfd9) (hts _ m_b807310b) hB hR hS hA (fun vv h2 H locs hq hEh2 hR hS => ?_) (fun XX ax h2 H locs hq hEh2 hex hR hS => ?_)
  · obtain ⟨r3, rfl, hw⟩ := hq
    have hw := hw hEh2
    have hE := hE.tr hEh2
    refine W.eq (g2 := F0 m 210 ls [.long r3]) rfl ?_
    exact xb_lret hx hb hr hlocks (show k ≤ MC by omega) (show n ≤ MS by omega) hE hR hS (xb_d D_Exact_turnedInto 66 rfl) hw
  · exact False.elim hq

set_option maxHeartbeats 4000000 in
set_option maxRecDepth 100000 in
theorem am_Exact_turnedInto_L204 (l : Launch) (hfl : l.flags = pinnedFlags ++ [noTraceFlag]) (D : va_G) (A : Nat → Prop) (σ MC MS : Nat) (h0 : xb_H) (Qr : Int64 → xb_H → Prop) (x2 : Int64) (x4 : Int32) (y0 : Nat) (h : xb_H) (hw : w_Exact_turnedInto_L204 Qr x2 x4 y0 h) : xb_am l D A σ 6 MC MS h0 (fun v h => ∃ r, v = some (.long r) ∧ Qr r h) (fun _ _ => False) y_Exact_turnedInto.cls y_Exact_turnedInto.name b_Exact_turnedInto 5 ([] : List ExceptionTableEntry) (some .long) 204 [(2, .long x2), (4, .int x4)] [.ref y0] h 0 0 := by
  unfold w_Exact_turnedInto_L204 at hw
  intro p e s m args below meth c hC H locs ls k n hE hl hR hS hk hn
  obtain ⟨hx, hb, hown, hlocks, htab, hml, hr, hB, hA, hnm⟩ := id hC
  have hts := hB.1.1.at args
  refine lv_lload_n hx hb (xb_d D_Exact_turnedInto 63 rfl) rfl (lv_at hl 0 rfl) ?_
  exact am_Exact_turnedInto_L205 l hfl D A σ MC MS h0 Qr x4 x2 y0 h hw p e s m args below meth c hC H locs ls k n hE (lv_sub hl [1] rfl) hR hS (by omega) (by omega)

set_option maxHeartbeats 4000000 in
set_option maxRecDepth 100000 in
theorem am_Exact_turnedInto_L176 (l : Launch) (hfl : l.flags = pinnedFlags ++ [noTraceFlag]) (D : va_G) (A : Nat → Prop) (σ MC MS : Nat) (h0 : xb_H) (Qr : Int64 → xb_H → Prop) (x0 : Nat) (x1 : Int32) (x2 : Int64) (x4 : Int32) (h : xb_H) (hw : w_Exact_turnedInto_L176 Qr x0 x1 x2 x4 h) : xb_am l D A σ 6 MC MS h0 (fun v h => ∃ r, v = some (.long r) ∧ Qr r h) (fun _ _ => False) y_Exact_turnedInto.cls y_Exact_turnedInto.name b_Exact_turnedInto 5 ([] : List ExceptionTableEntry) (some .long) 176 [(0, .ref x0), (1, .int x1), (2, .long x2), (4, .int x4)] [] h 0 0 := by
  unfold w_Exact_turnedInto_L176 at hw
  intro p e s m args below meth c hC H locs ls k n hE hl hR hS hk hn
  obtain ⟨hx, hb, hown, hlocks, htab, hml, hr, hB, hA, hnm⟩ := id hC
  have hts := hB.1.1.at args
  refine lv_aload_n hx hb (xb_d D_Exact_turnedInto 50 rfl) rfl (lv_at hl 0 rfl) ?_
  refine lv_bipush (v := 32) hx hb (xb_d D_Exact_turnedInto 51 rfl) (by decide) ?_
  obtain ⟨hk1, hw⟩ := hw
  refine xb_call (D := D) (A := A) (σ := σ) (h := h) (d := 2) (mc := 0) (ms := 0) (maxL := 2) (rest := []) (av := [.ref x0, .int 32]) (fun T hT X => by obtain ⟨cb, r1, r2, r3⟩ := xb_recv (ci := 9) hR rfl hk1 (by decide); exact xt_invV X hx hown (hts _ m_c71b9470) (hts _ m_83158a9f) (hts _ m_b726eab7) (xt_sigOf (hts _ m_e24dd969)) nm_Exact_format (by rw [hT]; exact r1) r2 r3 (g := F0 m 179 ls [.int 32, .ref x0]) rfl (argsL := [.int 32]) (rest := []) rfl rfl (by rw [hb]; exact (xb_d D_Exact_turnedInto 52 rfl))) (ok_Exact_format l hfl D A σ x0 32 h _ hw) (hml.trans hl.1.symm) (by rw [hb]; exact (xb_d D_Exact_turnedInto 52 rfl)) (Nat.le_of_ble_eq_true rfl) (Nat.le_of_ble_eq_true rfl) (Nat.le_of_ble_eq_true rfl) (show k + 0 ≤ MC by omega) (show n + 0 ≤ MS by omega) (xt_w1 hB.1 m_e24dd969) (xt_cdOf hB.1 m_e24dd969) (hts _ m_b807310b) hB hR hS hA (fun vv h2 H locs hq hEh2 hR hS => ?_) (fun XX ax h2 H locs hq hEh2 hex hR hS => ?_)
  · obtain ⟨rfl, hw⟩ := hq
    have hw := hw hEh2
    have hE := hE.tr hEh2
    refine W.eq (g2 := F0 m 182 ls []) rfl ?_
    refine lv_aload_n hx hb (xb_d D_Exact_turnedInto 53 rfl) rfl (lv_at hl 0 rfl) ?_
    refine lv_iload hx hb (xb_d D_Exact_turnedInto 54 rfl) (lv_at hl 3 rfl) ?_
    refine lv_if_eq (tgt := 204) hx hb (xb_d D_Exact_turnedInto 55 rfl) rfl (fun hc4 => ?_) (fun hc4 => ?_)
    · have hw := hw.1 hc4
      exact am_Exact_turnedInto_L204 l hfl D A σ MC MS h0 Qr x2 x4 x0 h2 hw p e s m args below meth c hC H locs ls k n hE (lv_sub hl [2, 3] rfl) hR hS (by omega) (by omega)
    · have hw := hw.2 hc4
      refine lv_iload_n hx hb (xb_d D_Exact_turnedInto 56 rfl) rfl (lv_at hl 1 rfl) ?_
      refine lv_sipush (v := 180) hx hb (xb_d D_Exact_turnedInto 57 rfl) (by decide) ?_
      refine lv_icmp_ge (tgt := 204) hx hb (xb_d D_Exact_turnedInto 58 rfl) rfl (fun hc5 => ?_) (fun hc5 => ?_)
      · have hw := hw.1 hc5
        exact am_Exact_turnedInto_L204 l hfl D A σ MC MS h0 Qr x2 x4 x0 h2 hw p e s m args below meth c hC H locs ls k n hE (lv_sub hl [2, 3] rfl) hR hS (by omega) (by omega)
      · have hw := hw.2 hc5
        refine lv_lload_n hx hb (xb_d D_Exact_turnedInto 59 rfl) rfl (lv_at hl 2 rfl) ?_
        refine lv_bipush (v := 32) hx hb (xb_d D_Exact_turnedInto 60 rfl) (by decide) ?_
        refine xb_call (D := D) (A := A) (σ := σ) (h := h2) (d := 2) (mc := 0) (ms := 0) (maxL := 3) (rest := [.ref x0]) (av := [.long x2, .int 32]) (fun T hT X => xt_invS X hx hown (hts _ m_a66ea30b) (hts _ m_ccb01543) (hts _ m_b807310b) (xt_sgS (hts _ m_dcff08ea)).1 (xt_sgS (hts _ m_dcff08ea)).2 nm_Exact_withSign (g := F0 m 198 ls [.int 32, .long x2, .ref x0]) rfl (argsL := [.long x2, .int 32]) (rest := [.ref x0]) rfl rfl (by rw [hb]; exact (xb_d D_Exact_turnedInto 61 rfl))) (ok_Exact_withSign l hfl D A σ x2 32 h2 _ hw) (hml.trans hl.1.symm) (by rw [hb]; exact (xb_d D_Exact_turnedInto 61 rfl)) (Nat.le_of_ble_eq_true rfl) (Nat.le_of_ble_eq_true rfl) (Nat.le_of_ble_eq_true rfl) (show k + 0 ≤ MC by omega) (show n + 0 ≤ MS by omega) (xt_w1 hB.1 m_dcff08ea) (xt_cdOf hB.1 m_dcff08ea) (hts _ m_b807310b) hB hR hS hA (fun vv h6 H locs hq hEh6 hR hS => ?_) (fun XX ax h6 H locs hq hEh6 hex hR hS => ?_)
        · obtain ⟨r7, rfl, hw⟩ := hq
          have hw := hw hEh6
          have hE := hE.tr hEh6
          refine W.eq (g2 := F0 m 201 ls [.long r7, .ref x0]) rfl ?_
          refine lv_goto (tgt := 205) hx hb (xb_d D_Exact_turnedInto 62 rfl) rfl ?_
          exact am_Exact_turnedInto_L205 l hfl D A σ MC MS h0 Qr x4 r7 x0 h6 hw p e s m args below meth c hC H locs ls k n hE (lv_sub hl [3] rfl) hR hS (by omega) (by omega)
        · exact False.elim hq
  · exact False.elim hq

set_option maxHeartbeats 4000000 in
set_option maxRecDepth 100000 in
theorem am_Exact_turnedInto_L175 (l : Launch) (hfl : l.flags = pinnedFlags ++ [noTraceFlag]) (D : va_G) (A : Nat → Prop) (σ MC MS : Nat) (h0 : xb_H) (Qr : Int64 → xb_H → Prop) (y0 : Int64) (h : xb_H) (hw : w_Exact_turnedInto_L175 Qr y0 h) : xb_am l D A σ 6 MC MS h0 (fun v h => ∃ r, v = some (.long r) ∧ Qr r h) (fun _ _ => False) y_Exact_turnedInto.cls y_Exact_turnedInto.name b_Exact_turnedInto 5 ([] : List ExceptionTableEntry) (some .long) 175 [] [.long y0] h 0 0 := by
  unfold w_Exact_turnedInto_L175 at hw
  intro p e s m args below meth c hC H locs ls k n hE hl hR hS hk hn
  obtain ⟨hx, hb, hown, hlocks, htab, hml, hr, hB, hA, hnm⟩ := id hC
  have hts := hB.1.1.at args
  exact xb_lret hx hb hr hlocks (show k ≤ MC by omega) (show n ≤ MS by omega) hE hR hS (xb_d D_Exact_turnedInto 49 rfl) hw

set_option maxHeartbeats 4000000 in
set_option maxRecDepth 100000 in
theorem am_Exact_turnedInto_L160 (l : Launch) (hfl : l.flags = pinnedFlags ++ [noTraceFlag]) (D : va_G) (A : Nat → Prop) (σ MC MS : Nat) (h0 : xb_H) (Qr : Int64 → xb_H → Prop) (x2 : Int64) (x4 : Int32) (h : xb_H) (hw : w_Exact_turnedInto_L160 Qr x2 x4 h) : xb_am l D A σ 6 MC MS h0 (fun v h => ∃ r, v = some (.long r) ∧ Qr r h) (fun _ _ => False) y_Exact_turnedInto.cls y_Exact_turnedInto.name b_Exact_turnedInto 5 ([] : List ExceptionTableEntry) (some .long) 160 [(2, .long x2), (4, .int x4)] [] h 0 0 := by
  unfold w_Exact_turnedInto_L160 at hw
  intro p e s m args below meth c hC H locs ls k n hE hl hR hS hk hn
  obtain ⟨hx, hb, hown, hlocks, htab, hml, hr, hB, hA, hnm⟩ := id hC
  have hts := hB.1.1.at args
  refine lv_iload hx hb (xb_d D_Exact_turnedInto 42 rfl) (lv_at hl 1 rfl) ?_
  refine lv_if_eq (tgt := 174) hx hb (xb_d D_Exact_turnedInto 43 rfl) rfl (fun hc1 => ?_) (fun hc1 => ?_)
  · have hw := hw.1 hc1
    refine lv_lload_n hx hb (xb_d D_Exact_turnedInto 48 rfl) rfl (lv_at hl 0 rfl) ?_
    exact am_Exact_turnedInto_L175 l hfl D A σ MC MS h0 Qr x2 h hw p e s m args below meth c hC H locs ls k n hE (lv_sub hl [] rfl) hR hS (by omega) (by omega)
  · have hw := hw.2 hc1
    refine lv_lload_n hx hb (xb_d D_Exact_turnedInto 44 rfl) rfl (lv_at hl 0 rfl) ?_
    refine lv_bipush (v := 32) hx hb (xb_d D_Exact_turnedInto 45 rfl) (by decide) ?_
    refine xb_call (D := D) (A := A) (σ := σ) (h := h) (d := 2) (mc := 0) (ms := 0) (maxL := 3) (rest := []) (av := [.long x2, .int 32]) (fun T hT X => xt_invS X hx hown (hts _ m_a66ea30b) (hts _ m_ccb01543) (hts _ m_b807310b) (xt_sgS (hts _ m_dcff08ea)).1 (xt_sgS (hts _ m_dcff08ea)).2 nm_Exact_withSign (g := F0 m 168 ls [.int 32, .long x2]) rfl (argsL := [.long x2, .int 32]) (rest := []) rfl rfl (by rw [hb]; exact (xb_d D_Exact_turnedInto 46 rfl))) (ok_Exact_withSign l hfl D A σ x2 32 h _ hw) (hml.trans hl.1.symm) (by rw [hb]; exact (xb_d D_Exact_turnedInto 46 rfl)) (Nat.le_of_ble_eq_true rfl) (Nat.le_of_ble_eq_true rfl) (Nat.le_of_ble_eq_true rfl) (show k + 0 ≤ MC by omega) (show n + 0 ≤ MS by omega) (xt_w1 hB.1 m_dcff08ea) (xt_cdOf hB.1 m_dcff08ea) (hts _ m_b807310b) hB hR hS hA (fun vv h2 H locs hq hEh2 hR hS => ?_) (fun XX ax h2 H locs hq hEh2 hex hR hS => ?_)
    · obtain ⟨r3, rfl, hw⟩ := hq
      have hw := hw hEh2
      have hE := hE.tr hEh2
      refine W.eq (g2 := F0 m 171 ls [.long r3]) rfl ?_
      refine lv_goto (tgt := 175) hx hb (xb_d D_Exact_turnedInto 47 rfl) rfl ?_
      exact am_Exact_turnedInto_L175 l hfl D A σ MC MS h0 Qr r3 h2 hw p e s m args below meth c hC H locs ls k n hE (lv_sub hl [] rfl) hR hS (by omega) (by omega)
    · exact False.elim hq

set_option maxHeartbeats 4000000 in
set_option maxRecDepth 100000 in
theorem am_Exact_turnedInto_L82 (l : Launch) (hfl : l.flags = pinnedFlags ++ [noTraceFlag]) (D : va_G) (A : Nat → Prop) (σ MC MS : Nat) (h0 : xb_H) (Qr : Int64 → xb_H → Prop) (x0 : Nat) (x1 : Int32) (x2 : Int64) (x4 : Int32) (h : xb_H) (hw : w_Exact_turnedInto_L82 Qr x0 x1 x2 x4 h) : xb_am l D A σ 6 MC MS h0 (fun v h => ∃ r, v = some (.long r) ∧ Qr r h) (fun _ _ => False) y_Exact_turnedInto.cls y_Exact_turnedInto.name b_Exact_turnedInto 5 ([] : List ExceptionTableEntry) (some .long) 82 [(0, .ref x0), (1, .int x1), (2, .long x2), (4, .int x4)] [] h 0 0 := by
  unfold w_Exact_turnedInto_L82 at hw
  intro p e s m args below meth c hC H locs ls k n hE hl hR hS hk hn
  obtain ⟨hx, hb, hown, hlocks, htab, hml, hr, hB, hA, hnm⟩ := id hC
  have hts := hB.1.1.at args
  refine lv_iload_n hx hb (xb_d D_Exact_turnedInto 40 rfl) rfl (lv_at hl 1 rfl) ?_
  by_cases hc1 : x1 = 172
  · have hw := hw.1 hc1
    refine xt_numi hc1 ?_
    refine lv_tableIn (off := 77) (tgt := 160) hx hb (xb_d D_Exact_turnedInto 41 rfl) (by decide +kernel) (by decide +kernel) (by decide +kernel) (by decide) ?_
    exact am_Exact_turnedInto_L160 l hfl D A σ MC MS h0 Qr x2 x4 h hw p e s m args below meth c hC H locs ls k n hE (lv_sub hl [2, 3] rfl) hR hS (by omega) (by omega)
  have hw := hw.2
  by_cases hc2 : x1 = 173
  · have hw := hw.1 hc2
    refine xt_numi hc2 ?_
    refine lv_tableIn (off := 77) (tgt := 160) hx hb (xb_d D_Exact_turnedInto 41 rfl) (by decide +kernel) (by decide +kernel) (by decide +kernel) (by decide) ?_
    exact am_Exact_turnedInto_L160 l hfl D A σ MC MS h0 Qr x2 x4 h hw p e s m args below meth c hC H locs ls k n hE (lv_sub hl [2, 3] rfl) hR hS (by omega) (by omega)
  have hw := hw.2
  by_cases hc3 : x1 = 174
  · have hw := hw.1 hc3
    refine xt_numi hc3 ?_
    refine lv_tableIn (off := 204) (tgt := 287) hx hb (xb_d D_Exact_turnedInto 41 rfl) (by decide +kernel) (by decide +kernel) (by decide +kernel) (by decide) ?_
    exact am_Exact_turnedInto_L287 l hfl D A σ MC MS h0 Qr x2 h hw p e s m args below meth c hC H locs ls k n hE (lv_sub hl [2] rfl) hR hS (by omega) (by omega)
  have hw := hw.2
  by_cases hc4 : x1 = 175
  · have hw := hw.1 hc4
    refine xt_numi hc4 ?_
    refine lv_tableIn (off := 204) (tgt := 287) hx hb (xb_d D_Exact_turnedInto 41 rfl) (by decide +kernel) (by decide +kernel) (by decide +kernel) (by decide) ?_
    exact am_Exact_turnedInto_L287 l hfl D A σ MC MS h0 Qr x2 h hw p e s m args below meth c hC H locs ls k n hE (lv_sub hl [2] rfl) hR hS (by omega) (by omega)
  have hw := hw.2
  by_cases hc5 : x1 = 176
  · have hw := hw.1 hc5
    refine xt_numi hc5 ?_
    refine lv_tableIn (off := 204) (tgt := 287) hx hb (xb_d D_Exact_turnedInto 41 rfl) (by decide +kernel) (by decide +kernel) (by decide +kernel) (by decide) ?_
    exact am_Exact_turnedInto_L287 l hfl D A σ MC MS h0 Qr x2 h hw p e s m args below meth c hC H locs ls k n hE (lv_sub hl [2] rfl) hR hS (by omega) (by omega)
  have hw := hw.2
  by_cases hc6 : x1 = 177
  · have hw := hw.1 hc6
    refine xt_numi hc6 ?_
    refine lv_tableIn (off := 204) (tgt := 287) hx hb (xb_d D_Exact_turnedInto 41 rfl) (by decide +kernel) (by decide +kernel) (by decide +kernel) (by decide) ?_
    exact am_Exact_turnedInto_L287 l hfl D A σ MC MS h0 Qr x2 h hw p e s m args below meth c hC H locs ls k n hE (lv_sub hl [2] rfl) hR hS (by omega) (by omega)
  have hw := hw.2
  by_cases hc7 : x1 = 178
  · have hw := hw.1 hc7
    refine xt_numi hc7 ?_
    refine lv_tableIn (off := 93) (tgt := 176) hx hb (xb_d D_Exact_turnedInto 41 rfl) (by decide +kernel) (by decide +kernel) (by decide +kernel) (by decide) ?_
    exact am_Exact_turnedInto_L176 l hfl D A σ MC MS h0 Qr x0 x1 x2 x4 h hw p e s m args below meth c hC H locs ls k n hE (lv_sub hl [0, 1, 2, 3] rfl) hR hS (by omega) (by omega)
  have hw := hw.2
  by_cases hc8 : x1 = 179
  · have hw := hw.1 hc8
    refine xt_numi hc8 ?_
    refine lv_tableIn (off := 93) (tgt := 176) hx hb (xb_d D_Exact_turnedInto 41 rfl) (by decide +kernel) (by decide +kernel) (by decide +kernel) (by decide) ?_
    exact am_Exact_turnedInto_L176 l hfl D A σ MC MS h0 Qr x0 x1 x2 x4 h hw p e s m args below meth c hC H locs ls k n hE (lv_sub hl [0, 1, 2, 3] rfl) hR hS (by omega) (by omega)
  have hw := hw.2
  by_cases hc9 : x1 = 180
  · have hw := hw.1 hc9
    refine xt_numi hc9 ?_
    refine lv_tableIn (off := 93) (tgt := 176) hx hb (xb_d D_Exact_turnedInto 41 rfl) (by decide +kernel) (by decide +kernel) (by decide +kernel) (by decide) ?_
    exact am_Exact_turnedInto_L176 l hfl D A σ MC MS h0 Qr x0 x1 x2 x4 h hw p e s m args below meth c hC H locs ls k n hE (lv_sub hl [0, 1, 2, 3] rfl) hR hS (by omega) (by omega)
  have hw := hw.2
  by_cases hc10 : x1 = 181
  · have hw := hw.1 hc10
    refine xt_numi hc10 ?_
    refine lv_tableIn (off := 93) (tgt := 176) hx hb (xb_d D_Exact_turnedInto 41 rfl) (by decide +kernel) (by decide +kernel) (by decide +kernel) (by decide) ?_
    exact am_Exact_turnedInto_L176 l hfl D A σ MC MS h0 Qr x0 x1 x2 x4 h hw p e s m args below meth c hC H locs ls k n hE (lv_sub hl [0, 1, 2, 3] rfl) hR hS (by omega) (by omega)
  have hw := hw.2
  by_cases hc11 : x1 = 182
  · have hw := hw.1 hc11
    refine xt_numi hc11 ?_
    refine lv_tableIn (off := 166) (tgt := 249) hx hb (xb_d D_Exact_turnedInto 41 rfl) (by decide +kernel) (by decide +kernel) (by decide +kernel) (by decide) ?_
    exact am_Exact_turnedInto_L249 l hfl D A σ MC MS h0 Qr x0 x1 x2 h hw p e s m args below meth c hC H locs ls k n hE (lv_sub hl [0, 1, 2] rfl) hR hS (by omega) (by omega)
  have hw := hw.2
  by_cases hc12 : x1 = 183
  · have hw := hw.1 hc12
    refine xt_numi hc12 ?_
    refine lv_tableIn (off := 128) (tgt := 211) hx hb (xb_d D_Exact_turnedInto 41 rfl) (by decide +kernel) (by decide +kernel) (by decide +kernel) (by decide) ?_
    exact am_Exact_turnedInto_L211 l hfl D A σ MC MS h0 Qr x0 x1 x2 x4 h hw p e s m args below meth c hC H locs ls k n hE (lv_sub hl [0, 1, 2, 3] rfl) hR hS (by omega) (by omega)
  have hw := hw.2
  by_cases hc13 : x1 = 184
  · have hw := hw.1 hc13
    refine xt_numi hc13 ?_
    refine lv_tableIn (off := 128) (tgt := 211) hx hb (xb_d D_Exact_turnedInto 41 rfl) (by decide +kernel) (by decide +kernel) (by decide +kernel) (by decide) ?_
    exact am_Exact_turnedInto_L211 l hfl D A σ MC MS h0 Qr x0 x1 x2 x4 h hw p e s m args below meth c hC H locs ls k n hE (lv_sub hl [0, 1, 2, 3] rfl) hR hS (by omega) (by omega)
  have hw := hw.2
  by_cases hc14 : x1 = 185
  · have hw := hw.1 hc14
    refine xt_numi hc14 ?_
    refine lv_tableIn (off := 128) (tgt := 211) hx hb (xb_d D_Exact_turnedInto 41 rfl) (by decide +kernel) (by decide +kernel) (by decide +kernel) (by decide) ?_
    exact am_Exact_turnedInto_L211 l hfl D A σ MC MS h0 Qr x0 x1 x2 x4 h hw p e s m args below meth c hC H locs ls k n hE (lv_sub hl [0, 1, 2, 3] rfl) hR hS (by omega) (by omega)
  have hw := hw.2
  by_cases hc15 : x1 = 186
  · have hw := hw.1 hc15
    refine xt_numi hc15 ?_
    refine lv_tableIn (off := 128) (tgt := 211) hx hb (xb_d D_Exact_turnedInto 41 rfl) (by decide +kernel) (by decide +kernel) (by decide +kernel) (by decide) ?_
    exact am_Exact_turnedInto_L211 l hfl D A σ MC MS h0 Qr x0 x1 x2 x4 h hw p e s m args below meth c hC H locs ls k n hE (lv_sub hl [0, 1, 2, 3] rfl) hR hS (by omega) (by omega)
  have hw := hw.2
  by_cases hc16 : x1 = 187
  · have hw := hw.1 hc16
    refine xt_numi hc16 ?_
    refine lv_tableIn (off := 166) (tgt := 249) hx hb (xb_d D_Exact_turnedInto 41 rfl) (by decide +kernel) (by decide +kernel) (by decide +kernel) (by decide) ?_
    exact am_Exact_turnedInto_L249 l hfl D A σ MC MS h0 Qr x0 x1 x2 h hw p e s m args below meth c hC H locs ls k n hE (lv_sub hl [0, 1, 2] rfl) hR hS (by omega) (by omega)
  have hw := hw.2
  have hw := hw hc1 hc2 hc3 hc4 hc5 hc6 hc7 hc8 hc9 hc10 hc11 hc12 hc13 hc14 hc15 hc16
  refine lv_tableOut (tgt := 287) hx hb (xb_d D_Exact_turnedInto 41 rfl) (by have a0 := xb_nl (172) 172 (by decide) hc1; have a1 := xb_nl (173) 173 (by decide) hc2; have a2 := xb_nl (174) 174 (by decide) hc3; have a3 := xb_nl (175) 175 (by decide) hc4; have a4 := xb_nl (176) 176 (by decide) hc5; have a5 := xb_nl (177) 177 (by decide) hc6; have a6 := xb_nl (178) 178 (by decide) hc7; have a7 := xb_nl (179) 179 (by decide) hc8; have a8 := xb_nl (180) 180 (by decide) hc9; have a9 := xb_nl (181) 181 (by decide) hc10; have a10 := xb_nl (182) 182 (by decide) hc11; have a11 := xb_nl (183) 183 (by decide) hc12; have a12 := xb_nl (184) 184 (by decide) hc13; have a13 := xb_nl (185) 185 (by decide) hc14; have a14 := xb_nl (186) 186 (by decide) hc15; have a15 := xb_nl (187) 187 (by decide) hc16; omega) (by decide) ?_
  exact am_Exact_turnedInto_L287 l hfl D A σ MC MS h0 Qr x2 h hw p e s m args below meth c hC H locs ls k n hE (lv_sub hl [2] rfl) hR hS (by omega) (by omega)

set_option maxHeartbeats 4000000 in
set_option maxRecDepth 100000 in
theorem am_Exact_turnedInto_L76 (l : Launch) (hfl : l.flags = pinnedFlags ++ [noTraceFlag]) (D : va_G) (A : Nat → Prop) (σ MC MS : Nat) (h0 : xb_H) (Qr : Int64 → xb_H → Prop) (x4 : Int32) (y0 : Int32) (y1 : Int64) (y2 : Nat) (h : xb_H) (hw : w_Exact_turnedInto_L76 Qr x4 y0 y1 y2 h) : xb_am l D A σ 6 MC MS h0 (fun v h => ∃ r, v = some (.long r) ∧ Qr r h) (fun _ _ => False) y_Exact_turnedInto.cls y_Exact_turnedInto.name b_Exact_turnedInto 5 ([] : List ExceptionTableEntry) (some .long) 76 [(4, .int x4)] [.int y0, .long y1, .ref y2] h 0 0 := by
  unfold w_Exact_turnedInto_L76 at hw
  intro p e s m args below meth c hC H locs ls k n hE hl hR hS hk hn
  obtain ⟨hx, hb, hown, hlocks, htab, hml, hr, hB, hA, hnm⟩ := id hC
  have hts := hB.1.1.at args
  refine lv_iload hx hb (xb_d D_Exact_turnedInto 37 rfl) (lv_at hl 0 rfl) ?_
  obtain ⟨hk1, hw⟩ := hw
  refine xb_call (D := D) (A := A) (σ := σ) (h := h) (d := 5) (mc := 0) (ms := 0) (maxL := 10) (rest := []) (av := [.ref y2, .long y1, .int y0, .int x4]) (fun T hT X => by obtain ⟨cb, r1, r2, r3⟩ := xb_recv (ci := 9) hR rfl hk1 (by decide); exact xt_invV X hx hown (hts _ m_b050622d) (hts _ m_ab5ee0c1) (hts _ m_d7109498) (xt_sigOf (hts _ m_5411d610)) nm_Exact_cut (by rw [hT]; exact r1) r2 r3 (g := F0 m 78 ls [.int x4, .int y0, .long y1, .ref y2]) rfl (argsL := [.long y1, .int y0, .int x4]) (rest := []) rfl rfl (by rw [hb]; exact (xb_d D_Exact_turnedInto 38 rfl))) (ok_Exact_cut l hfl D A σ y2 y1 y0 x4 h _ hw) (hml.trans hl.1.symm) (by rw [hb]; exact (xb_d D_Exact_turnedInto 38 rfl)) (Nat.le_of_ble_eq_true rfl) (Nat.le_of_ble_eq_true rfl) (Nat.le_of_ble_eq_true rfl) (show k + 0 ≤ MC by omega) (show n + 0 ≤ MS by omega) (xt_w1 hB.1 m_5411d610) (xt_cdOf hB.1 m_5411d610) (hts _ m_b807310b) hB hR hS hA (fun vv h2 H locs hq hEh2 hR hS => ?_) (fun XX ax h2 H locs hq hEh2 hex hR hS => ?_)
  · obtain ⟨r3, rfl, hw⟩ := hq
    have hw := hw hEh2
    have hE := hE.tr hEh2
    refine W.eq (g2 := F0 m 81 ls [.long r3]) rfl ?_
    exact xb_lret hx hb hr hlocks (show k ≤ MC by omega) (show n ≤ MS by omega) hE hR hS (xb_d D_Exact_turnedInto 39 rfl) hw
  · exact False.elim hq

set_option maxHeartbeats 4000000 in
set_option maxRecDepth 100000 in
theorem am_Exact_turnedInto_L57 (l : Launch) (hfl : l.flags = pinnedFlags ++ [noTraceFlag]) (D : va_G) (A : Nat → Prop) (σ MC MS : Nat) (h0 : xb_H) (Qr : Int64 → xb_H → Prop) (x0 : Nat) (x1 : Int32) (x2 : Int64) (x4 : Int32) (y0 : Int32) (y1 : Nat) (h : xb_H) (hw : w_Exact_turnedInto_L57 Qr x0 x1 x2 x4 y0 y1 h) : xb_am l D A σ 6 MC MS h0 (fun v h => ∃ r, v = some (.long r) ∧ Qr r h) (fun _ _ => False) y_Exact_turnedInto.cls y_Exact_turnedInto.name b_Exact_turnedInto 5 ([] : List ExceptionTableEntry) (some .long) 57 [(0, .ref x0), (1, .int x1), (2, .long x2), (4, .int x4)] [.int y0, .ref y1] h 0 0 := by
  unfold w_Exact_turnedInto_L57 at hw
  intro p e s m args below meth c hC H locs ls k n hE hl hR hS hk hn
  obtain ⟨hx, hb, hown, hlocks, htab, hml, hr, hB, hA, hnm⟩ := id hC
  have hts := hB.1.1.at args
  obtain ⟨hk1, hw⟩ := hw
  refine xb_call (D := D) (A := A) (σ := σ) (h := h) (d := 2) (mc := 0) (ms := 0) (maxL := 2) (rest := []) (av := [.ref y1, .int y0]) (fun T hT X => by obtain ⟨cb, r1, r2, r3⟩ := xb_recv (ci := 9) hR rfl hk1 (by decide); exact xt_invV X hx hown (hts _ m_c71b9470) (hts _ m_83158a9f) (hts _ m_b726eab7) (xt_sigOf (hts _ m_e24dd969)) nm_Exact_format (by rw [hT]; exact r1) r2 r3 (g := F0 m 57 ls [.int y0, .ref y1]) rfl (argsL := [.int y0]) (rest := []) rfl rfl (by rw [hb]; exact (xb_d D_Exact_turnedInto 28 rfl))) (ok_Exact_format l hfl D A σ y1 y0 h _ hw) (hml.trans hl.1.symm) (by rw [hb]; exact (xb_d D_Exact_turnedInto 28 rfl)) (Nat.le_of_ble_eq_true rfl) (Nat.le_of_ble_eq_true rfl) (Nat.le_of_ble_eq_true rfl) (show k + 0 ≤ MC by omega) (show n + 0 ≤ MS by omega) (xt_w1 hB.1 m_e24dd969) (xt_cdOf hB.1 m_e24dd969) (hts _ m_b807310b) hB hR hS hA (fun vv h2 H locs hq hEh2 hR hS => ?_) (fun XX ax h2 H locs hq hEh2 hex hR hS => ?_)
  · obtain ⟨rfl, hw⟩ := hq
    have hw := hw hEh2
    have hE := hE.tr hEh2
    refine W.eq (g2 := F0 m 60 ls []) rfl ?_
    refine lv_aload_n hx hb (xb_d D_Exact_turnedInto 29 rfl) rfl (lv_at hl 0 rfl) ?_
    refine lv_lload_n hx hb (xb_d D_Exact_turnedInto 30 rfl) rfl (lv_at hl 2 rfl) ?_
    refine lv_iload_n hx hb (xb_d D_Exact_turnedInto 31 rfl) rfl (lv_at hl 1 rfl) ?_
    refine lv_sipush (v := 172) hx hb (xb_d D_Exact_turnedInto 32 rfl) (by decide) ?_
    refine lv_icmp_ge (tgt := 74) hx hb (xb_d D_Exact_turnedInto 33 rfl) rfl (fun hc4 => ?_) (fun hc4 => ?_)
    · have hw := hw.1 hc4
      refine lv_bipush (v := 64) hx hb (xb_d D_Exact_turnedInto 36 rfl) (by decide) ?_
      exact am_Exact_turnedInto_L76 l hfl D A σ MC MS h0 Qr x4 64 x2 x0 h2 hw p e s m args below meth c hC H locs ls k n hE (lv_sub hl [3] rfl) hR hS (by omega) (by omega)
    · have hw := hw.2 hc4
      refine lv_bipush (v := 32) hx hb (xb_d D_Exact_turnedInto 34 rfl) (by decide) ?_
      refine lv_goto (tgt := 76) hx hb (xb_d D_Exact_turnedInto 35 rfl) rfl ?_
      exact am_Exact_turnedInto_L76 l hfl D A σ MC MS h0 Qr x4 32 x2 x0 h2 hw p e s m args below meth c hC H locs ls k n hE (lv_sub hl [3] rfl) hR hS (by omega) (by omega)
  · exact False.elim hq

set_option maxHeartbeats 4000000 in
set_option maxRecDepth 100000 in
theorem am_Exact_turnedInto_L41 (l : Launch) (hfl : l.flags = pinnedFlags ++ [noTraceFlag]) (D : va_G) (A : Nat → Prop) (σ MC MS : Nat) (h0 : xb_H) (Qr : Int64 → xb_H → Prop) (x0 : Nat) (x1 : Int32) (x2 : Int64) (x4 : Int32) (h : xb_H) (hw : w_Exact_turnedInto_L41 Qr x0 x1 x2 x4 h) : xb_am l D A σ 6 MC MS h0 (fun v h => ∃ r, v = some (.long r) ∧ Qr r h) (fun _ _ => False) y_Exact_turnedInto.cls y_Exact_turnedInto.name b_Exact_turnedInto 5 ([] : List ExceptionTableEntry) (some .long) 41 [(0, .ref x0), (1, .int x1), (2, .long x2), (4, .int x4)] [] h 0 0 := by
  unfold w_Exact_turnedInto_L41 at hw
  intro p e s m args below meth c hC H locs ls k n hE hl hR hS hk hn
  obtain ⟨hx, hb, hown, hlocks, htab, hml, hr, hB, hA, hnm⟩ := id hC
  have hts := hB.1.1.at args
  refine lv_aload_n hx hb (xb_d D_Exact_turnedInto 20 rfl) rfl (lv_at hl 0 rfl) ?_
  refine lv_iload_n hx hb (xb_d D_Exact_turnedInto 21 rfl) rfl (lv_at hl 1 rfl) ?_
  refine xb_call (D := D) (A := A) (σ := σ) (h := h) (d := 3) (mc := 0) (ms := 0) (maxL := 1) (rest := [.ref x0]) (av := [.int x1]) (fun T hT X => xt_invS X hx hown (hts _ m_03c53ef9) (hts _ m_69a81f16) (hts _ m_b807310b) (xt_sgS (hts _ m_4328253a)).1 (xt_sgS (hts _ m_4328253a)).2 nm_Exact_first (g := F0 m 43 ls [.int x1, .ref x0]) rfl (argsL := [.int x1]) (rest := [.ref x0]) rfl rfl (by rw [hb]; exact (xb_d D_Exact_turnedInto 22 rfl))) (ok_Exact_first l hfl D A σ x1 h _ hw) (hml.trans hl.1.symm) (by rw [hb]; exact (xb_d D_Exact_turnedInto 22 rfl)) (Nat.le_of_ble_eq_true rfl) (Nat.le_of_ble_eq_true rfl) (Nat.le_of_ble_eq_true rfl) (show k + 0 ≤ MC by omega) (show n + 0 ≤ MS by omega) (xt_w1 hB.1 m_4328253a) (xt_cdOf hB.1 m_4328253a) (hts _ m_b807310b) hB hR hS hA (fun vv h1 H locs hq hEh1 hR hS => ?_) (fun XX ax h1 H locs hq hEh1 hex hR hS => ?_)
  · obtain ⟨r2, rfl, hw⟩ := hq
    have hw := hw hEh1
    have hE := hE.tr hEh1
    refine W.eq (g2 := F0 m 46 ls [.int r2, .ref x0]) rfl ?_
    refine lv_iconst (v := 2) hx hb (xb_d D_Exact_turnedInto 23 rfl) (by decide) ?_
    refine lv_icmp_ne (tgt := 55) hx hb (xb_d D_Exact_turnedInto 24 rfl) rfl (fun hc3 => ?_) (fun hc3 => ?_)
    · have hw := hw.1 hc3
      refine lv_bipush (v := 64) hx hb (xb_d D_Exact_turnedInto 27 rfl) (by decide) ?_
      exact am_Exact_turnedInto_L57 l hfl D A σ MC MS h0 Qr x0 x1 x2 x4 64 x0 h1 hw p e s m args below meth c hC H locs ls k n hE (lv_sub hl [0, 1, 2, 3] rfl) hR hS (by omega) (by omega)
    · have hw := hw.2 hc3
      refine lv_bipush (v := 32) hx hb (xb_d D_Exact_turnedInto 25 rfl) (by decide) ?_
      refine lv_goto (tgt := 57) hx hb (xb_d D_Exact_turnedInto 26 rfl) rfl ?_
      exact am_Exact_turnedInto_L57 l hfl D A σ MC MS h0 Qr x0 x1 x2 x4 32 x0 h1 hw p e s m args below meth c hC H locs ls k n hE (lv_sub hl [0, 1, 2, 3] rfl) hR hS (by omega) (by omega)
  · exact False.elim hq

set_option maxHeartbeats 4000000 in
set_option maxRecDepth 100000 in
theorem am_Exact_turnedInto_L27 (l : Launch) (hfl : l.flags = pinnedFlags ++ [noTraceFlag]) (D : va_G) (A : Nat → Prop) (σ MC MS : Nat) (h0 : xb_H) (Qr : Int64 → xb_H → Prop) (x0 : Nat) (x1 : Int32) (x2 : Int64) (x4 : Int32) (h : xb_H) (hw : w_Exact_turnedInto_L27 Qr x0 x1 x2 x4 h) : xb_am l D A σ 6 MC MS h0 (fun v h => ∃ r, v = some (.long r) ∧ Qr r h) (fun _ _ => False) y_Exact_turnedInto.cls y_Exact_turnedInto.name b_Exact_turnedInto 5 ([] : List ExceptionTableEntry) (some .long) 27 [(0, .ref x0), (1, .int x1), (2, .long x2), (4, .int x4)] [] h 0 0 := by
  unfold w_Exact_turnedInto_L27 at hw
  intro p e s m args below meth c hC H locs ls k n hE hl hR hS hk hn
  obtain ⟨hx, hb, hown, hlocks, htab, hml, hr, hB, hA, hnm⟩ := id hC
  have hts := hB.1.1.at args
  refine lv_iload_n hx hb (xb_d D_Exact_turnedInto 14 rfl) rfl (lv_at hl 1 rfl) ?_
  refine lv_sipush (v := 174) hx hb (xb_d D_Exact_turnedInto 15 rfl) (by decide) ?_
  refine lv_icmp_lt (tgt := 82) hx hb (xb_d D_Exact_turnedInto 16 rfl) rfl (fun hc1 => ?_) (fun hc1 => ?_)
  · have hw := hw.1 hc1
    exact am_Exact_turnedInto_L82 l hfl D A σ MC MS h0 Qr x0 x1 x2 x4 h hw p e s m args below meth c hC H locs ls k n hE (lv_sub hl [0, 1, 2, 3] rfl) hR hS (by omega) (by omega)
  · have hw := hw.2 hc1
    refine lv_iload_n hx hb (xb_d D_Exact_turnedInto 17 rfl) rfl (lv_at hl 1 rfl) ?_
    refine lv_sipush (v := 177) hx hb (xb_d D_Exact_turnedInto 18 rfl) (by decide) ?_
    refine lv_icmp_gt (tgt := 82) hx hb (xb_d D_Exact_turnedInto 19 rfl) rfl (fun hc2 => ?_) (fun hc2 => ?_)
    · have hw := hw.1 hc2
      exact am_Exact_turnedInto_L82 l hfl D A σ MC MS h0 Qr x0 x1 x2 x4 h hw p e s m args below meth c hC H locs ls k n hE (lv_sub hl [0, 1, 2, 3] rfl) hR hS (by omega) (by omega)
    · have hw := hw.2 hc2
      exact am_Exact_turnedInto_L41 l hfl D A σ MC MS h0 Qr x0 x1 x2 x4 h hw p e s m args below meth c hC H locs ls k n hE (lv_sub hl [0, 1, 2, 3] rfl) hR hS (by omega) (by omega)

set_option maxHeartbeats 4000000 in
set_option maxRecDepth 100000 in
theorem am_Exact_turnedInto_L11 (l : Launch) (hfl : l.flags = pinnedFlags ++ [noTraceFlag]) (D : va_G) (A : Nat → Prop) (σ MC MS : Nat) (h0 : xb_H) (Qr : Int64 → xb_H → Prop) (x0 : Nat) (x1 : Int32) (x2 : Int64) (y0 : Int32) (h : xb_H) (hw : w_Exact_turnedInto_L11 Qr x0 x1 x2 y0 h) : xb_am l D A σ 6 MC MS h0 (fun v h => ∃ r, v = some (.long r) ∧ Qr r h) (fun _ _ => False) y_Exact_turnedInto.cls y_Exact_turnedInto.name b_Exact_turnedInto 5 ([] : List ExceptionTableEntry) (some .long) 11 [(0, .ref x0), (1, .int x1), (2, .long x2)] [.int y0] h 0 0 := by
  unfold w_Exact_turnedInto_L11 at hw
  intro p e s m args below meth c hC H locs ls k n hE hl hR hS hk hn
  obtain ⟨hx, hb, hown, hlocks, htab, hml, hr, hB, hA, hnm⟩ := id hC
  have hts := hB.1.1.at args
  refine lv_istore hx hb (xb_d D_Exact_turnedInto 7 rfl) hl (by decide) rfl (fun ls hl => ?_)
  have hl : lv_has ls 5 [(4, .int y0), (0, .ref x0), (1, .int x1), (2, .long x2)] := hl
  refine lv_iload_n hx hb (xb_d D_Exact_turnedInto 8 rfl) rfl (lv_at hl 2 rfl) ?_
  refine lv_sipush (v := 168) hx hb (xb_d D_Exact_turnedInto 9 rfl) (by decide) ?_
  refine lv_icmp_lt (tgt := 27) hx hb (xb_d D_Exact_turnedInto 10 rfl) rfl (fun hc1 => ?_) (fun hc1 => ?_)
  · have hw := hw.1 hc1
    exact am_Exact_turnedInto_L27 l hfl D A σ MC MS h0 Qr x0 x1 x2 y0 h hw p e s m args below meth c hC H locs ls k n hE (lv_sub hl [1, 2, 3, 0] rfl) hR hS (by omega) (by omega)
  · have hw := hw.2 hc1
    refine lv_iload_n hx hb (xb_d D_Exact_turnedInto 11 rfl) rfl (lv_at hl 2 rfl) ?_
    refine lv_sipush (v := 171) hx hb (xb_d D_Exact_turnedInto 12 rfl) (by decide) ?_
    refine lv_icmp_le (tgt := 41) hx hb (xb_d D_Exact_turnedInto 13 rfl) rfl (fun hc2 => ?_) (fun hc2 => ?_)
    · have hw := hw.1 hc2
      exact am_Exact_turnedInto_L41 l hfl D A σ MC MS h0 Qr x0 x1 x2 y0 h hw p e s m args below meth c hC H locs ls k n hE (lv_sub hl [1, 2, 3, 0] rfl) hR hS (by omega) (by omega)
    · have hw := hw.2 hc2
      exact am_Exact_turnedInto_L27 l hfl D A σ MC MS h0 Qr x0 x1 x2 y0 h hw p e s m args below meth c hC H locs ls k n hE (lv_sub hl [1, 2, 3, 0] rfl) hR hS (by omega) (by omega)

set_option maxHeartbeats 4000000 in
set_option maxRecDepth 100000 in
theorem ok_Exact_turnedInto (l : Launch) (hfl : l.flags = pinnedFlags ++ [noTraceFlag]) (D : va_G) (A : Nat → Prop) (σ : Nat) (x0 : Nat) (x1 : Int32) (x2 : Int64) (h : xb_H) (Qr : Int64 → xb_H → Prop) (hw : w_Exact_turnedInto x0 x1 x2 h Qr) : xt_Met l y_Exact_turnedInto [.code y_Exact_turnedInto b_Exact_turnedInto 5 (some .long)] (xb_rm 6 0 0) (xb_Pc D A σ h [.ref x0, .int x1, .long x2]) (xb_Qc D A h (fun v h => ∃ r, v = some (.long r) ∧ Qr r h) (fun _ _ => False)) 0 0 A := by
  refine xb_ofAm (cc := b_Exact_turnedInto) (by decide) (Nat.le_of_ble_eq_true rfl) ?_
  unfold w_Exact_turnedInto at hw
  show xb_am l D A σ 6 0 0 h (fun v h => ∃ r, v = some (.long r) ∧ Qr r h) (fun _ _ => False) y_Exact_turnedInto.cls y_Exact_turnedInto.name b_Exact_turnedInto 5 ([] : List ExceptionTableEntry) (some .long) 0 [(0, .ref x0), (1, .int x1), (2, .long x2)] [] h 0 0
  obtain ⟨MC, hMC⟩ : ∃ x, x = 0 := ⟨_, rfl⟩
  obtain ⟨MS, hMS⟩ : ∃ x, x = 0 := ⟨_, rfl⟩
  rw [show xb_am l D A σ 6 0 0 = xb_am l D A σ 6 MC MS by rw [hMC, hMS]]
  obtain ⟨h0, hh0⟩ : ∃ x, x = h := ⟨_, rfl⟩
  rw [show xb_am l D A σ 6 MC MS h = xb_am l D A σ 6 MC MS h0 by rw [hh0]]
  intro p e s m args below meth c hC H locs ls k n hE hl hR hS hk hn
  obtain ⟨hx, hb, hown, hlocks, htab, hml, hr, hB, hA, hnm⟩ := id hC
  have hts := hB.1.1.at args
  refine lv_iload_n hx hb (xb_d D_Exact_turnedInto 0 rfl) rfl (lv_at hl 1 rfl) ?_
  refine lv_iconst (v := 2) hx hb (xb_d D_Exact_turnedInto 1 rfl) (by decide) ?_
  refine lv_irem hx hb (xb_d D_Exact_turnedInto 2 rfl) (by decide) ?_
  refine lv_if_ne (tgt := 10) hx hb (xb_d D_Exact_turnedInto 3 rfl) rfl (fun hc1 => ?_) (fun hc1 => ?_)
  · have hw := hw.1 hc1
    refine lv_iconst (v := 0) hx hb (xb_d D_Exact_turnedInto 6 rfl) (by decide) ?_
    exact am_Exact_turnedInto_L11 l hfl D A σ MC MS h0 Qr x0 x1 x2 0 h hw p e s m args below meth c hC H locs ls k n hE (lv_sub hl [0, 1, 2] rfl) hR hS (by omega) (by omega)
  · have hw := hw.2 hc1
    refine lv_iconst (v := 1) hx hb (xb_d D_Exact_turnedInto 4 rfl) (by decide) ?_
    refine lv_goto (tgt := 11) hx hb (xb_d D_Exact_turnedInto 5 rfl) rfl ?_
    exact am_Exact_turnedInto_L11 l hfl D A σ MC MS h0 Qr x0 x1 x2 1 h hw p e s m args below meth c hC H locs ls k n hE (lv_sub hl [0, 1, 2] rfl) hR hS (by omega) (by omega)

theorem m_9f27c74a : (.methodLink "StackHost$Checker" 212 y_Row_setAt : Cond) ∈ xt_tbl := xt_in (xt_t6 (List.mem_of_getElem? (i := 52) (by decide +kernel))) (by decide +kernel)
theorem m_ae2d3893 : (.instanceMethod y_Row_setAt : Cond) ∈ xt_tbl := xt_in (xt_t6 (List.mem_of_getElem? (i := 53) (by decide +kernel))) (by decide +kernel)
theorem m_583fd7d0 : (.selects "StackHost$Row" y_Row_setAt y_Row_setAt : Cond) ∈ xt_tbl := xt_in (xt_t6 (List.mem_of_getElem? (i := 54) (by decide +kernel))) (by decide +kernel)
theorem m_2325caf0 : (.code y_Row_setAt b_Row_setAt 5 none : Cond) ∈ xt_tbl := xt_in (xt_t6 (List.mem_of_getElem? (i := 55) (by decide +kernel))) (by decide +kernel)
theorem m_852a35b5 : (.methodLink "StackHost$Checker" 206 y_Checker_checkInstruction : Cond) ∈ xt_tbl := xt_in (xt_t5 (List.mem_of_getElem? (i := 208) (by decide +kernel))) (by decide +kernel)
theorem m_a1edd8e0 : (.instanceMethod y_Checker_checkInstruction : Cond) ∈ xt_tbl := xt_in (xt_t5 (List.mem_of_getElem? (i := 210) (by decide +kernel))) (by decide +kernel)
theorem m_145ca286 : (.selects "StackHost$Checker" y_Checker_checkInstruction y_Checker_checkInstruction : Cond) ∈ xt_tbl := xt_in (xt_v3 (q := (⟨"StackHost$Checker", "checkInstruction", "(I)V"⟩, 17)) (List.mem_of_getElem? (i := 15) (by decide +kernel))) (by decide +kernel)
theorem m_ce4eed8b : (.code y_Checker_checkInstruction b_Checker_checkInstruction 2 none : Cond) ∈ xt_tbl := xt_in (xt_t5 (List.mem_of_getElem? (i := 211) (by decide +kernel))) (by decide +kernel)
theorem m_831fd048 : (.methodLink "StackHost$Checker" 209 y_StackModule_nextPlace : Cond) ∈ xt_tbl := xt_in (xt_t6 (List.mem_of_getElem? (i := 47) (by decide +kernel))) (by decide +kernel)
theorem m_7a084d8c : (.instanceMethod y_StackModule_nextPlace : Cond) ∈ xt_tbl := xt_in (xt_t6 (List.mem_of_getElem? (i := 48) (by decide +kernel))) (by decide +kernel)
theorem m_9dac82c4 : (.selects "StackHost$StackModule" y_StackModule_nextPlace y_StackModule_nextPlace : Cond) ∈ xt_tbl := xt_in (xt_t6 (List.mem_of_getElem? (i := 49) (by decide +kernel))) (by decide +kernel)
theorem m_a27a5692 : (.code y_StackModule_nextPlace b_StackModule_nextPlace 2 (some .int) : Cond) ∈ xt_tbl := xt_in (xt_t6 (List.mem_of_getElem? (i := 50) (by decide +kernel))) (by decide +kernel)
theorem m_a5f6609b : (.methodLink "StackHost$Checker" 184 y_Checker_spreadLocals : Cond) ∈ xt_tbl := xt_in (xt_t4 (List.mem_of_getElem? (i := 183) (by decide +kernel))) (by decide +kernel)
theorem m_687f9ec9 : (.instanceMethod y_Checker_spreadLocals : Cond) ∈ xt_tbl := xt_in (xt_t4 (List.mem_of_getElem? (i := 185) (by decide +kernel))) (by decide +kernel)
theorem m_20c611bd : (.selects "StackHost$Checker" y_Checker_spreadLocals y_Checker_spreadLocals : Cond) ∈ xt_tbl := xt_in (xt_v3 (q := (⟨"StackHost$Checker", "spreadLocals", "(I)V"⟩, 17)) (List.mem_of_getElem? (i := 13) (by decide +kernel))) (by decide +kernel)
theorem m_cbf63ef2 : (.code y_Checker_spreadLocals b_Checker_spreadLocals 5 none : Cond) ∈ xt_tbl := xt_in (xt_t4 (List.mem_of_getElem? (i := 186) (by decide +kernel))) (by decide +kernel)
theorem nm_Row_setAt : xt_nm y_Row_setAt 3 := ⟨by decide +kernel, by decide +kernel⟩
theorem nm_Checker_checkInstruction : xt_nm y_Checker_checkInstruction 1 := ⟨by decide +kernel, by decide +kernel⟩
theorem nm_StackModule_nextPlace : xt_nm y_StackModule_nextPlace 1 := ⟨by decide +kernel, by decide +kernel⟩
theorem nm_Checker_spreadLocals : xt_nm y_Checker_spreadLocals 1 := ⟨by decide +kernel, by decide +kernel⟩
set_option maxRecDepth 100000 in
def T_Checker_checkBody : List (Nat × Instr × Nat) := [(0, .aload_n 0, 1), (1, .aload_n 0, 1), (2, .getfield 38, 3), (5, .aload_n 0, 1), (6, .getfield 38, 3), (9, .getfield 131, 3), (12, .iconst 0, 1), (13, .iaload, 1), (14, .iload_n 1, 1), (15, .iadd, 1), (16, .invokevirtual 158, 3), (19, .putfield 181, 3), (22, .aload_n 0, 1), (23, .iload_n 1, 1), (24, .invokevirtual 184, 3), (27, .aload_n 0, 1), (28, .iconst 0, 1), (29, .putfield 187, 3), (32, .aload_n 0, 1), (33, .iconst 0, 1), (34, .putfield 190, 3), (37, .aload_n 0, 1), (38, .iconst 0, 1), (39, .putfield 193, 3), (42, .aload_n 0, 1), (43, .aload_n 0, 1), (44, .getfield 38, 3), (47, .getfield 73, 3), (50, .iload_n 1, 1), (51, .iconst 0, 1), (52, .invokevirtual 90, 3), (55, .putfield 196, 3), (58, .aload_n 0, 1), (59, .iconst 0, 1), (60, .iconst (-1), 1), (61, .aload_n 0, 1), (62, .getfield 38, 3), (65, .aload_n 0, 1), (66, .getfield 181, 3), (69, .invokevirtual 199, 3), (72, .aload_n 0, 1), (73, .getfield 38, 3), (76, .aload_n 0, 1), (77, .getfield 181, 3), (80, .invokevirtual 199, 3), (83, .invokevirtual 202, 3), (86, .iconst 0, 1), (87, .istore_n 2, 1), (88, .iload_n 2, 1), (89, .aload_n 0, 1), (90, .getfield 47, 3), (93, .arraylength, 1), (94, .if_icmp .ge 48, 3), (97, .aload_n 0, 1), (98, .getfield 193, 3), (101, .ifCond .le 41, 3), (104, .aload_n 0, 1), (105, .aload_n 0, 1), (106, .getfield 47, 3), (109, .aload_n 0, 1), (110, .getfield 196, 3), (113, .baload, 1), (114, .sipush 255, 3), (117, .iand, 1), (118, .invokevirtual 206, 3), (121, .aload_n 0, 1), (122, .aload_n 0, 1), (123, .getfield 38, 3), (126, .aload_n 0, 1), (127, .getfield 196, 3), (130, .invokevirtual 209, 3), (133, .putfield 196, 3), (136, .iinc 2 1, 3), (139, .goto (-51), 3), (142, .aload_n 0, 1), (143, .getfield 38, 3), (146, .getfield 73, 3), (149, .iload_n 1, 1), (150, .iconst 4, 1), (151, .aload_n 0, 1), (152, .getfield 190, 3), (155, .i2l, 1), (156, .invokevirtual 212, 3), (159, .return_, 1)]
theorem D_Checker_checkBody : ∀ q ∈ T_Checker_checkBody, decode b_Checker_checkBody q.1 = .ok (q.2.1, q.2.2) := by decide +kernel
def w_Checker_checkBody_L142 (Qr : xb_H → Prop) (Qt : String → xb_H → Prop) (x0 : Nat) (x1 : Int32) (h : xb_H) (bc : Nat) (bs : Nat) : Prop :=
    xb_k h x0 = 5 ∧ ∃ b2 : Nat, (xb_r h x0 0) = some b2 ∧ xb_k h b2 = 3 ∧ ∃ b4 : Nat, (xb_r h b2 11) = some b4 ∧ xb_k h b4 = 2 ∧ w_Row_setAt b4 x1 4 (Int32.toInt64 (xb_i h x0 5)) h (fun (h6 : xb_H) => xb_ext h h6 → Qr h6)

def w_Checker_checkBody_L88 (Qr : xb_H → Prop) (Qt : String → xb_H → Prop) : Nat → Nat → Int32 → Int32 → xb_H → Nat → Nat → Prop
  | 0, _, _, _, _, _, _ => False
  | n9 + 1, x0, x1, x2, h, bc, bs =>
    xb_k h x0 = 5 ∧ ∃ b2 : Nat, (xb_r h x0 1) = some b2 ∧ xb_k h b2 = 100 ∧ (((nI (xb_n h b2)) ≤ x2 → w_Checker_checkBody_L142 Qr Qt x0 x1 h bc bs) ∧ (¬ (nI (xb_n h b2)) ≤ x2 → (((xb_i h x0 16) ≤ (0 : Int32) → w_Checker_checkBody_L142 Qr Qt x0 x1 h bc bs) ∧ (¬ (xb_i h x0 16) ≤ (0 : Int32) → ∃ b6 : Nat, (xb_r h x0 1) = some b6 ∧ xb_k h b6 = 100 ∧ vp_in (xb_i h x0 9) (xb_n h b6) ∧ ∃ c11 sc11 : Nat, c11 ≤ bc ∧ sc11 ≤ bs ∧ w_Checker_checkInstruction x0 ((xb_i h b6 (Int32.toNatClampNeg (xb_i h x0 9))) &&& 255) h c11 sc11 (fun (h9 : xb_H) => xb_ext h h9 → ∃ b12 : Nat, (xb_r h9 x0 0) = some b12 ∧ xb_k h9 b12 = 3 ∧ w_StackModule_nextPlace b12 (xb_i h9 x0 9) h9 (fun (r15 : Int32) (h14 : xb_H) => xb_ext h9 h14 → ∀ h16 : xb_H, h16 = xb_I h14 x0 9 r15 → w_Checker_checkBody_L88 Qr Qt n9 x0 x1 (x2 + 1) h16 (bc - c11) (bs - sc11))) Qt))))

def w_Checker_checkBody (x0 : Nat) (x1 : Int32) (h : xb_H) (bc : Nat) (bs : Nat) (Qr : xb_H → Prop) (Qt : String → xb_H → Prop) : Prop :=
    xb_k h x0 = 5 ∧ ∃ b2 : Nat, (xb_r h x0 0) = some b2 ∧ ∃ b3 : Nat, (xb_r h x0 0) = some b3 ∧ xb_k h b3 = 3 ∧ ∃ b5 : Nat, (xb_r h b3 14) = some b5 ∧ xb_k h b5 = 102 ∧ vp_in 0 (xb_n h b5) ∧ xb_k h b2 = 3 ∧ w_StackModule_typeOf b2 ((xb_i h b5 0) + x1) h (fun (r10 : Int32) (h9 : xb_H) => xb_ext h h9 → ∀ h11 : xb_H, h11 = xb_I h9 x0 8 r10 → w_Checker_spreadLocals x0 x1 h11 (fun (h12 : xb_H) => xb_ext h11 h12 → ∀ h14 : xb_H, h14 = xb_I h12 x0 4 0 → ∀ h15 : xb_H, h15 = xb_I h14 x0 5 0 → ∀ h16 : xb_H, h16 = xb_I h15 x0 16 0 → ∃ b17 : Nat, (xb_r h16 x0 0) = some b17 ∧ xb_k h16 b17 = 3 ∧ ∃ b19 : Nat, (xb_r h16 b17 11) = some b19 ∧ xb_k h16 b19 = 2 ∧ w_Row_at b19 x1 0 h16 (fun (r22 : Int32) (h21 : xb_H) => xb_ext h16 h21 → ∀ h23 : xb_H, h23 = xb_I h21 x0 9 r22 → ∃ b24 : Nat, (xb_r h23 x0 0) = some b24 ∧ xb_k h23 b24 = 3 ∧ w_StackModule_resultType b24 (xb_i h23 x0 8) h23 (fun (r27 : Int32) (h26 : xb_H) => xb_ext h23 h26 → ∃ b28 : Nat, (xb_r h26 x0 0) = some b28 ∧ xb_k h26 b28 = 3 ∧ w_StackModule_resultType b28 (xb_i h26 x0 8) h26 (fun (r31 : Int32) (h30 : xb_H) => xb_ext h26 h30 → w_Checker_openThing x0 0 (-1) r27 r31 h30 (fun (h32 : xb_H) => xb_ext h30 h32 → (∃ n8 : Nat, w_Checker_checkBody_L88 Qr Qt n8 x0 x1 0 h32 bc bs)))))))

set_option maxHeartbeats 4000000 in
set_option maxRecDepth 100000 in
theorem am_Checker_checkBody_L142 (l : Launch) (hfl : l.flags = pinnedFlags ++ [noTraceFlag]) (D : va_G) (A : Nat → Prop) (σ MC MS : Nat) (h0 : xb_H) (Qr : xb_H → Prop) (Qt : String → xb_H → Prop) (x0 : Nat) (x1 : Int32) (h : xb_H) (bc : Nat) (bs : Nat) (hw : w_Checker_checkBody_L142 Qr Qt x0 x1 h bc bs) : xb_am l D A σ 7 MC MS h0 (fun v h => v = none ∧ Qr h) Qt y_Checker_checkBody.cls y_Checker_checkBody.name b_Checker_checkBody 3 ([] : List ExceptionTableEntry) none 142 [(0, .ref x0), (1, .int x1)] [] h bc bs := by
  unfold w_Checker_checkBody_L142 at hw
  intro p e s m args below meth c hC H locs ls k n hE hl hR hS hk hn
  obtain ⟨hx, hb, hown, hlocks, htab, hml, hr, hB, hA, hnm⟩ := id hC
  have hts := hB.1.1.at args
  refine lv_aload_n hx hb (xb_d D_Checker_checkBody 74 rfl) rfl (lv_at hl 0 rfl) ?_
  obtain ⟨hk1, hw⟩ := hw
  refine xb_getP (C := R_Checker) (T := F_Checker) (N := 17) hx hb 4 0 hts fin_Checker hown hR hk1 (by decide) rfl (by decide) rfl (hts _ m_070795bc) (fun _ h9 => h9) (xb_d D_Checker_checkBody 75 rfl) ?_
  obtain ⟨b2, eb2, hw⟩ := hw
  refine xb_some eb2 ?_
  obtain ⟨hk3, hw⟩ := hw
  refine xb_getP (C := R_StackModule) (T := F_StackModule) (N := 19) hx hb 2 11 hts fin_StackModule hown hR hk3 (by decide) rfl (by decide) rfl (hts _ m_5c3b2b0d) (fun _ h9 => h9) (xb_d D_Checker_checkBody 76 rfl) ?_
  obtain ⟨b4, eb4, hw⟩ := hw
  refine xb_some eb4 ?_
  refine lv_iload_n hx hb (xb_d D_Checker_checkBody 77 rfl) rfl (lv_at hl 1 rfl) ?_
  refine lv_iconst (v := 4) hx hb (xb_d D_Checker_checkBody 78 rfl) (by decide) ?_
  refine lv_aload_n hx hb (xb_d D_Checker_checkBody 79 rfl) rfl (lv_at hl 0 rfl) ?_
  refine xb_getI (C := R_Checker) (T := F_Checker) (N := 17) hx hb 4 5 hts fin_Checker hown hR hk1 (by decide) rfl (by decide) rfl (hts _ m_2fb57e9e) (fun _ h9 => h9) (xb_d D_Checker_checkBody 80 rfl) ?_
  refine lv_i2l hx hb (xb_d D_Checker_checkBody 81 rfl) rfl ?_
  obtain ⟨hk5, hw⟩ := hw
  refine xb_call (D := D) (A := A) (σ := σ) (h := h) (d := 2) (mc := 0) (ms := 0) (maxL := 5) (rest := []) (av := [.ref b4, .int x1, .int 4, .long (Int32.toInt64 (xb_i h x0 5))]) (fun T hT X => by obtain ⟨cb, r1, r2, r3⟩ := xb_recv (ci := 1) hR rfl hk5 (by decide); exact xt_invV X hx hown (hts _ m_9f27c74a) (hts _ m_ae2d3893) (hts _ m_583fd7d0) (xt_sigOf (hts _ m_2325caf0)) nm_Row_setAt (by rw [hT]; exact r1) r2 r3 (g := F0 m 156 ls [.long (Int32.toInt64 (xb_i h x0 5)), .int 4, .int x1, .ref b4]) rfl (argsL := [.int x1, .int 4, .long (Int32.toInt64 (xb_i h x0 5))]) (rest := []) rfl rfl (by rw [hb]; exact (xb_d D_Checker_checkBody 82 rfl))) (ok_Row_setAt l hfl D A σ b4 x1 4 (Int32.toInt64 (xb_i h x0 5)) h _ hw) (hml.trans hl.1.symm) (by rw [hb]; exact (xb_d D_Checker_checkBody 82 rfl)) (Nat.le_of_ble_eq_true rfl) (Nat.le_of_ble_eq_true rfl) (Nat.le_of_ble_eq_true rfl) (show k + 0 ≤ MC by omega) (show n + 0 ≤ MS by omega) (xt_w1 hB.1 m_2325caf0) (xt_cdOf hB.1 m_2325caf0) (hts _ m_c1bef504) hB hR hS hA (fun vv h6 H locs hq hEh6 hR hS => ?_) (fun XX ax h6 H locs hq hEh6 hex hR hS => ?_)
  · obtain ⟨rfl, hw⟩ := hq
    have hw := hw hEh6
    have hE := hE.tr hEh6
    refine W.eq (g2 := F0 m 159 ls []) rfl ?_
    exact xb_vret hx hb hr hlocks (show k ≤ MC by omega) (show n ≤ MS by omega) hE hR hS (xb_d D_Checker_checkBody 83 rfl) hw
  · exact False.elim hq

set_option maxHeartbeats 4000000 in
set_option maxRecDepth 100000 in
theorem am_Checker_checkBody_L88 (l : Launch) (hfl : l.flags = pinnedFlags ++ [noTraceFlag]) (D : va_G) (A : Nat → Prop) (σ MC MS : Nat) (h0 : xb_H) (Qr : xb_H → Prop) (Qt : String → xb_H → Prop) (n9 : Nat) : ∀ (x0 : Nat) (x1 : Int32) (x2 : Int32) (h : xb_H) (bc : Nat) (bs : Nat), w_Checker_checkBody_L88 Qr Qt n9 x0 x1 x2 h bc bs → xb_am l D A σ 7 MC MS h0 (fun v h => v = none ∧ Qr h) Qt y_Checker_checkBody.cls y_Checker_checkBody.name b_Checker_checkBody 3 ([] : List ExceptionTableEntry) none 88 [(0, .ref x0), (1, .int x1), (2, .int x2)] [] h bc bs := by
  induction n9 with
  | zero => intro x0 x1 x2 h bc bs hw; exact False.elim hw
  | succ n9 ih =>
    intro x0 x1 x2 h bc bs hw
    unfold w_Checker_checkBody_L88 at hw
    intro p e s m args below meth c hC H locs ls k n hE hl hR hS hk hn
    obtain ⟨hx, hb, hown, hlocks, htab, hml, hr, hB, hA, hnm⟩ := id hC
    have hts := hB.1.1.at args
    refine lv_iload_n hx hb (xb_d D_Checker_checkBody 48 rfl) rfl (lv_at hl 2 rfl) ?_
    refine lv_aload_n hx hb (xb_d D_Checker_checkBody 49 rfl) rfl (lv_at hl 0 rfl) ?_
    obtain ⟨hk1, hw⟩ := hw
    refine xb_getP (C := R_Checker) (T := F_Checker) (N := 17) hx hb 4 1 hts fin_Checker hown hR hk1 (by decide) rfl (by decide) rfl (hts _ m_8db7c2eb) (fun _ h9 => h9) (xb_d D_Checker_checkBody 50 rfl) ?_
    obtain ⟨b2, eb2, hw⟩ := hw
    refine xb_some eb2 ?_
    obtain ⟨hk3, hw⟩ := hw
    refine xb_alen hx hb hR hk3 (by decide) (xb_d D_Checker_checkBody 51 rfl) ?_
    refine lv_icmp_ge (tgt := 142) hx hb (xb_d D_Checker_checkBody 52 rfl) rfl (fun hc4 => ?_) (fun hc4 => ?_)
    · have hw := hw.1 hc4
      exact am_Checker_checkBody_L142 l hfl D A σ MC MS h0 Qr Qt x0 x1 h bc bs hw p e s m args below meth c hC H locs ls k n hE (lv_sub hl [0, 1] rfl) hR hS (by omega) (by omega)
    · have hw := hw.2 hc4
      refine lv_aload_n hx hb (xb_d D_Checker_checkBody 53 rfl) rfl (lv_at hl 0 rfl) ?_
      refine xb_getI (C := R_Checker) (T := F_Checker) (N := 17) hx hb 4 16 hts fin_Checker hown hR hk1 (by decide) rfl (by decide) rfl (hts _ m_47f80c41) (fun _ h9 => h9) (xb_d D_Checker_checkBody 54 rfl) ?_
      refine lv_if_le (tgt := 142) hx hb (xb_d D_Checker_checkBody 55 rfl) rfl (fun hc5 => ?_) (fun hc5 => ?_)
      · have hw := hw.1 hc5
        exact am_Checker_checkBody_L142 l hfl D A σ MC MS h0 Qr Qt x0 x1 h bc bs hw p e s m args below meth c hC H locs ls k n hE (lv_sub hl [0, 1] rfl) hR hS (by omega) (by omega)
      · have hw := hw.2 hc5
        refine lv_aload_n hx hb (xb_d D_Checker_checkBody 56 rfl) rfl (lv_at hl 0 rfl) ?_
        refine lv_aload_n hx hb (xb_d D_Checker_checkBody 57 rfl) rfl (lv_at hl 0 rfl) ?_
        refine xb_getP (C := R_Checker) (T := F_Checker) (N := 17) hx hb 4 1 hts fin_Checker hown hR hk1 (by decide) rfl (by decide) rfl (hts _ m_8db7c2eb) (fun _ h9 => h9) (xb_d D_Checker_checkBody 58 rfl) ?_
        obtain ⟨b6, eb6, hw⟩ := hw
        refine xb_some eb6 ?_
        refine lv_aload_n hx hb (xb_d D_Checker_checkBody 59 rfl) rfl (lv_at hl 0 rfl) ?_
        refine xb_getI (C := R_Checker) (T := F_Checker) (N := 17) hx hb 4 9 hts fin_Checker hown hR hk1 (by decide) rfl (by decide) rfl (hts _ m_28193d38) (fun _ h9 => h9) (xb_d D_Checker_checkBody 60 rfl) ?_
        obtain ⟨hk8, hw⟩ := hw
        obtain ⟨hi7, hw⟩ := hw
        refine xb_bald hx hb hR hk8 hi7 (xb_d D_Checker_checkBody 61 rfl) ?_
        refine lv_sipush (v := 255) hx hb (xb_d D_Checker_checkBody 62 rfl) (by decide) ?_
        refine lv_iand hx hb (xb_d D_Checker_checkBody 63 rfl) ?_
        obtain ⟨c11, sc11, hlc11, hlsc11, hw⟩ := hw
        refine xb_call (D := D) (A := A) (σ := σ) (h := h) (d := 6) (mc := c11) (ms := sc11) (maxL := 2) (rest := []) (av := [.ref x0, .int ((xb_i h b6 (Int32.toNatClampNeg (xb_i h x0 9))) &&& 255)]) (fun T hT X => by obtain ⟨cb, r1, r2, r3⟩ := xb_recv (ci := 4) hR rfl hk1 (by decide); exact xt_invV X hx hown (hts _ m_852a35b5) (hts _ m_a1edd8e0) (hts _ m_145ca286) (xt_sigOf (hts _ m_ce4eed8b)) nm_Checker_checkInstruction (by rw [hT]; exact r1) r2 r3 (g := F0 m 118 ls [.int ((xb_i h b6 (Int32.toNatClampNeg (xb_i h x0 9))) &&& 255), .ref x0]) rfl (argsL := [.int ((xb_i h b6 (Int32.toNatClampNeg (xb_i h x0 9))) &&& 255)]) (rest := []) rfl rfl (by rw [hb]; exact (xb_d D_Checker_checkBody 64 rfl))) (ok_Checker_checkInstruction l hfl D A σ x0 ((xb_i h b6 (Int32.toNatClampNeg (xb_i h x0 9))) &&& 255) h c11 sc11 _ _ hw) (hml.trans hl.1.symm) (by rw [hb]; exact (xb_d D_Checker_checkBody 64 rfl)) (Nat.le_of_ble_eq_true rfl) (Nat.le_of_ble_eq_true rfl) (Nat.le_of_ble_eq_true rfl) (show k + c11 ≤ MC by omega) (show n + sc11 ≤ MS by omega) (xt_w1 hB.1 m_ce4eed8b) (xt_cdOf hB.1 m_ce4eed8b) (hts _ m_44748ce5) hB hR hS hA (fun vv h9 H locs hq hEh9 hR hS => ?_) (fun XX ax h9 H locs hq hEh9 hex hR hS => ?_)
        · obtain ⟨rfl, hw⟩ := hq
          have hw := hw hEh9
          have hE := hE.tr hEh9
          refine W.eq (g2 := F0 m 121 ls []) rfl ?_
          refine lv_aload_n hx hb (xb_d D_Checker_checkBody 65 rfl) rfl (lv_at hl 0 rfl) ?_
          refine lv_aload_n hx hb (xb_d D_Checker_checkBody 66 rfl) rfl (lv_at hl 0 rfl) ?_
          have hk1 : xb_k h9 x0 = 5 := hEh9.k hk1
          refine xb_getP (C := R_Checker) (T := F_Checker) (N := 17) hx hb 4 0 hts fin_Checker hown hR hk1 (by decide) rfl (by decide) rfl (hts _ m_070795bc) (fun _ h9 => h9) (xb_d D_Checker_checkBody 67 rfl) ?_
          obtain ⟨b12, eb12, hw⟩ := hw
          refine xb_some eb12 ?_
          refine lv_aload_n hx hb (xb_d D_Checker_checkBody 68 rfl) rfl (lv_at hl 0 rfl) ?_
          refine xb_getI (C := R_Checker) (T := F_Checker) (N := 17) hx hb 4 9 hts fin_Checker hown hR hk1 (by decide) rfl (by decide) rfl (hts _ m_28193d38) (fun _ h9 => h9) (xb_d D_Checker_checkBody 69 rfl) ?_
          obtain ⟨hk13, hw⟩ := hw
          refine xb_call (D := D) (A := A) (σ := σ) (h := h9) (d := 3) (mc := 0) (ms := 0) (maxL := 2) (rest := [.ref x0]) (av := [.ref b12, .int (xb_i h9 x0 9)]) (fun T hT X => by obtain ⟨cb, r1, r2, r3⟩ := xb_recv (ci := 2) hR rfl hk13 (by decide); exact xt_invV X hx hown (hts _ m_831fd048) (hts _ m_7a084d8c) (hts _ m_9dac82c4) (xt_sigOf (hts _ m_a27a5692)) nm_StackModule_nextPlace (by rw [hT]; exact r1) r2 r3 (g := F0 m 130 ls [.int (xb_i h9 x0 9), .ref b12, .ref x0]) rfl (argsL := [.int (xb_i h9 x0 9)]) (rest := [.ref x0]) rfl rfl (by rw [hb]; exact (xb_d D_Checker_checkBody 70 rfl))) (ok_StackModule_nextPlace l hfl D A σ b12 (xb_i h9 x0 9) h9 _ hw) (hml.trans hl.1.symm) (by rw [hb]; exact (xb_d D_Checker_checkBody 70 rfl)) (Nat.le_of_ble_eq_true rfl) (Nat.le_of_ble_eq_true rfl) (Nat.le_of_ble_eq_true rfl) (show (k + c11) + 0 ≤ MC by omega) (show (n + sc11) + 0 ≤ MS by omega) (xt_w1 hB.1 m_a27a5692) (xt_cdOf hB.1 m_a27a5692) (hts _ m_9c375545) hB hR hS hA (fun vv h14 H locs hq hEh14 hR hS => ?_) (fun XX ax h14 H locs hq hEh14 hex hR hS => ?_)
          · obtain ⟨r15, rfl, hw⟩ := hq
            have hw := hw hEh14
            have hE := hE.tr hEh14
            refine W.eq (g2 := F0 m 133 ls [.int r15, .ref x0]) rfl ?_
            have hk1 : xb_k h14 x0 = 5 := hEh14.k hk1
            refine xb_putI (C := R_Checker) (T := F_Checker) (N := 17) (ty := .int) (x := r15) hx hb 4 9 hts fin_Checker t_Checker t_Checker_ok n_Checker hown hR hS hk1 (by decide) rfl (by decide) rfl (hts _ m_28193d38) (fun _ h9 => h9) rfl (by decide +kernel) rfl rfl (xb_d D_Checker_checkBody 71 rfl) (fun H locs hR hS => ?_)
            obtain ⟨h16, eh16⟩ : ∃ x : xb_H, x = xb_I h14 x0 9 r15 := ⟨_, rfl⟩
            rw [← eh16] at hR
            have hw := hw h16 eh16
            have hE : xb_ext h0 h16 := by rw [eh16]; exact hE
            refine lv_iinc (v := (x2 + 1)) (k := 2) hx hb (xb_d D_Checker_checkBody 72 rfl) hl rfl (by first | rfl | decide) (by decide) rfl (fun ls hl => ?_)
            have hl : lv_has ls 3 [(2, .int (x2 + 1)), (0, .ref x0), (1, .int x1)] := hl
            refine lv_goto (tgt := 88) hx hb (xb_d D_Checker_checkBody 73 rfl) rfl ?_
            exact ih x0 x1 (x2 + 1) h16 (bc - c11) (bs - sc11) hw p e s m args below meth c hC H locs ls (k + c11) (n + sc11) hE (lv_sub hl [1, 2, 0] rfl) hR hS (by omega) (by omega)
          · exact False.elim hq
        · exact xb_pass hlocks (fun x hx9 => by rw [htab] at hx9; first | cases hx9 | (simp [tableOf] at hx9; rcases hx9 with rfl | rfl | rfl <;> decide)) (show (k + c11) ≤ MC by omega) (show (n + sc11) ≤ MS by omega) (hE.tr hEh9) hR hS hex hq

set_option maxHeartbeats 4000000 in
set_option maxRecDepth 100000 in
theorem ok_Checker_checkBody (l : Launch) (hfl : l.flags = pinnedFlags ++ [noTraceFlag]) (D : va_G) (A : Nat → Prop) (σ : Nat) (x0 : Nat) (x1 : Int32) (h : xb_H) (bc : Nat) (bs : Nat) (Qr : xb_H → Prop) (Qt : String → xb_H → Prop) (hw : w_Checker_checkBody x0 x1 h bc bs Qr Qt) : xt_Met l y_Checker_checkBody [.code y_Checker_checkBody b_Checker_checkBody 3 none] (xb_rm 7 bc bs) (xb_Pc D A σ h [.ref x0, .int x1]) (xb_Qc D A h (fun v h => v = none ∧ Qr h) Qt) bc bs A := by
  refine xb_ofAm (cc := b_Checker_checkBody) (by decide) (Nat.le_of_ble_eq_true rfl) ?_
  unfold w_Checker_checkBody at hw
  show xb_am l D A σ 7 bc bs h (fun v h => v = none ∧ Qr h) Qt y_Checker_checkBody.cls y_Checker_checkBody.name b_Checker_checkBody 3 ([] : List ExceptionTableEntry) none 0 [(0, .ref x0), (1, .int x1)] [] h bc bs
  obtain ⟨MC, hMC⟩ : ∃ x, x = bc := ⟨_, rfl⟩
  obtain ⟨MS, hMS⟩ : ∃ x, x = bs := ⟨_, rfl⟩
  rw [show xb_am l D A σ 7 bc bs = xb_am l D A σ 7 MC MS by rw [hMC, hMS]]
  obtain ⟨h0, hh0⟩ : ∃ x, x = h := ⟨_, rfl⟩
  rw [show xb_am l D A σ 7 MC MS h = xb_am l D A σ 7 MC MS h0 by rw [hh0]]
  intro p e s m args below meth c hC H locs ls k n hE hl hR hS hk hn
  obtain ⟨hx, hb, hown, hlocks, htab, hml, hr, hB, hA, hnm⟩ := id hC
  have hts := hB.1.1.at args
  refine lv_aload_n hx hb (xb_d D_Checker_checkBody 0 rfl) rfl (lv_at hl 0 rfl) ?_
  refine lv_aload_n hx hb (xb_d D_Checker_checkBody 1 rfl) rfl (lv_at hl 0 rfl) ?_
  obtain ⟨hk1, hw⟩ := hw
  refine xb_getP (C := R_Checker) (T := F_Checker) (N := 17) hx hb 4 0 hts fin_Checker hown hR hk1 (by decide) rfl (by decide) rfl (hts _ m_070795bc) (fun _ h9 => h9) (xb_d D_Checker_checkBody 2 rfl) ?_
  obtain ⟨b2, eb2, hw⟩ := hw
  refine xb_some eb2 ?_
  refine lv_aload_n hx hb (xb_d D_Checker_checkBody 3 rfl) rfl (lv_at hl 0 rfl) ?_
  refine xb_getP (C := R_Checker) (T := F_Checker) (N := 17) hx hb 4 0 hts fin_Checker hown hR hk1 (by decide) rfl (by decide) rfl (hts _ m_070795bc) (fun _ h9 => h9) (xb_d D_Checker_checkBody 4 rfl) ?_
  obtain ⟨b3, eb3, hw⟩ := hw
  refine xb_some eb3 ?_
  obtain ⟨hk4, hw⟩ := hw
  refine xb_getP (C := R_StackModule) (T := F_StackModule) (N := 19) hx hb 2 14 hts fin_StackModule hown hR hk4 (by decide) rfl (by decide) rfl (hts _ m_c2d0ffa0) (fun _ h9 => h9) (xb_d D_Checker_checkBody 5 rfl) ?_
  obtain ⟨b5, eb5, hw⟩ := hw
  refine xb_some eb5 ?_
  refine lv_iconst (v := 0) hx hb (xb_d D_Checker_checkBody 6 rfl) (by decide) ?_
  obtain ⟨hk7, hw⟩ := hw
  obtain ⟨hi6, hw⟩ := hw
  refine xb_iald hx hb hR hk7 hi6 (xb_d D_Checker_checkBody 7 rfl) ?_
  refine xt_numi (y := (xb_i h b5 0)) (congrArg (xb_i h b5) (by decide : (0 : Int32).toNatClampNeg = 0)) ?_
  refine lv_iload_n hx hb (xb_d D_Checker_checkBody 8 rfl) rfl (lv_at hl 1 rfl) ?_
  refine lv_iadd hx hb (xb_d D_Checker_checkBody 9 rfl) ?_
  obtain ⟨hk8, hw⟩ := hw
  refine xb_call (D := D) (A := A) (σ := σ) (h := h) (d := 3) (mc := 0) (ms := 0) (maxL := 2) (rest := [.ref x0]) (av := [.ref b2, .int ((xb_i h b5 0) + x1)]) (fun T hT X => by obtain ⟨cb, r1, r2, r3⟩ := xb_recv (ci := 2) hR rfl hk8 (by decide); exact xt_invV X hx hown (hts _ m_ad67eca9) (hts _ m_eb5729e5) (hts _ m_9cf0d8be) (xt_sigOf (hts _ m_42e2443a)) nm_StackModule_typeOf (by rw [hT]; exact r1) r2 r3 (g := F0 m 16 ls [.int ((xb_i h b5 0) + x1), .ref b2, .ref x0]) rfl (argsL := [.int ((xb_i h b5 0) + x1)]) (rest := [.ref x0]) rfl rfl (by rw [hb]; exact (xb_d D_Checker_checkBody 10 rfl))) (ok_StackModule_typeOf l hfl D A σ b2 ((xb_i h b5 0) + x1) h _ hw) (hml.trans hl.1.symm) (by rw [hb]; exact (xb_d D_Checker_checkBody 10 rfl)) (Nat.le_of_ble_eq_true rfl) (Nat.le_of_ble_eq_true rfl) (Nat.le_of_ble_eq_true rfl) (show k + 0 ≤ MC by omega) (show n + 0 ≤ MS by omega) (xt_w1 hB.1 m_42e2443a) (xt_cdOf hB.1 m_42e2443a) (hts _ m_9c375545) hB hR hS hA (fun vv h9 H locs hq hEh9 hR hS => ?_) (fun XX ax h9 H locs hq hEh9 hex hR hS => ?_)
  · obtain ⟨r10, rfl, hw⟩ := hq
    have hw := hw hEh9
    have hE := hE.tr hEh9
    refine W.eq (g2 := F0 m 19 ls [.int r10, .ref x0]) rfl ?_
    have hk1 : xb_k h9 x0 = 5 := hEh9.k hk1
    refine xb_putI (C := R_Checker) (T := F_Checker) (N := 17) (ty := .int) (x := r10) hx hb 4 8 hts fin_Checker t_Checker t_Checker_ok n_Checker hown hR hS hk1 (by decide) rfl (by decide) rfl (hts _ m_f84c9de3) (fun _ h9 => h9) rfl (by decide +kernel) rfl rfl (xb_d D_Checker_checkBody 11 rfl) (fun H locs hR hS => ?_)
    obtain ⟨h11, eh11⟩ : ∃ x : xb_H, x = xb_I h9 x0 8 r10 := ⟨_, rfl⟩
    rw [← eh11] at hR
    have hw := hw h11 eh11
    have hE : xb_ext h0 h11 := by rw [eh11]; exact hE
    refine lv_aload_n hx hb (xb_d D_Checker_checkBody 12 rfl) rfl (lv_at hl 0 rfl) ?_
    refine lv_iload_n hx hb (xb_d D_Checker_checkBody 13 rfl) rfl (lv_at hl 1 rfl) ?_
    have hk1 : xb_k h11 x0 = 5 := by rw [eh11]; exact hk1
    refine xb_call (D := D) (A := A) (σ := σ) (h := h11) (d := 4) (mc := 0) (ms := 0) (maxL := 5) (rest := []) (av := [.ref x0, .int x1]) (fun T hT X => by obtain ⟨cb, r1, r2, r3⟩ := xb_recv (ci := 4) hR rfl hk1 (by decide); exact xt_invV X hx hown (hts _ m_a5f6609b) (hts _ m_687f9ec9) (hts _ m_20c611bd) (xt_sigOf (hts _ m_cbf63ef2)) nm_Checker_spreadLocals (by rw [hT]; exact r1) r2 r3 (g := F0 m 24 ls [.int x1, .ref x0]) rfl (argsL := [.int x1]) (rest := []) rfl rfl (by rw [hb]; exact (xb_d D_Checker_checkBody 14 rfl))) (ok_Checker_spreadLocals l hfl D A σ x0 x1 h11 _ hw) (hml.trans hl.1.symm) (by rw [hb]; exact (xb_d D_Checker_checkBody 14 rfl)) (Nat.le_of_ble_eq_true rfl) (Nat.le_of_ble_eq_true rfl) (Nat.le_of_ble_eq_true rfl) (show k + 0 ≤ MC by omega) (show n + 0 ≤ MS by omega) (xt_w1 hB.1 m_cbf63ef2) (xt_cdOf hB.1 m_cbf63ef2) (hts _ m_44748ce5) hB hR hS hA (fun vv h12 H locs hq hEh12 hR hS => ?_) (fun XX ax h12 H locs hq hEh12 hex hR hS => ?_)
    · obtain ⟨rfl, hw⟩ := hq
      have hw := hw hEh12
      have hE := hE.tr hEh12
      refine W.eq (g2 := F0 m 27 ls []) rfl ?_
      refine lv_aload_n hx hb (xb_d D_Checker_checkBody 15 rfl) rfl (lv_at hl 0 rfl) ?_
      refine lv_iconst (v := 0) hx hb (xb_d D_Checker_checkBody 16 rfl) (by decide) ?_
      have hk1 : xb_k h12 x0 = 5 := hEh12.k hk1
      refine xb_putI (C := R_Checker) (T := F_Checker) (N := 17) (ty := .int) (x := 0) hx hb 4 4 hts fin_Checker t_Checker t_Checker_ok n_Checker hown hR hS hk1 (by decide) rfl (by decide) rfl (hts _ m_b89190d5) (fun _ h9 => h9) rfl (by decide +kernel) rfl rfl (xb_d D_Checker_checkBody 17 rfl) (fun H locs hR hS => ?_)
      obtain ⟨h14, eh14⟩ : ∃ x : xb_H, x = xb_I h12 x0 4 0 := ⟨_, rfl⟩
      rw [← eh14] at hR
      have hw := hw h14 eh14
      have hE : xb_ext h0 h14 := by rw [eh14]; exact hE
      refine lv_aload_n hx hb (xb_d D_Checker_checkBody 18 rfl) rfl (lv_at hl 0 rfl) ?_
      refine lv_iconst (v := 0) hx hb (xb_d D_Checker_checkBody 19 rfl) (by decide) ?_
      have hk1 : xb_k h14 x0 = 5 := by rw [eh14]; exact hk1
      refine xb_putI (C := R_Checker) (T := F_Checker) (N := 17) (ty := .int) (x := 0) hx hb 4 5 hts fin_Checker t_Checker t_Checker_ok n_Checker hown hR hS hk1 (by decide) rfl (by decide) rfl (hts _ m_2fb57e9e) (fun _ h9 => h9) rfl (by decide +kernel) rfl rfl (xb_d D_Checker_checkBody 20 rfl) (fun H locs hR hS => ?_)
      obtain ⟨h15, eh15⟩ : ∃ x : xb_H, x = xb_I h14 x0 5 0 := ⟨_, rfl⟩
      rw [← eh15] at hR
      have hw := hw h15 eh15
      have hE : xb_ext h0 h15 := by rw [eh15]; exact hE
      refine lv_aload_n hx hb (xb_d D_Checker_checkBody 21 rfl) rfl (lv_at hl 0 rfl) ?_
      refine lv_iconst (v := 0) hx hb (xb_d D_Checker_checkBody 22 rfl) (by decide) ?_
      have hk1 : xb_k h15 x0 = 5 := by rw [eh15]; exact hk1
      refine xb_putI (C := R_Checker) (T := F_Checker) (N := 17) (ty := .int) (x := 0) hx hb 4 16 hts fin_Checker t_Checker t_Checker_ok n_Checker hown hR hS hk1 (by decide) rfl (by decide) rfl (hts _ m_47f80c41) (fun _ h9 => h9) rfl (by decide +kernel) rfl rfl (xb_d D_Checker_checkBody 23 rfl) (fun H locs hR hS => ?_)
      obtain ⟨h16, eh16⟩ : ∃ x : xb_H, x = xb_I h15 x0 16 0 := ⟨_, rfl⟩
      rw [← eh16] at hR
      have hw := hw h16 eh16
      have hE : xb_ext h0 h16 := by rw [eh16]; exact hE
      refine lv_aload_n hx hb (xb_d D_Checker_checkBody 24 rfl) rfl (lv_at hl 0 rfl) ?_
      refine lv_aload_n hx hb (xb_d D_Checker_checkBody 25 rfl) rfl (lv_at hl 0 rfl) ?_
      have hk1 : xb_k h16 x0 = 5 := by rw [eh16]; exact hk1
      refine xb_getP (C := R_Checker) (T := F_Checker) (N := 17) hx hb 4 0 hts fin_Checker hown hR hk1 (by decide) rfl (by decide) rfl (hts _ m_070795bc) (fun _ h9 => h9) (xb_d D_Checker_checkBody 26 rfl) ?_
      obtain ⟨b17, eb17, hw⟩ := hw
      refine xb_some eb17 ?_
      obtain ⟨hk18, hw⟩ := hw
      refine xb_getP (C := R_StackModule) (T := F_StackModule) (N := 19) hx hb 2 11 hts fin_StackModule hown hR hk18 (by decide) rfl (by decide) rfl (hts _ m_5c3b2b0d) (fun _ h9 => h9) (xb_d D_Checker_checkBody 27 rfl) ?_
      obtain ⟨b19, eb19, hw⟩ := hw
      refine xb_some eb19 ?_
      refine lv_iload_n hx hb (xb_d D_Checker_checkBody 28 rfl) rfl (lv_at hl 1 rfl) ?_
      refine lv_iconst (v := 0) hx hb (xb_d D_Checker_checkBody 29 rfl) (by decide) ?_
      obtain ⟨hk20, hw⟩ := hw
      refine xb_call (D := D) (A := A) (σ := σ) (h := h16) (d := 2) (mc := 0) (ms := 0) (maxL := 3) (rest := [.ref x0]) (av := [.ref b19, .int x1, .int 0]) (fun T hT X => by obtain ⟨cb, r1, r2, r3⟩ := xb_recv (ci := 1) hR rfl hk20 (by decide); exact xt_invV X hx hown (hts _ m_068feb96) (hts _ m_8e233096) (hts _ m_27eed10c) (xt_sigOf (hts _ m_ff1c70ae)) nm_Row_at (by rw [hT]; exact r1) r2 r3 (g := F0 m 52 ls [.int 0, .int x1, .ref b19, .ref x0]) rfl (argsL := [.int x1, .int 0]) (rest := [.ref x0]) rfl rfl (by rw [hb]; exact (xb_d D_Checker_checkBody 30 rfl))) (ok_Row_at l hfl D A σ b19 x1 0 h16 _ hw) (hml.trans hl.1.symm) (by rw [hb]; exact (xb_d D_Checker_checkBody 30 rfl)) (Nat.le_of_ble_eq_true rfl) (Nat.le_of_ble_eq_true rfl) (Nat.le_of_ble_eq_true rfl) (show k + 0 ≤ MC by omega) (show n + 0 ≤ MS by omega) (xt_w1 hB.1 m_ff1c70ae) (xt_cdOf hB.1 m_ff1c70ae) (hts _ m_c1bef504) hB hR hS hA (fun vv h21 H locs hq hEh21 hR hS => ?_) (fun XX ax h21 H locs hq hEh21 hex hR hS => ?_)
      · obtain ⟨r22, rfl, hw⟩ := hq
        have hw := hw hEh21
        have hE := hE.tr hEh21
        refine W.eq (g2 := F0 m 55 ls [.int r22, .ref x0]) rfl ?_
        have hk1 : xb_k h21 x0 = 5 := hEh21.k hk1
        refine xb_putI (C := R_Checker) (T := F_Checker) (N := 17) (ty := .int) (x := r22) hx hb 4 9 hts fin_Checker t_Checker t_Checker_ok n_Checker hown hR hS hk1 (by decide) rfl (by decide) rfl (hts _ m_28193d38) (fun _ h9 => h9) rfl (by decide +kernel) rfl rfl (xb_d D_Checker_checkBody 31 rfl) (fun H locs hR hS => ?_)
        obtain ⟨h23, eh23⟩ : ∃ x : xb_H, x = xb_I h21 x0 9 r22 := ⟨_, rfl⟩
        rw [← eh23] at hR
        have hw := hw h23 eh23
        have hE : xb_ext h0 h23 := by rw [eh23]; exact hE
        refine lv_aload_n hx hb (xb_d D_Checker_checkBody 32 rfl) rfl (lv_at hl 0 rfl) ?_
        refine lv_iconst (v := 0) hx hb (xb_d D_Checker_checkBody 33 rfl) (by decide) ?_
        refine lv_iconst (v := (-1)) hx hb (xb_d D_Checker_checkBody 34 rfl) (by decide) ?_
        refine lv_aload_n hx hb (xb_d D_Checker_checkBody 35 rfl) rfl (lv_at hl 0 rfl) ?_
        have hk1 : xb_k h23 x0 = 5 := by rw [eh23]; exact hk1
        refine xb_getP (C := R_Checker) (T := F_Checker) (N := 17) hx hb 4 0 hts fin_Checker hown hR hk1 (by decide) rfl (by decide) rfl (hts _ m_070795bc) (fun _ h9 => h9) (xb_d D_Checker_checkBody 36 rfl) ?_
        obtain ⟨b24, eb24, hw⟩ := hw
        refine xb_some eb24 ?_
        refine lv_aload_n hx hb (xb_d D_Checker_checkBody 37 rfl) rfl (lv_at hl 0 rfl) ?_
        refine xb_getI (C := R_Checker) (T := F_Checker) (N := 17) hx hb 4 8 hts fin_Checker hown hR hk1 (by decide) rfl (by decide) rfl (hts _ m_f84c9de3) (fun _ h9 => h9) (xb_d D_Checker_checkBody 38 rfl) ?_
        obtain ⟨hk25, hw⟩ := hw
        refine xb_call (D := D) (A := A) (σ := σ) (h := h23) (d := 3) (mc := 0) (ms := 0) (maxL := 2) (rest := [.int (-1), .int 0, .ref x0]) (av := [.ref b24, .int (xb_i h23 x0 8)]) (fun T hT X => by obtain ⟨cb, r1, r2, r3⟩ := xb_recv (ci := 2) hR rfl hk25 (by decide); exact xt_invV X hx hown (hts _ m_ea77f79f) (hts _ m_1d164a26) (hts _ m_57f47ef8) (xt_sigOf (hts _ m_fa540915)) nm_StackModule_resultType (by rw [hT]; exact r1) r2 r3 (g := F0 m 69 ls [.int (xb_i h23 x0 8), .ref b24, .int (-1), .int 0, .ref x0]) rfl (argsL := [.int (xb_i h23 x0 8)]) (rest := [.int (-1), .int 0, .ref x0]) rfl rfl (by rw [hb]; exact (xb_d D_Checker_checkBody 39 rfl))) (ok_StackModule_resultType l hfl D A σ b24 (xb_i h23 x0 8) h23 _ hw) (hml.trans hl.1.symm) (by rw [hb]; exact (xb_d D_Checker_checkBody 39 rfl)) (Nat.le_of_ble_eq_true rfl) (Nat.le_of_ble_eq_true rfl) (Nat.le_of_ble_eq_true rfl) (show k + 0 ≤ MC by omega) (show n + 0 ≤ MS by omega) (xt_w1 hB.1 m_fa540915) (xt_cdOf hB.1 m_fa540915) (hts _ m_9c375545) hB hR hS hA (fun vv h26 H locs hq hEh26 hR hS => ?_) (fun XX ax h26 H locs hq hEh26 hex hR hS => ?_)
        · obtain ⟨r27, rfl, hw⟩ := hq
          have hw := hw hEh26
          have hE := hE.tr hEh26
          refine W.eq (g2 := F0 m 72 ls [.int r27, .int (-1), .int 0, .ref x0]) rfl ?_
          refine lv_aload_n hx hb (xb_d D_Checker_checkBody 40 rfl) rfl (lv_at hl 0 rfl) ?_
          have hk1 : xb_k h26 x0 = 5 := hEh26.k hk1
          refine xb_getP (C := R_Checker) (T := F_Checker) (N := 17) hx hb 4 0 hts fin_Checker hown hR hk1 (by decide) rfl (by decide) rfl (hts _ m_070795bc) (fun _ h9 => h9) (xb_d D_Checker_checkBody 41 rfl) ?_
          obtain ⟨b28, eb28, hw⟩ := hw
          refine xb_some eb28 ?_
          refine lv_aload_n hx hb (xb_d D_Checker_checkBody 42 rfl) rfl (lv_at hl 0 rfl) ?_
          refine xb_getI (C := R_Checker) (T := F_Checker) (N := 17) hx hb 4 8 hts fin_Checker hown hR hk1 (by decide) rfl (by decide) rfl (hts _ m_f84c9de3) (fun _ h9 => h9) (xb_d D_Checker_checkBody 43 rfl) ?_
          obtain ⟨hk29, hw⟩ := hw
          refine xb_call (D := D) (A := A) (σ := σ) (h := h26) (d := 3) (mc := 0) (ms := 0) (maxL := 2) (rest := [.int r27, .int (-1), .int 0, .ref x0]) (av := [.ref b28, .int (xb_i h26 x0 8)]) (fun T hT X => by obtain ⟨cb, r1, r2, r3⟩ := xb_recv (ci := 2) hR rfl hk29 (by decide); exact xt_invV X hx hown (hts _ m_ea77f79f) (hts _ m_1d164a26) (hts _ m_57f47ef8) (xt_sigOf (hts _ m_fa540915)) nm_StackModule_resultType (by rw [hT]; exact r1) r2 r3 (g := F0 m 80 ls [.int (xb_i h26 x0 8), .ref b28, .int r27, .int (-1), .int 0, .ref x0]) rfl (argsL := [.int (xb_i h26 x0 8)]) (rest := [.int r27, .int (-1), .int 0, .ref x0]) rfl rfl (by rw [hb]; exact (xb_d D_Checker_checkBody 44 rfl))) (ok_StackModule_resultType l hfl D A σ b28 (xb_i h26 x0 8) h26 _ hw) (hml.trans hl.1.symm) (by rw [hb]; exact (xb_d D_Checker_checkBody 44 rfl)) (Nat.le_of_ble_eq_true rfl) (Nat.le_of_ble_eq_true rfl) (Nat.le_of_ble_eq_true rfl) (show k + 0 ≤ MC by omega) (show n + 0 ≤ MS by omega) (xt_w1 hB.1 m_fa540915) (xt_cdOf hB.1 m_fa540915) (hts _ m_9c375545) hB hR hS hA (fun vv h30 H locs hq hEh30 hR hS => ?_) (fun XX ax h30 H locs hq hEh30 hex hR hS => ?_)
          · obtain ⟨r31, rfl, hw⟩ := hq
            have hw := hw hEh30
            have hE := hE.tr hEh30
            refine W.eq (g2 := F0 m 83 ls [.int r31, .int r27, .int (-1), .int 0, .ref x0]) rfl ?_
            have hk1 : xb_k h30 x0 = 5 := hEh30.k hk1
            refine xb_call (D := D) (A := A) (σ := σ) (h := h30) (d := 2) (mc := 0) (ms := 0) (maxL := 5) (rest := []) (av := [.ref x0, .int 0, .int (-1), .int r27, .int r31]) (fun T hT X => by obtain ⟨cb, r1, r2, r3⟩ := xb_recv (ci := 4) hR rfl hk1 (by decide); exact xt_invV X hx hown (hts _ m_1d11d801) (hts _ m_4317fe73) (hts _ m_b4ed1ff8) (xt_sigOf (hts _ m_b39dcac6)) nm_Checker_openThing (by rw [hT]; exact r1) r2 r3 (g := F0 m 83 ls [.int r31, .int r27, .int (-1), .int 0, .ref x0]) rfl (argsL := [.int 0, .int (-1), .int r27, .int r31]) (rest := []) rfl rfl (by rw [hb]; exact (xb_d D_Checker_checkBody 45 rfl))) (ok_Checker_openThing l hfl D A σ x0 0 (-1) r27 r31 h30 _ hw) (hml.trans hl.1.symm) (by rw [hb]; exact (xb_d D_Checker_checkBody 45 rfl)) (Nat.le_of_ble_eq_true rfl) (Nat.le_of_ble_eq_true rfl) (Nat.le_of_ble_eq_true rfl) (show k + 0 ≤ MC by omega) (show n + 0 ≤ MS by omega) (xt_w1 hB.1 m_b39dcac6) (xt_cdOf hB.1 m_b39dcac6) (hts _ m_44748ce5) hB hR hS hA (fun vv h32 H locs hq hEh32 hR hS => ?_) (fun XX ax h32 H locs hq hEh32 hex hR hS => ?_)
            · obtain ⟨rfl, hw⟩ := hq
              have hw := hw hEh32
              have hE := hE.tr hEh32
              refine W.eq (g2 := F0 m 86 ls []) rfl ?_
              refine lv_iconst (v := 0) hx hb (xb_d D_Checker_checkBody 46 rfl) (by decide) ?_
              refine lv_istore_n hx hb (xb_d D_Checker_checkBody 47 rfl) rfl hl (by decide) rfl (fun ls hl => ?_)
              have hl : lv_has ls 3 [(2, .int 0), (0, .ref x0), (1, .int x1)] := hl
              obtain ⟨n8, hw⟩ := hw
              exact am_Checker_checkBody_L88 l hfl D A σ MC MS h0 Qr Qt n8 x0 x1 0 h32 bc bs hw p e s m args below meth c hC H locs ls k n hE (lv_sub hl [1, 2, 0] rfl) hR hS (by omega) (by omega)
            · exact False.elim hq
          · exact False.elim hq
        · exact False.elim hq
      · exact False.elim hq
    · exact False.elim hq
  · exact False.elim hq

