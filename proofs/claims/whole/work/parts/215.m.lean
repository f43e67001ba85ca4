theorem m_c6d1f440 : (.methodLink "StackHost" 3 objectInit : Cond) ∈ xt_tbl := xt_in (xt_t1 (List.mem_of_getElem? (i := 39) (by decide +kernel))) (by decide +kernel)
theorem m_051f4bf9 : (.classLink "StackHost" 13 "StackHost$StackModule" : Cond) ∈ xt_tbl := xt_in (xt_t1 (List.mem_of_getElem? (i := 42) (by decide +kernel))) (by decide +kernel)
theorem m_ccacbc17 : (.arrayOver (.object "StackHost$StackModule") : Cond) ∈ xt_tbl := xt_in (xt_t1 (List.mem_of_getElem? (i := 43) (by decide +kernel))) (by decide +kernel)
theorem m_99dc72aa : (.classLink "StackHost" 19 "StackHost$Reader" : Cond) ∈ xt_tbl := xt_in (xt_t1 (List.mem_of_getElem? (i := 44) (by decide +kernel))) (by decide +kernel)
theorem m_8861008b : (.instantiable "StackHost$Reader" 6 : Cond) ∈ xt_tbl := xt_in (xt_t1 (List.mem_of_getElem? (i := 45) (by decide +kernel))) (by decide +kernel)
theorem m_8c352f93 : (.methodLinkNest "StackHost" 21 y_Reader_init "StackHost" : Cond) ∈ xt_tbl := xt_in (xt_t1 (List.mem_of_getElem? (i := 46) (by decide +kernel))) (by decide +kernel)
theorem m_121e95dc : (.instanceMethod y_Reader_init : Cond) ∈ xt_tbl := xt_in (xt_t1 (List.mem_of_getElem? (i := 47) (by decide +kernel))) (by decide +kernel)
theorem m_65ca0432 : (.code y_Reader_init b_Reader_init 1 none : Cond) ∈ xt_tbl := xt_in (xt_t1 (List.mem_of_getElem? (i := 48) (by decide +kernel))) (by decide +kernel)
theorem m_95161389 : (.fieldLink "StackHost" 22 "StackHost" "reader" "LStackHost$Reader;" : Cond) ∈ xt_tbl := xt_in (xt_t2 (List.mem_of_getElem? (i := 86) (by decide +kernel))) (by decide +kernel)
theorem m_ea8200a1 : (.classLink "StackHost" 26 "StackHost$Checker" : Cond) ∈ xt_tbl := xt_in (xt_t1 (List.mem_of_getElem? (i := 71) (by decide +kernel))) (by decide +kernel)
theorem m_ad1ec43e : (.instantiable "StackHost$Checker" 17 : Cond) ∈ xt_tbl := xt_in (xt_t1 (List.mem_of_getElem? (i := 72) (by decide +kernel))) (by decide +kernel)
theorem m_f8611504 : (.methodLinkNest "StackHost" 28 y_Checker_init "StackHost" : Cond) ∈ xt_tbl := xt_in (xt_t1 (List.mem_of_getElem? (i := 73) (by decide +kernel))) (by decide +kernel)
theorem m_6d444e05 : (.instanceMethod y_Checker_init : Cond) ∈ xt_tbl := xt_in (xt_t1 (List.mem_of_getElem? (i := 74) (by decide +kernel))) (by decide +kernel)
theorem m_dfdc58b8 : (.code y_Checker_init b_Checker_init 1 none : Cond) ∈ xt_tbl := xt_in (xt_t1 (List.mem_of_getElem? (i := 75) (by decide +kernel))) (by decide +kernel)
theorem m_b8585ab6 : (.fieldLink "StackHost" 29 "StackHost" "checker" "LStackHost$Checker;" : Cond) ∈ xt_tbl := xt_in (xt_t2 (List.mem_of_getElem? (i := 87) (by decide +kernel))) (by decide +kernel)
theorem m_08a89f80 : (.classLink "StackHost" 33 "StackHost$World" : Cond) ∈ xt_tbl := xt_in (xt_t1 (List.mem_of_getElem? (i := 130) (by decide +kernel))) (by decide +kernel)
theorem m_b1e54c7b : (.instantiable "StackHost$World" 16 : Cond) ∈ xt_tbl := xt_in (xt_t1 (List.mem_of_getElem? (i := 131) (by decide +kernel))) (by decide +kernel)
theorem m_4534b440 : (.initialized "StackHost$World" : Cond) ∈ xt_tbl := xt_in (xt_t1 (List.mem_of_getElem? (i := 4) (by decide +kernel))) (by decide +kernel)
theorem m_dcffba6a : (.methodLinkNest "StackHost" 35 y_World_init "StackHost" : Cond) ∈ xt_tbl := xt_in (xt_t1 (List.mem_of_getElem? (i := 132) (by decide +kernel))) (by decide +kernel)
theorem m_703bbbc2 : (.instanceMethod y_World_init : Cond) ∈ xt_tbl := xt_in (xt_t1 (List.mem_of_getElem? (i := 133) (by decide +kernel))) (by decide +kernel)
theorem m_ee1213d4 : (.code y_World_init b_World_init 1 none : Cond) ∈ xt_tbl := xt_in (xt_t1 (List.mem_of_getElem? (i := 134) (by decide +kernel))) (by decide +kernel)
theorem m_e1594143 : (.classLink "StackHost" 40 "StackHost$Machine" : Cond) ∈ xt_tbl := xt_in (xt_t1 (List.mem_of_getElem? (i := 230) (by decide +kernel))) (by decide +kernel)
theorem m_dad258f8 : (.instantiable "StackHost$Machine" 18 : Cond) ∈ xt_tbl := xt_in (xt_t1 (List.mem_of_getElem? (i := 231) (by decide +kernel))) (by decide +kernel)
theorem m_44e19a1a : (.methodLink "StackHost" 42 y_Machine_init : Cond) ∈ xt_tbl := xt_in (xt_t1 (List.mem_of_getElem? (i := 232) (by decide +kernel))) (by decide +kernel)
theorem m_a743133a : (.instanceMethod y_Machine_init : Cond) ∈ xt_tbl := xt_in (xt_t1 (List.mem_of_getElem? (i := 233) (by decide +kernel))) (by decide +kernel)
theorem m_2400c418 : (.code y_Machine_init b_Machine_init 2 none : Cond) ∈ xt_tbl := xt_in (xt_t1 (List.mem_of_getElem? (i := 234) (by decide +kernel))) (by decide +kernel)
theorem m_66fa6db5 : (.classLink "StackHost" 49 "StackHost$Row" : Cond) ∈ xt_tbl := xt_in (xt_t2 (List.mem_of_getElem? (i := 80) (by decide +kernel))) (by decide +kernel)
theorem m_b28a71f1 : (.methodLink "StackHost" 51 y_Row_init : Cond) ∈ xt_tbl := xt_in (xt_t2 (List.mem_of_getElem? (i := 81) (by decide +kernel))) (by decide +kernel)
theorem m_3f9b649c : (.fieldLink "StackHost" 54 "StackHost" "arguments" "LStackHost$Row;" : Cond) ∈ xt_tbl := xt_in (xt_t2 (List.mem_of_getElem? (i := 90) (by decide +kernel))) (by decide +kernel)
theorem nm_Reader_init : xt_nm y_Reader_init 0 := ⟨by decide +kernel, by decide +kernel⟩
theorem nm_Checker_init : xt_nm y_Checker_init 0 := ⟨by decide +kernel, by decide +kernel⟩
theorem nm_World_init : xt_nm y_World_init 0 := ⟨by decide +kernel, by decide +kernel⟩
theorem nm_Machine_init : xt_nm y_Machine_init 1 := ⟨by decide +kernel, by decide +kernel⟩
set_option maxRecDepth 100000 in
def T_H_init : List (Nat × Instr × Nat) := [(0, .aload_n 0, 1), (1, .invokespecial 3, 3), (4, .aload_n 0, 1), (5, .bipush 20, 2), (7, .newarray .byte, 2), (9, .putfield 9, 3), (12, .aload_n 0, 1), (13, .bipush 64, 2), (15, .anewarray 13, 3), (18, .putfield 15, 3), (21, .aload_n 0, 1), (22, .new 19, 3), (25, .dup, 1), (26, .invokespecial 21, 3), (29, .putfield 22, 3), (32, .aload_n 0, 1), (33, .new 26, 3), (36, .dup, 1), (37, .invokespecial 28, 3), (40, .putfield 29, 3), (43, .aload_n 0, 1), (44, .new 33, 3), (47, .dup, 1), (48, .invokespecial 35, 3), (51, .putfield 36, 3), (54, .aload_n 0, 1), (55, .new 40, 3), (58, .dup, 1), (59, .aload_n 0, 1), (60, .getfield 36, 3), (63, .invokespecial 42, 3), (66, .putfield 45, 3), (69, .aload_n 0, 1), (70, .new 49, 3), (73, .dup, 1), (74, .iconst 1, 1), (75, .invokespecial 51, 3), (78, .putfield 54, 3), (81, .return_, 1)]
theorem D_H_init : ∀ q ∈ T_H_init, decode b_H_init q.1 = .ok (q.2.1, q.2.2) := by decide +kernel

set_option maxHeartbeats 4000000 in
set_option maxRecDepth 100000 in
theorem ok_H_init (l : Launch) (hfl : l.flags = pinnedFlags ++ [noTraceFlag]) (D : va_G) (A : Nat → Prop) (σ : Nat) (x0 : Nat) (h : xb_H) (bc : Nat) (bs : Nat) (Qr : xb_H → Nat → Nat → Prop) (hw : w_H_init x0 h bc bs Qr) : xb_Met l y_H_init [.code y_H_init b_H_init 1 none] (xb_rm 4 bc bs) (xb_Pc D A σ h [.ref x0]) (xb_Qc D A h bc bs (fun v h bc bs => v = none ∧ Qr h bc bs) (fun _ _ _ _ => False)) A := by
  refine xb_ofAm (cc := b_H_init) (by decide) (Nat.le_of_ble_eq_true rfl) ?_
  unfold w_H_init at hw
  show xb_am l D A σ 4 bc bs h (fun v h bc bs => v = none ∧ Qr h bc bs) (fun _ _ _ _ => False) y_H_init.cls y_H_init.name b_H_init 1 ([] : List ExceptionTableEntry) none 0 [(0, .ref x0)] [] h bc bs
  obtain ⟨MC, hMC⟩ : ∃ x, x = bc := ⟨_, rfl⟩
  obtain ⟨MS, hMS⟩ : ∃ x, x = bs := ⟨_, rfl⟩
  rw [show xb_am l D A σ 4 bc bs = xb_am l D A σ 4 MC MS by rw [hMC, hMS]]
  obtain ⟨h0, hh0⟩ : ∃ x, x = h := ⟨_, rfl⟩
  rw [show xb_am l D A σ 4 MC MS h = xb_am l D A σ 4 MC MS h0 by rw [hh0]]
  intro p e s m args below meth c hC H locs ls k n hE hl hR hS hk hn
  obtain ⟨hx, hb, hown, hlocks, htab, hml, hr, hB, hA, hnm⟩ := id hC
  have hts := hB.1.1.at args
  refine lv_aload_n hx hb (xb_d D_H_init 0 rfl) rfl (lv_at hl 0 rfl) ?_
  refine W.objInit hx hb hown (hts _ m_c6d1f440) (hts _ m_fba9d542) (hts _ m_9febdb7e) rfl (hml.trans hl.1.symm).symm rfl (xb_d D_H_init 1 rfl) (by show 1 ≤ 8 + _; omega) (Nat.le_trans (Nat.le_of_ble_eq_true rfl : _ ≤ 40) (by show 40 ≤ 120 + _; omega)) ?_
  refine W.eq (g2 := F0 m 4 ls []) rfl ?_
  refine lv_aload_n hx hb (xb_d D_H_init 2 rfl) rfl (lv_at hl 0 rfl) ?_
  refine lv_bipush (v := 20) hx hb (xb_d D_H_init 3 rfl) (by decide) ?_
  obtain ⟨hcq1, hsq1, hw⟩ := hw
  have enq1 : (20 : Int32).toNatClampNeg = 20 := by decide
  refine xb_newa_b hx hb (hts _ m_2503b19f) hR hS hA (by decide) (by decide +kernel) (show k + 1 ≤ MC by omega) (show n + _ ≤ MS by rw [enq1]; omega) (xb_d D_H_init 4 rfl) (fun q1 H hqq1 hR hS => ?_)
  rw [enq1] at hR ⊢
  have hw := hw q1 hqq1
  obtain ⟨h2, eh2⟩ : ∃ x : xb_H, x = xb_new h q1 100 20 := ⟨_, rfl⟩
  rw [← eh2] at hR
  have hw := hw h2 eh2
  have hE : xb_ext h0 h2 := by rw [eh2]; exact hE.new _ _ hqq1
  have hk3 : xb_k h2 q1 = 100 := by rw [eh2]; exact xb_new_k _ _ _ _
  obtain ⟨hk4, hw⟩ := hw
  refine xb_putP (C := R_H) (T := F_H) (N := 11) (ty := .array .byte) (x := (some q1)) hx hb 0 0 hts fin_H t_H t_H_ok n_H hown hR hS hk4 (by decide) rfl (by decide) rfl (hts _ m_4570233e) (fun _ h9 => h9) rfl (by decide +kernel) (xb_pnA _ _).1 (xb_pnA _ _).2 (xb_d D_H_init 5 rfl) (fun H locs hR hS => ?_)
  obtain ⟨h5, eh5⟩ : ∃ x : xb_H, x = xb_P h2 x0 0 (some q1) := ⟨_, rfl⟩
  rw [← eh5] at hR
  have hw := hw h5 eh5
  have hE : xb_ext h0 h5 := by rw [eh5]; exact hE
  refine lv_aload_n hx hb (xb_d D_H_init 6 rfl) rfl (lv_at hl 0 rfl) ?_
  refine lv_bipush (v := 64) hx hb (xb_d D_H_init 7 rfl) (by decide) ?_
  obtain ⟨hcq6, hsq6, hw⟩ := hw
  have enq6 : (64 : Int32).toNatClampNeg = 64 := by decide
  refine xb_newq104 hx hb hown (hts _ m_051f4bf9) (va_AO.of (hts _ m_ccacbc17)) hR hS hA (by decide) (by decide +kernel) (show (k + 1) + 1 ≤ MC by omega) (show (n + 20) + _ ≤ MS by rw [enq6]; omega) (xb_d D_H_init 8 rfl) (fun q6 H hqq6 hR hS => ?_)
  rw [enq6] at hR ⊢
  have hw := hw q6 hqq6
  obtain ⟨h7, eh7⟩ : ∃ x : xb_H, x = xb_new h5 q6 104 64 := ⟨_, rfl⟩
  rw [← eh7] at hR
  have hw := hw h7 eh7
  have hE : xb_ext h0 h7 := by rw [eh7]; exact hE.new _ _ hqq6
  have hk8 : xb_k h7 q6 = 104 := by rw [eh7]; exact xb_new_k _ _ _ _
  have hk4 : xb_k h5 x0 = 1 := by rw [eh5]; exact hk4
  have hk4 : xb_k h7 x0 = 1 := by rw [eh7]; exact xb_nk hqq6 hk4
  refine xb_putPF (C := R_H) (T := F_H) (N := 11) (ty := .array (.object "StackHost$StackModule")) (x := (some q6)) hx hb 0 2 hts fin_H t_H t_H_ok n_H hown hR hS hk4 (by decide) rfl (by decide) rfl (hts _ m_3f8a3106) (fun _ h9 => h9) rfl hnm rfl (by decide +kernel) (xb_pnA _ _).1 (xb_pnA _ _).2 (xb_d D_H_init 9 rfl) (fun H locs hR hS => ?_)
  obtain ⟨h9, eh9⟩ : ∃ x : xb_H, x = xb_P h7 x0 2 (some q6) := ⟨_, rfl⟩
  rw [← eh9] at hR
  have hw := hw h9 eh9
  have hE : xb_ext h0 h9 := by rw [eh9]; exact hE
  refine lv_aload_n hx hb (xb_d D_H_init 10 rfl) rfl (lv_at hl 0 rfl) ?_
  obtain ⟨hcq10, hsq10, hw⟩ := hw
  refine xb_newo (C := R_Reader) (T := F_Reader) (N := 6) hx hb 3 hts fin_Reader t_Reader t_Reader_ok hown (hts _ m_99dc72aa) (hts _ m_8861008b) (hts _ m_938fcec4) hR hS hA (by decide) rfl dg_Reader (show ((k + 1) + 1) + 1 ≤ MC by omega) (show ((n + 20) + 64) + 6 ≤ MS by omega) (xb_d D_H_init 11 rfl) (fun q10 H hqq10 hR hS => ?_)
  have hw := hw q10 hqq10
  obtain ⟨h11, eh11⟩ : ∃ x : xb_H, x = xb_new h9 q10 4 0 := ⟨_, rfl⟩
  rw [← eh11] at hR
  have hw := hw h11 eh11
  have hE : xb_ext h0 h11 := by rw [eh11]; exact hE.new _ _ hqq10
  have hk12 : xb_k h11 q10 = 4 := by rw [eh11]; exact xb_new_k _ _ _ _
  refine lv_dup hx hb (xb_d D_H_init 12 rfl) rfl ?_
  refine xb_call (D := D) (A := A) (σ := σ) (h := h11) (d := 2) (mc := (((bc - 1) - 1) - 1)) (ms := (((bs - 20) - 64) - 6)) (maxL := 1) (rest := [.ref q10, .ref x0]) (av := [.ref q10]) (fun T hT X => xt_invIN X hx hown rfl (hts _ m_8c352f93) (hts _ m_121e95dc) (hts _ m_65ca0432) nm_Reader_init (g := F0 m 26 ls [.ref q10, .ref q10, .ref x0]) rfl (b := q10) (argsL := []) (rest := [.ref q10, .ref x0]) rfl rfl (by rw [hb]; exact (xb_d D_H_init 13 rfl))) (ok_Reader_init l hfl D A σ q10 h11 (((bc - 1) - 1) - 1) (((bs - 20) - 64) - 6) _ hw) (hml.trans hl.1.symm) (by rw [hb]; exact (xb_d D_H_init 13 rfl)) (Nat.le_of_ble_eq_true rfl) (Nat.le_of_ble_eq_true rfl) (Nat.le_of_ble_eq_true rfl) (show (((k + 1) + 1) + 1) + (((bc - 1) - 1) - 1) ≤ MC by omega) (show (((n + 20) + 64) + 6) + (((bs - 20) - 64) - 6) ≤ MS by omega) (xt_w1 hB.1 m_65ca0432) (xt_cdOf hB.1 m_65ca0432) (hts _ m_938fcec4) hB hR hS hA (fun vv h13 bc14 bs14 kk14 nn14 H locs hk14 hn14 hq hEh13 hR hS => ?_) (fun XX ax h13 bc14 bs14 kk14 nn14 H locs hk14 hn14 hq hEh13 hex hR hS => ?_)
  · obtain ⟨rfl, hw⟩ := hq
    have hw := hw hEh13
    have hE := hE.tr hEh13
    refine W.eq (g2 := F0 m 29 ls [.ref q10, .ref x0]) rfl ?_
    have hk4 : xb_k h9 x0 = 1 := by rw [eh9]; exact hk4
    have hk4 : xb_k h11 x0 = 1 := by rw [eh11]; exact xb_nk hqq10 hk4
    have hk4 : xb_k h13 x0 = 1 := hEh13.k hk4
    refine xb_putPF (C := R_H) (T := F_H) (N := 11) (ty := .object "StackHost$Reader") (x := (some q10)) hx hb 0 4 hts fin_H t_H t_H_ok n_H hown hR hS hk4 (by decide) rfl (by decide) rfl (hts _ m_95161389) (fun _ h9 => h9) rfl hnm rfl (by decide +kernel) (xb_pnO _ _).1 (xb_pnO _ _).2 (xb_d D_H_init 14 rfl) (fun H locs hR hS => ?_)
    obtain ⟨h15, eh15⟩ : ∃ x : xb_H, x = xb_P h13 x0 4 (some q10) := ⟨_, rfl⟩
    rw [← eh15] at hR
    have hw := hw h15 eh15
    have hE : xb_ext h0 h15 := by rw [eh15]; exact hE
    refine lv_aload_n hx hb (xb_d D_H_init 15 rfl) rfl (lv_at hl 0 rfl) ?_
    obtain ⟨hcq16, hsq16, hw⟩ := hw
    refine xb_newo (C := R_Checker) (T := F_Checker) (N := 17) hx hb 4 hts fin_Checker t_Checker t_Checker_ok hown (hts _ m_ea8200a1) (hts _ m_ad1ec43e) (hts _ m_44748ce5) hR hS hA (by decide) rfl dg_Checker (show ((((k + 1) + 1) + 1) + kk14) + 1 ≤ MC by omega) (show ((((n + 20) + 64) + 6) + nn14) + 17 ≤ MS by omega) (xb_d D_H_init 16 rfl) (fun q16 H hqq16 hR hS => ?_)
    have hw := hw q16 hqq16
    obtain ⟨h17, eh17⟩ : ∃ x : xb_H, x = xb_new h15 q16 5 0 := ⟨_, rfl⟩
    rw [← eh17] at hR
    have hw := hw h17 eh17
    have hE : xb_ext h0 h17 := by rw [eh17]; exact hE.new _ _ hqq16
    have hk18 : xb_k h17 q16 = 5 := by rw [eh17]; exact xb_new_k _ _ _ _
    refine lv_dup hx hb (xb_d D_H_init 17 rfl) rfl ?_
    refine xb_call (D := D) (A := A) (σ := σ) (h := h17) (d := 2) (mc := (bc14 - 1)) (ms := (bs14 - 17)) (maxL := 1) (rest := [.ref q16, .ref x0]) (av := [.ref q16]) (fun T hT X => xt_invIN X hx hown rfl (hts _ m_f8611504) (hts _ m_6d444e05) (hts _ m_dfdc58b8) nm_Checker_init (g := F0 m 37 ls [.ref q16, .ref q16, .ref x0]) rfl (b := q16) (argsL := []) (rest := [.ref q16, .ref x0]) rfl rfl (by rw [hb]; exact (xb_d D_H_init 18 rfl))) (ok_Checker_init l hfl D A σ q16 h17 (bc14 - 1) (bs14 - 17) _ hw) (hml.trans hl.1.symm) (by rw [hb]; exact (xb_d D_H_init 18 rfl)) (Nat.le_of_ble_eq_true rfl) (Nat.le_of_ble_eq_true rfl) (Nat.le_of_ble_eq_true rfl) (show (((((k + 1) + 1) + 1) + kk14) + 1) + (bc14 - 1) ≤ MC by omega) (show (((((n + 20) + 64) + 6) + nn14) + 17) + (bs14 - 17) ≤ MS by omega) (xt_w1 hB.1 m_dfdc58b8) (xt_cdOf hB.1 m_dfdc58b8) (hts _ m_44748ce5) hB hR hS hA (fun vv h19 bc20 bs20 kk20 nn20 H locs hk20 hn20 hq hEh19 hR hS => ?_) (fun XX ax h19 bc20 bs20 kk20 nn20 H locs hk20 hn20 hq hEh19 hex hR hS => ?_)
    · obtain ⟨rfl, hw⟩ := hq
      have hw := hw hEh19
      have hE := hE.tr hEh19
      refine W.eq (g2 := F0 m 40 ls [.ref q16, .ref x0]) rfl ?_
      have hk4 : xb_k h15 x0 = 1 := by rw [eh15]; exact hk4
      have hk4 : xb_k h17 x0 = 1 := by rw [eh17]; exact xb_nk hqq16 hk4
      have hk4 : xb_k h19 x0 = 1 := hEh19.k hk4
      refine xb_putPF (C := R_H) (T := F_H) (N := 11) (ty := .object "StackHost$Checker") (x := (some q16)) hx hb 0 5 hts fin_H t_H t_H_ok n_H hown hR hS hk4 (by decide) rfl (by decide) rfl (hts _ m_b8585ab6) (fun _ h9 => h9) rfl hnm rfl (by decide +kernel) (xb_pnO _ _).1 (xb_pnO _ _).2 (xb_d D_H_init 19 rfl) (fun H locs hR hS => ?_)
      obtain ⟨h21, eh21⟩ : ∃ x : xb_H, x = xb_P h19 x0 5 (some q16) := ⟨_, rfl⟩
      rw [← eh21] at hR
      have hw := hw h21 eh21
      have hE : xb_ext h0 h21 := by rw [eh21]; exact hE
      refine lv_aload_n hx hb (xb_d D_H_init 20 rfl) rfl (lv_at hl 0 rfl) ?_
      obtain ⟨hcq22, hsq22, hw⟩ := hw
      refine xb_newo (C := R_World) (T := F_World) (N := 16) hx hb 6 hts fin_World t_World t_World_ok hown (hts _ m_08a89f80) (hts _ m_b1e54c7b) (hts _ m_4534b440) hR hS hA (by decide) rfl dg_World (show ((((((k + 1) + 1) + 1) + kk14) + 1) + kk20) + 1 ≤ MC by omega) (show ((((((n + 20) + 64) + 6) + nn14) + 17) + nn20) + 16 ≤ MS by omega) (xb_d D_H_init 21 rfl) (fun q22 H hqq22 hR hS => ?_)
      have hw := hw q22 hqq22
      obtain ⟨h23, eh23⟩ : ∃ x : xb_H, x = xb_new h21 q22 7 0 := ⟨_, rfl⟩
      rw [← eh23] at hR
      have hw := hw h23 eh23
      have hE : xb_ext h0 h23 := by rw [eh23]; exact hE.new _ _ hqq22
      have hk24 : xb_k h23 q22 = 7 := by rw [eh23]; exact xb_new_k _ _ _ _
      refine lv_dup hx hb (xb_d D_H_init 22 rfl) rfl ?_
      refine xb_call (D := D) (A := A) (σ := σ) (h := h23) (d := 3) (mc := (bc20 - 1)) (ms := (bs20 - 16)) (maxL := 1) (rest := [.ref q22, .ref x0]) (av := [.ref q22]) (fun T hT X => xt_invIN X hx hown rfl (hts _ m_dcffba6a) (hts _ m_703bbbc2) (hts _ m_ee1213d4) nm_World_init (g := F0 m 48 ls [.ref q22, .ref q22, .ref x0]) rfl (b := q22) (argsL := []) (rest := [.ref q22, .ref x0]) rfl rfl (by rw [hb]; exact (xb_d D_H_init 23 rfl))) (ok_World_init l hfl D A σ q22 h23 (bc20 - 1) (bs20 - 16) _ hw) (hml.trans hl.1.symm) (by rw [hb]; exact (xb_d D_H_init 23 rfl)) (Nat.le_of_ble_eq_true rfl) (Nat.le_of_ble_eq_true rfl) (Nat.le_of_ble_eq_true rfl) (show (((((((k + 1) + 1) + 1) + kk14) + 1) + kk20) + 1) + (bc20 - 1) ≤ MC by omega) (show (((((((n + 20) + 64) + 6) + nn14) + 17) + nn20) + 16) + (bs20 - 16) ≤ MS by omega) (xt_w1 hB.1 m_ee1213d4) (xt_cdOf hB.1 m_ee1213d4) (hts _ m_4534b440) hB hR hS hA (fun vv h25 bc26 bs26 kk26 nn26 H locs hk26 hn26 hq hEh25 hR hS => ?_) (fun XX ax h25 bc26 bs26 kk26 nn26 H locs hk26 hn26 hq hEh25 hex hR hS => ?_)
      · obtain ⟨rfl, hw⟩ := hq
        have hw := hw hEh25
        have hE := hE.tr hEh25
        refine W.eq (g2 := F0 m 51 ls [.ref q22, .ref x0]) rfl ?_
        have hk4 : xb_k h21 x0 = 1 := by rw [eh21]; exact hk4
        have hk4 : xb_k h23 x0 = 1 := by rw [eh23]; exact xb_nk hqq22 hk4
        have hk4 : xb_k h25 x0 = 1 := hEh25.k hk4
        refine xb_putPF (C := R_H) (T := F_H) (N := 11) (ty := .object "StackHost$World") (x := (some q22)) hx hb 0 6 hts fin_H t_H t_H_ok n_H hown hR hS hk4 (by decide) rfl (by decide) rfl (hts _ m_3ac6c4ed) (fun _ h9 => h9) rfl hnm rfl (by decide +kernel) (xb_pnO _ _).1 (xb_pnO _ _).2 (xb_d D_H_init 24 rfl) (fun H locs hR hS => ?_)
        obtain ⟨h27, eh27⟩ : ∃ x : xb_H, x = xb_P h25 x0 6 (some q22) := ⟨_, rfl⟩
        rw [← eh27] at hR
        have hw := hw h27 eh27
        have hE : xb_ext h0 h27 := by rw [eh27]; exact hE
        refine lv_aload_n hx hb (xb_d D_H_init 25 rfl) rfl (lv_at hl 0 rfl) ?_
        obtain ⟨hcq28, hsq28, hw⟩ := hw
        refine xb_newo (C := R_Machine) (T := F_Machine) (N := 18) hx hb 7 hts fin_Machine t_Machine t_Machine_ok hown (hts _ m_e1594143) (hts _ m_dad258f8) (hts _ m_73451f9b) hR hS hA (by decide) rfl dg_Machine (show ((((((((k + 1) + 1) + 1) + kk14) + 1) + kk20) + 1) + kk26) + 1 ≤ MC by omega) (show ((((((((n + 20) + 64) + 6) + nn14) + 17) + nn20) + 16) + nn26) + 18 ≤ MS by omega) (xb_d D_H_init 26 rfl) (fun q28 H hqq28 hR hS => ?_)
        have hw := hw q28 hqq28
        obtain ⟨h29, eh29⟩ : ∃ x : xb_H, x = xb_new h27 q28 8 0 := ⟨_, rfl⟩
        rw [← eh29] at hR
        have hw := hw h29 eh29
        have hE : xb_ext h0 h29 := by rw [eh29]; exact hE.new _ _ hqq28
        have hk30 : xb_k h29 q28 = 8 := by rw [eh29]; exact xb_new_k _ _ _ _
        refine lv_dup hx hb (xb_d D_H_init 27 rfl) rfl ?_
        refine lv_aload_n hx hb (xb_d D_H_init 28 rfl) rfl (lv_at hl 0 rfl) ?_
        have hk4 : xb_k h27 x0 = 1 := by rw [eh27]; exact hk4
        have hk4 : xb_k h29 x0 = 1 := by rw [eh29]; exact xb_nk hqq28 hk4
        refine xb_getP (C := R_H) (T := F_H) (N := 11) hx hb 0 6 hts fin_H hown hR hk4 (by decide) rfl (by decide) rfl (hts _ m_3ac6c4ed) (fun _ h9 => h9) (xb_d D_H_init 29 rfl) ?_
        obtain ⟨b31, eb31, hw⟩ := hw
        refine xb_some eb31 ?_
        refine xb_call (D := D) (A := A) (σ := σ) (h := h29) (d := 3) (mc := (bc26 - 1)) (ms := (bs26 - 18)) (maxL := 2) (rest := [.ref q28, .ref x0]) (av := [.ref q28, .ref b31]) (fun T hT X => xt_invI X hx hown rfl (hts _ m_44e19a1a) (hts _ m_a743133a) (hts _ m_2400c418) nm_Machine_init (g := F0 m 63 ls [.ref b31, .ref q28, .ref q28, .ref x0]) rfl (b := q28) (argsL := [.ref b31]) (rest := [.ref q28, .ref x0]) rfl rfl (by rw [hb]; exact (xb_d D_H_init 30 rfl))) (ok_Machine_init l hfl D A σ q28 b31 h29 (bc26 - 1) (bs26 - 18) _ hw) (hml.trans hl.1.symm) (by rw [hb]; exact (xb_d D_H_init 30 rfl)) (Nat.le_of_ble_eq_true rfl) (Nat.le_of_ble_eq_true rfl) (Nat.le_of_ble_eq_true rfl) (show (((((((((k + 1) + 1) + 1) + kk14) + 1) + kk20) + 1) + kk26) + 1) + (bc26 - 1) ≤ MC by omega) (show (((((((((n + 20) + 64) + 6) + nn14) + 17) + nn20) + 16) + nn26) + 18) + (bs26 - 18) ≤ MS by omega) (xt_w1 hB.1 m_2400c418) (xt_cdOf hB.1 m_2400c418) (hts _ m_73451f9b) hB hR hS hA (fun vv h32 bc33 bs33 kk33 nn33 H locs hk33 hn33 hq hEh32 hR hS => ?_) (fun XX ax h32 bc33 bs33 kk33 nn33 H locs hk33 hn33 hq hEh32 hex hR hS => ?_)
        · obtain ⟨rfl, hw⟩ := hq
          have hw := hw hEh32
          have hE := hE.tr hEh32
          refine W.eq (g2 := F0 m 66 ls [.ref q28, .ref x0]) rfl ?_
          have hk4 : xb_k h32 x0 = 1 := hEh32.k hk4
          refine xb_putPF (C := R_H) (T := F_H) (N := 11) (ty := .object "StackHost$Machine") (x := (some q28)) hx hb 0 7 hts fin_H t_H t_H_ok n_H hown hR hS hk4 (by decide) rfl (by decide) rfl (hts _ m_ab10058e) (fun _ h9 => h9) rfl hnm rfl (by decide +kernel) (xb_pnO _ _).1 (xb_pnO _ _).2 (xb_d D_H_init 31 rfl) (fun H locs hR hS => ?_)
          obtain ⟨h34, eh34⟩ : ∃ x : xb_H, x = xb_P h32 x0 7 (some q28) := ⟨_, rfl⟩
          rw [← eh34] at hR
          have hw := hw h34 eh34
          have hE : xb_ext h0 h34 := by rw [eh34]; exact hE
          refine lv_aload_n hx hb (xb_d D_H_init 32 rfl) rfl (lv_at hl 0 rfl) ?_
          obtain ⟨hcq35, hsq35, hw⟩ := hw
          refine xb_newo (C := R_Row) (T := F_Row) (N := 3) hx hb 1 hts fin_Row t_Row t_Row_ok hown (hts _ m_66fa6db5) (hts _ m_decbd935) (hts _ m_c1bef504) hR hS hA (by decide) rfl dg_Row (show ((((((((((k + 1) + 1) + 1) + kk14) + 1) + kk20) + 1) + kk26) + 1) + kk33) + 1 ≤ MC by omega) (show ((((((((((n + 20) + 64) + 6) + nn14) + 17) + nn20) + 16) + nn26) + 18) + nn33) + 3 ≤ MS by omega) (xb_d D_H_init 33 rfl) (fun q35 H hqq35 hR hS => ?_)
          have hw := hw q35 hqq35
          obtain ⟨h36, eh36⟩ : ∃ x : xb_H, x = xb_new h34 q35 2 0 := ⟨_, rfl⟩
          rw [← eh36] at hR
          have hw := hw h36 eh36
          have hE : xb_ext h0 h36 := by rw [eh36]; exact hE.new _ _ hqq35
          have hk37 : xb_k h36 q35 = 2 := by rw [eh36]; exact xb_new_k _ _ _ _
          refine lv_dup hx hb (xb_d D_H_init 34 rfl) rfl ?_
          refine lv_iconst (v := 1) hx hb (xb_d D_H_init 35 rfl) (by decide) ?_
          refine xb_call (D := D) (A := A) (σ := σ) (h := h36) (d := 2) (mc := (bc33 - 1)) (ms := (bs33 - 3)) (maxL := 2) (rest := [.ref q35, .ref x0]) (av := [.ref q35, .int 1]) (fun T hT X => xt_invI X hx hown rfl (hts _ m_b28a71f1) (hts _ m_16ca0e9f) (hts _ m_3d9e18a6) nm_Row_init (g := F0 m 75 ls [.int 1, .ref q35, .ref q35, .ref x0]) rfl (b := q35) (argsL := [.int 1]) (rest := [.ref q35, .ref x0]) rfl rfl (by rw [hb]; exact (xb_d D_H_init 36 rfl))) (ok_Row_init l hfl D A σ q35 1 h36 (bc33 - 1) (bs33 - 3) _ hw) (hml.trans hl.1.symm) (by rw [hb]; exact (xb_d D_H_init 36 rfl)) (Nat.le_of_ble_eq_true rfl) (Nat.le_of_ble_eq_true rfl) (Nat.le_of_ble_eq_true rfl) (show (((((((((((k + 1) + 1) + 1) + kk14) + 1) + kk20) + 1) + kk26) + 1) + kk33) + 1) + (bc33 - 1) ≤ MC by omega) (show (((((((((((n + 20) + 64) + 6) + nn14) + 17) + nn20) + 16) + nn26) + 18) + nn33) + 3) + (bs33 - 3) ≤ MS by omega) (xt_w1 hB.1 m_3d9e18a6) (xt_cdOf hB.1 m_3d9e18a6) (hts _ m_c1bef504) hB hR hS hA (fun vv h38 bc39 bs39 kk39 nn39 H locs hk39 hn39 hq hEh38 hR hS => ?_) (fun XX ax h38 bc39 bs39 kk39 nn39 H locs hk39 hn39 hq hEh38 hex hR hS => ?_)
          · obtain ⟨rfl, hw⟩ := hq
            have hw := hw hEh38
            have hE := hE.tr hEh38
            refine W.eq (g2 := F0 m 78 ls [.ref q35, .ref x0]) rfl ?_
            have hk4 : xb_k h34 x0 = 1 := by rw [eh34]; exact hk4
            have hk4 : xb_k h36 x0 = 1 := by rw [eh36]; exact xb_nk hqq35 hk4
            have hk4 : xb_k h38 x0 = 1 := hEh38.k hk4
            refine xb_putPF (C := R_H) (T := F_H) (N := 11) (ty := .object "StackHost$Row") (x := (some q35)) hx hb 0 8 hts fin_H t_H t_H_ok n_H hown hR hS hk4 (by decide) rfl (by decide) rfl (hts _ m_3f9b649c) (fun _ h9 => h9) rfl hnm rfl (by decide +kernel) (xb_pnO _ _).1 (xb_pnO _ _).2 (xb_d D_H_init 37 rfl) (fun H locs hR hS => ?_)
            obtain ⟨h40, eh40⟩ : ∃ x : xb_H, x = xb_P h38 x0 8 (some q35) := ⟨_, rfl⟩
            rw [← eh40] at hR
            have hw := hw h40 eh40
            have hE : xb_ext h0 h40 := by rw [eh40]; exact hE
            exact xb_vret bc39 bs39 hx hb hr hlocks (show ((((((((((((k + 1) + 1) + 1) + kk14) + 1) + kk20) + 1) + kk26) + 1) + kk33) + 1) + kk39) + bc39 ≤ MC by omega) (show ((((((((((((n + 20) + 64) + 6) + nn14) + 17) + nn20) + 16) + nn26) + 18) + nn33) + 3) + nn39) + bs39 ≤ MS by omega) hE hR hS (xb_d D_H_init 38 rfl) hw
          · exact False.elim hq
        · exact False.elim hq
      · exact False.elim hq
    · exact False.elim hq
  · exact False.elim hq

theorem m_dec1b4f0 : (.fieldLink "StackHost" 318 "StackHost$Instance" "table" "LStackHost$Table;" : Cond) ∈ xt_tbl := xt_in (xt_t7 (List.mem_of_getElem? (i := 15) (by decide +kernel))) (by decide +kernel)
theorem m_0b0ad3d1 : (.fieldLink "StackHost" 322 "StackHost$Table" "size" "I" : Cond) ∈ xt_tbl := xt_in (xt_t7 (List.mem_of_getElem? (i := 57) (by decide +kernel))) (by decide +kernel)
theorem m_f8210b1b : (.fieldLink "StackHost" 327 "StackHost$World" "elements" "LStackHost$Row;" : Cond) ∈ xt_tbl := xt_in (xt_t1 (List.mem_of_getElem? (i := 177) (by decide +kernel))) (by decide +kernel)
theorem m_cdf2e386 : (.fieldLink "StackHost" 328 "StackHost$Table" "from" "I" : Cond) ∈ xt_tbl := xt_in (xt_t7 (List.mem_of_getElem? (i := 53) (by decide +kernel))) (by decide +kernel)
theorem m_d56dd52f : (.methodLink "StackHost" 332 y_World_ownerOf : Cond) ∈ xt_tbl := xt_in (xt_t9 (List.mem_of_getElem? (i := 78) (by decide +kernel))) (by decide +kernel)
theorem m_905f65dc : (.instanceMethod y_World_ownerOf : Cond) ∈ xt_tbl := xt_in (xt_t6 (List.mem_of_getElem? (i := 140) (by decide +kernel))) (by decide +kernel)
theorem m_94d0d6f7 : (.selects "StackHost$World" y_World_ownerOf y_World_ownerOf : Cond) ∈ xt_tbl := xt_in (xt_t6 (List.mem_of_getElem? (i := 141) (by decide +kernel))) (by decide +kernel)
theorem m_267eaad3 : (.code y_World_ownerOf b_World_ownerOf 2 (some (.object "StackHost$Instance")) : Cond) ∈ xt_tbl := xt_in (xt_t6 (List.mem_of_getElem? (i := 142) (by decide +kernel))) (by decide +kernel)
theorem m_20b89c04 : (.fieldLink "StackHost" 204 "StackHost$Instance" "number" "I" : Cond) ∈ xt_tbl := xt_in (xt_t7 (List.mem_of_getElem? (i := 2) (by decide +kernel))) (by decide +kernel)
theorem m_32fb6afe : (.methodLink "StackHost" 335 y_Instance_numberOf : Cond) ∈ xt_tbl := xt_in (xt_t9 (List.mem_of_getElem? (i := 79) (by decide +kernel))) (by decide +kernel)
theorem m_5272c608 : (.instanceMethod y_Instance_numberOf : Cond) ∈ xt_tbl := xt_in (xt_t6 (List.mem_of_getElem? (i := 144) (by decide +kernel))) (by decide +kernel)
theorem m_455039e8 : (.selects "StackHost$Instance" y_Instance_numberOf y_Instance_numberOf : Cond) ∈ xt_tbl := xt_in (xt_t6 (List.mem_of_getElem? (i := 145) (by decide +kernel))) (by decide +kernel)
theorem m_bf66480a : (.code y_Instance_numberOf b_Instance_numberOf 2 (some .int) : Cond) ∈ xt_tbl := xt_in (xt_t6 (List.mem_of_getElem? (i := 146) (by decide +kernel))) (by decide +kernel)
theorem m_0e104814 : (.constant "StackHost" 331 2147418112 : Cond) ∈ xt_tbl := xt_in (xt_t9 (List.mem_of_getElem? (i := 77) (by decide +kernel))) (by decide +kernel)
theorem nm_World_ownerOf : xt_nm y_World_ownerOf 1 := ⟨by decide +kernel, by decide +kernel⟩
theorem nm_Instance_numberOf : xt_nm y_Instance_numberOf 1 := ⟨by decide +kernel, by decide +kernel⟩
set_option maxRecDepth 100000 in
def T_H_element : List (Nat × Instr × Nat) := [(0, .aload_n 0, 1), (1, .iload_n 1, 1), (2, .invokevirtual 200, 3), (5, .getfield 318, 3), (8, .astore_n 3, 1), (9, .aload_n 3, 1), (10, .ifnull 15, 3), (13, .iload_n 2, 1), (14, .ifCond .lt 11, 3), (17, .iload_n 2, 1), (18, .aload_n 3, 1), (19, .getfield 322, 3), (22, .if_icmp .lt 14, 3), (25, .new 117, 3), (28, .dup, 1), (29, .ldc_w 325, 3), (32, .invokespecial 121, 3), (35, .athrow, 1), (36, .aload_n 0, 1), (37, .getfield 36, 3), (40, .getfield 327, 3), (43, .aload_n 3, 1), (44, .getfield 328, 3), (47, .iload_n 2, 1), (48, .iadd, 1), (49, .iconst 0, 1), (50, .invokevirtual 166, 3), (53, .istore 4, 2), (55, .iload 4, 2), (57, .iconst (-1), 1), (58, .if_icmp .ne 5, 3), (61, .iconst (-1), 1), (62, .ireturn, 1), (63, .iload 4, 2), (65, .sipush 8192, 3), (68, .if_icmp .lt 14, 3), (71, .ldc_w 331, 3), (74, .iload 4, 2), (76, .sipush 8192, 3), (79, .isub, 1), (80, .iadd, 1), (81, .ireturn, 1), (82, .aload_n 0, 1), (83, .getfield 36, 3), (86, .iload 4, 2), (88, .invokevirtual 332, 3), (91, .astore 5, 2), (93, .ldc 70, 2), (95, .aload 5, 2), (97, .getfield 204, 3), (100, .imul, 1), (101, .aload 5, 2), (103, .iload 4, 2), (105, .invokevirtual 335, 3), (108, .iadd, 1), (109, .ireturn, 1)]
theorem D_H_element : ∀ q ∈ T_H_element, decode b_H_element q.1 = .ok (q.2.1, q.2.2) := by decide +kernel

set_option maxHeartbeats 4000000 in
set_option maxRecDepth 100000 in
theorem am_H_element_L25 (l : Launch) (hfl : l.flags = pinnedFlags ++ [noTraceFlag]) (D : va_G) (A : Nat → Prop) (σ MC MS : Nat) (h0 : xb_H) (Qr : Int32 → xb_H → Nat → Nat → Prop) (Qt : String → xb_H → Nat → Nat → Prop) (h : xb_H) (bc : Nat) (bs : Nat) (hw : w_H_element_L25 Qr Qt h bc bs) : xb_am l D A σ 4 MC MS h0 (fun v h bc bs => ∃ r, v = some (.int r) ∧ Qr r h bc bs) Qt y_H_element.cls y_H_element.name b_H_element 6 ([] : List ExceptionTableEntry) (some .int) 25 [] [] h bc bs := by
  unfold w_H_element_L25 at hw
  intro p e s m args below meth c hC H locs ls k n hE hl hR hS hk hn
  obtain ⟨hx, hb, hown, hlocks, htab, hml, hr, hB, hA, hnm⟩ := id hC
  have hts := hB.1.1.at args
  obtain ⟨hc9, hs9, hw⟩ := hw
  exact xb_throw (names := ["java/lang/RuntimeException", "java/lang/Exception"]) hx hb (hml.trans hl.1.symm) hlocks hfl hown xsite_b9eac3 hB hS (show k + bc ≤ MC by omega) (show n + bs ≤ MS by omega) hc9 hs9 (by decide) (Nat.le_of_ble_eq_true rfl) htab (xb_d D_H_element 13 rfl) (xb_d D_H_element 14 rfl) xt_l3 (xb_d D_H_element 15 rfl) (xb_d D_H_element 16 rfl) (xb_d D_H_element 17 rfl) hE hR hw

set_option maxHeartbeats 4000000 in
set_option maxRecDepth 100000 in
theorem ok_H_element (l : Launch) (hfl : l.flags = pinnedFlags ++ [noTraceFlag]) (D : va_G) (A : Nat → Prop) (σ : Nat) (x0 : Nat) (x1 : Int32) (x2 : Int32) (h : xb_H) (bc : Nat) (bs : Nat) (Qr : Int32 → xb_H → Nat → Nat → Prop) (Qt : String → xb_H → Nat → Nat → Prop) (hw : w_H_element x0 x1 x2 h bc bs Qr Qt) : xb_Met l y_H_element [.code y_H_element b_H_element 6 (some .int)] (xb_rm 4 bc bs) (xb_Pc D A σ h [.ref x0, .int x1, .int x2]) (xb_Qc D A h bc bs (fun v h bc bs => ∃ r, v = some (.int r) ∧ Qr r h bc bs) Qt) A := by
  refine xb_ofAm (cc := b_H_element) (by decide) (Nat.le_of_ble_eq_true rfl) ?_
  unfold w_H_element at hw
  show xb_am l D A σ 4 bc bs h (fun v h bc bs => ∃ r, v = some (.int r) ∧ Qr r h bc bs) Qt y_H_element.cls y_H_element.name b_H_element 6 ([] : List ExceptionTableEntry) (some .int) 0 [(0, .ref x0), (1, .int x1), (2, .int x2)] [] h bc bs
  obtain ⟨MC, hMC⟩ : ∃ x, x = bc := ⟨_, rfl⟩
  obtain ⟨MS, hMS⟩ : ∃ x, x = bs := ⟨_, rfl⟩
  rw [show xb_am l D A σ 4 bc bs = xb_am l D A σ 4 MC MS by rw [hMC, hMS]]
  obtain ⟨h0, hh0⟩ : ∃ x, x = h := ⟨_, rfl⟩
  rw [show xb_am l D A σ 4 MC MS h = xb_am l D A σ 4 MC MS h0 by rw [hh0]]
  intro p e s m args below meth c hC H locs ls k n hE hl hR hS hk hn
  obtain ⟨hx, hb, hown, hlocks, htab, hml, hr, hB, hA, hnm⟩ := id hC
  have hts := hB.1.1.at args
  refine lv_aload_n hx hb (xb_d D_H_element 0 rfl) rfl (lv_at hl 0 rfl) ?_
  refine lv_iload_n hx hb (xb_d D_H_element 1 rfl) rfl (lv_at hl 1 rfl) ?_
  obtain ⟨hk1, hw⟩ := hw
  refine xb_call (D := D) (A := A) (σ := σ) (h := h) (d := 2) (mc := bc) (ms := bs) (maxL := 2) (rest := []) (av := [.ref x0, .int x1]) (fun T hT X => by obtain ⟨cb9, ra9, rb9, rc9⟩ := xb_recv (ci := 0) hR rfl hk1 (by decide); exact xt_invV X hx hown (hts _ m_63e9a525) (hts _ m_93abae91) (hts _ m_f44e4f6a) (xt_sigOf (hts _ m_925de4f3)) nm_H_instanceNumbered (by rw [hT]; exact ra9) rb9 rc9 (g := F0 m 2 ls [.int x1, .ref x0]) rfl (argsL := [.int x1]) (rest := []) rfl rfl (by rw [hb]; exact (xb_d D_H_element 2 rfl))) (ok_H_instanceNumbered l hfl D A σ x0 x1 h bc bs _ _ hw) (hml.trans hl.1.symm) (by rw [hb]; exact (xb_d D_H_element 2 rfl)) (Nat.le_of_ble_eq_true rfl) (Nat.le_of_ble_eq_true rfl) (Nat.le_of_ble_eq_true rfl) (show k + bc ≤ MC by omega) (show n + bs ≤ MS by omega) (xt_w1 hB.1 m_925de4f3) (xt_cdOf hB.1 m_925de4f3) (hts _ m_ba0734f5) hB hR hS hA (fun vv h2 bc3 bs3 kk3 nn3 H locs hk3 hn3 hq hEh2 hR hS => ?_) (fun XX ax h2 bc3 bs3 kk3 nn3 H locs hk3 hn3 hq hEh2 hex hR hS => ?_)
  · obtain ⟨r3, rfl, hw⟩ := hq
    have hw := hw hEh2
    have hE := hE.tr hEh2
    refine W.eq (g2 := F0 m 5 ls [.ref r3]) rfl ?_
    obtain ⟨hk4, hw⟩ := hw
    refine xb_getP (C := R_Instance) (T := F_Instance) (N := 8) hx hb 10 6 hts fin_Instance hown hR hk4 (by decide) rfl (by decide) rfl (hts _ m_dec1b4f0) (fun _ h9 => h9) (xb_d D_H_element 3 rfl) ?_
    refine xb_split (fun ho => ?_) (fun b5 ho => ?_)
    · have hw := hw.1 ho
      refine lv_astore_nN hx hb (xb_d D_H_element 4 rfl) rfl hl (by decide) rfl (fun ls hl => ?_)
      have hl : lv_has ls 6 [(3, .null), (0, .ref x0), (1, .int x1), (2, .int x2)] := hl
      refine lv_aload_nN hx hb (xb_d D_H_element 5 rfl) rfl (lv_at hl 0 rfl) ?_
      refine lv_ifnullN (tgt := 25) hx hb (xb_d D_H_element 6 rfl) rfl ?_
      exact am_H_element_L25 l hfl D A σ MC MS h0 Qr Qt h2 bc3 bs3 hw p e s m args below meth c hC H locs ls (k + kk3) (n + nn3) hE (lv_sub hl [] rfl) hR hS (by omega) (by omega)
    · have hw := hw.2 b5 ho
      refine lv_astore_n hx hb (xb_d D_H_element 4 rfl) rfl hl (by decide) rfl (fun ls hl => ?_)
      have hl : lv_has ls 6 [(3, .ref b5), (0, .ref x0), (1, .int x1), (2, .int x2)] := hl
      refine lv_aload_n hx hb (xb_d D_H_element 5 rfl) rfl (lv_at hl 0 rfl) ?_
      refine lv_ifnull hx hb (xb_d D_H_element 6 rfl) ?_
      refine lv_iload_n hx hb (xb_d D_H_element 7 rfl) rfl (lv_at hl 3 rfl) ?_
      refine lv_if_lt (tgt := 25) hx hb (xb_d D_H_element 8 rfl) rfl (fun hc6 => ?_) (fun hc6 => ?_)
      · have hw := hw.1 hc6
        exact am_H_element_L25 l hfl D A σ MC MS h0 Qr Qt h2 bc3 bs3 hw p e s m args below meth c hC H locs ls (k + kk3) (n + nn3) hE (lv_sub hl [] rfl) hR hS (by omega) (by omega)
      · have hw := hw.2 hc6
        refine lv_iload_n hx hb (xb_d D_H_element 9 rfl) rfl (lv_at hl 3 rfl) ?_
        refine lv_aload_n hx hb (xb_d D_H_element 10 rfl) rfl (lv_at hl 0 rfl) ?_
        obtain ⟨hk7, hw⟩ := hw
        refine xb_getI (C := R_Table) (T := F_Table) (N := 3) hx hb 11 1 hts fin_Table hown hR hk7 (by decide) rfl (by decide) rfl (hts _ m_0b0ad3d1) (fun _ h9 => h9) (xb_d D_H_element 11 rfl) ?_
        refine lv_icmp_lt (tgt := 36) hx hb (xb_d D_H_element 12 rfl) rfl (fun hc8 => ?_) (fun hc8 => ?_)
        · have hw := hw.1 hc8
          refine lv_aload_n hx hb (xb_d D_H_element 18 rfl) rfl (lv_at hl 1 rfl) ?_
          have hk1 : xb_k h2 x0 = 1 := hEh2.k hk1
          refine xb_getP (C := R_H) (T := F_H) (N := 11) hx hb 0 6 hts fin_H hown hR hk1 (by decide) rfl (by decide) rfl (hts _ m_3ac6c4ed) (fun _ h9 => h9) (xb_d D_H_element 19 rfl) ?_
          obtain ⟨b9, eb9, hw⟩ := hw
          refine xb_some eb9 ?_
          obtain ⟨hk10, hw⟩ := hw
          refine xb_getP (C := R_World) (T := F_World) (N := 16) hx hb 6 4 hts fin_World hown hR hk10 (by decide) rfl (by decide) rfl (hts _ m_f8210b1b) (fun _ h9 => h9) (xb_d D_H_element 20 rfl) ?_
          obtain ⟨b11, eb11, hw⟩ := hw
          refine xb_some eb11 ?_
          refine lv_aload_n hx hb (xb_d D_H_element 21 rfl) rfl (lv_at hl 0 rfl) ?_
          refine xb_getI (C := R_Table) (T := F_Table) (N := 3) hx hb 11 0 hts fin_Table hown hR hk7 (by decide) rfl (by decide) rfl (hts _ m_cdf2e386) (fun _ h9 => h9) (xb_d D_H_element 22 rfl) ?_
          refine lv_iload_n hx hb (xb_d D_H_element 23 rfl) rfl (lv_at hl 3 rfl) ?_
          refine lv_iadd hx hb (xb_d D_H_element 24 rfl) ?_
          refine lv_iconst (v := 0) hx hb (xb_d D_H_element 25 rfl) (by decide) ?_
          obtain ⟨hk12, hw⟩ := hw
          refine xb_call0 (D := D) (A := A) (σ := σ) (h := h2) (d := 2) (maxL := 3) (rest := []) (av := [.ref b11, .int ((xb_i h2 b5 0) + x2), .int 0]) (fun T hT X => by obtain ⟨cb9, ra9, rb9, rc9⟩ := xb_recv (ci := 1) hR rfl hk12 (by decide); exact xt_invV X hx hown (hts _ m_b0980f8b) (hts _ m_8e233096) (hts _ m_27eed10c) (xt_sigOf (hts _ m_ff1c70ae)) nm_Row_at (by rw [hT]; exact ra9) rb9 rc9 (g := F0 m 50 ls [.int 0, .int ((xb_i h2 b5 0) + x2), .ref b11]) rfl (argsL := [.int ((xb_i h2 b5 0) + x2), .int 0]) (rest := []) rfl rfl (by rw [hb]; exact (xb_d D_H_element 26 rfl))) (ok_Row_at l hfl D A σ b11 ((xb_i h2 b5 0) + x2) 0 h2 _ hw) (hml.trans hl.1.symm) (by rw [hb]; exact (xb_d D_H_element 26 rfl)) (Nat.le_of_ble_eq_true rfl) (Nat.le_of_ble_eq_true rfl) (Nat.le_of_ble_eq_true rfl) (show (k + kk3) ≤ MC by omega) (show (n + nn3) ≤ MS by omega) (xt_w1 hB.1 m_ff1c70ae) (xt_cdOf hB.1 m_ff1c70ae) (hts _ m_c1bef504) hB hR hS hA (fun vv h13 H locs hq hEh13 hR hS => ?_)
          obtain ⟨r14, rfl, hw⟩ := hq
          have hw := hw hEh13
          have hE := hE.tr hEh13
          refine W.eq (g2 := F0 m 53 ls [.int r14]) rfl ?_
          refine lv_istore hx hb (xb_d D_H_element 27 rfl) hl (by decide) rfl (fun ls hl => ?_)
          have hl : lv_has ls 6 [(4, .int r14), (3, .ref b5), (0, .ref x0), (1, .int x1), (2, .int x2)] := hl
          refine lv_iload hx hb (xb_d D_H_element 28 rfl) (lv_at hl 0 rfl) ?_
          refine lv_iconst (v := (-1)) hx hb (xb_d D_H_element 29 rfl) (by decide) ?_
          refine lv_icmp_ne (tgt := 63) hx hb (xb_d D_H_element 30 rfl) rfl (fun hc15 => ?_) (fun hc15 => ?_)
          · have hw := hw.1 hc15
            refine lv_iload hx hb (xb_d D_H_element 33 rfl) (lv_at hl 0 rfl) ?_
            refine lv_sipush (v := 8192) hx hb (xb_d D_H_element 34 rfl) (by decide) ?_
            refine lv_icmp_lt (tgt := 82) hx hb (xb_d D_H_element 35 rfl) rfl (fun hc16 => ?_) (fun hc16 => ?_)
            · have hw := hw.1 hc16
              refine lv_aload_n hx hb (xb_d D_H_element 42 rfl) rfl (lv_at hl 2 rfl) ?_
              have hk1 : xb_k h13 x0 = 1 := hEh13.k hk1
              refine xb_getP (C := R_H) (T := F_H) (N := 11) hx hb 0 6 hts fin_H hown hR hk1 (by decide) rfl (by decide) rfl (hts _ m_3ac6c4ed) (fun _ h9 => h9) (xb_d D_H_element 43 rfl) ?_
              obtain ⟨b17, eb17, hw⟩ := hw
              refine xb_some eb17 ?_
              refine lv_iload hx hb (xb_d D_H_element 44 rfl) (lv_at hl 0 rfl) ?_
              obtain ⟨hk18, hw⟩ := hw
              refine xb_call0 (D := D) (A := A) (σ := σ) (h := h13) (d := 3) (maxL := 2) (rest := []) (av := [.ref b17, .int r14]) (fun T hT X => by obtain ⟨cb9, ra9, rb9, rc9⟩ := xb_recv (ci := 6) hR rfl hk18 (by decide); exact xt_invV X hx hown (hts _ m_d56dd52f) (hts _ m_905f65dc) (hts _ m_94d0d6f7) (xt_sigOf (hts _ m_267eaad3)) nm_World_ownerOf (by rw [hT]; exact ra9) rb9 rc9 (g := F0 m 88 ls [.int r14, .ref b17]) rfl (argsL := [.int r14]) (rest := []) rfl rfl (by rw [hb]; exact (xb_d D_H_element 45 rfl))) (ok_World_ownerOf l hfl D A σ b17 r14 h13 _ hw) (hml.trans hl.1.symm) (by rw [hb]; exact (xb_d D_H_element 45 rfl)) (Nat.le_of_ble_eq_true rfl) (Nat.le_of_ble_eq_true rfl) (Nat.le_of_ble_eq_true rfl) (show (k + kk3) ≤ MC by omega) (show (n + nn3) ≤ MS by omega) (xt_w1 hB.1 m_267eaad3) (xt_cdOf hB.1 m_267eaad3) (hts _ m_4534b440) hB hR hS hA (fun vv h19 H locs hq hEh19 hR hS => ?_)
              obtain ⟨r20, rfl, hw⟩ := hq
              have hw := hw hEh19
              have hE := hE.tr hEh19
              refine W.eq (g2 := F0 m 91 ls [.ref r20]) rfl ?_
              refine lv_astore hx hb (xb_d D_H_element 46 rfl) hl (by decide) rfl (fun ls hl => ?_)
              have hl : lv_has ls 6 [(5, .ref r20), (4, .int r14), (3, .ref b5), (0, .ref x0), (1, .int x1), (2, .int x2)] := hl
              refine lv_ldc (v := 65536) hx hb hown (hts _ m_1c5b51e6) (xb_d D_H_element 47 rfl) ?_
              refine lv_aload hx hb (xb_d D_H_element 48 rfl) (lv_at hl 0 rfl) ?_
              obtain ⟨hk21, hw⟩ := hw
              refine xb_getI (C := R_Instance) (T := F_Instance) (N := 8) hx hb 10 0 hts fin_Instance hown hR hk21 (by decide) rfl (by decide) rfl (hts _ m_20b89c04) (fun _ h9 => h9) (xb_d D_H_element 49 rfl) ?_
              refine lv_imul hx hb (xb_d D_H_element 50 rfl) ?_
              refine lv_aload hx hb (xb_d D_H_element 51 rfl) (lv_at hl 0 rfl) ?_
              refine lv_iload hx hb (xb_d D_H_element 52 rfl) (lv_at hl 1 rfl) ?_
              refine xb_call0 (D := D) (A := A) (σ := σ) (h := h19) (d := 2) (maxL := 2) (rest := [.int (65536 * (xb_i h19 r20 0))]) (av := [.ref r20, .int r14]) (fun T hT X => by obtain ⟨cb9, ra9, rb9, rc9⟩ := xb_recv (ci := 10) hR rfl hk21 (by decide); exact xt_invV X hx hown (hts _ m_32fb6afe) (hts _ m_5272c608) (hts _ m_455039e8) (xt_sigOf (hts _ m_bf66480a)) nm_Instance_numberOf (by rw [hT]; exact ra9) rb9 rc9 (g := F0 m 105 ls [.int r14, .ref r20, .int (65536 * (xb_i h19 r20 0))]) rfl (argsL := [.int r14]) (rest := [.int (65536 * (xb_i h19 r20 0))]) rfl rfl (by rw [hb]; exact (xb_d D_H_element 53 rfl))) (ok_Instance_numberOf l hfl D A σ r20 r14 h19 _ hw) (hml.trans hl.1.symm) (by rw [hb]; exact (xb_d D_H_element 53 rfl)) (Nat.le_of_ble_eq_true rfl) (Nat.le_of_ble_eq_true rfl) (Nat.le_of_ble_eq_true rfl) (show (k + kk3) ≤ MC by omega) (show (n + nn3) ≤ MS by omega) (xt_w1 hB.1 m_bf66480a) (xt_cdOf hB.1 m_bf66480a) (hts _ m_7a4e907b) hB hR hS hA (fun vv h22 H locs hq hEh22 hR hS => ?_)
              obtain ⟨r23, rfl, hw⟩ := hq
              have hw := hw hEh22
              have hE := hE.tr hEh22
              refine W.eq (g2 := F0 m 108 ls [.int r23, .int (65536 * (xb_i h19 r20 0))]) rfl ?_
              refine lv_iadd hx hb (xb_d D_H_element 54 rfl) ?_
              exact xb_iret bc3 bs3 hx hb hr hlocks (show (k + kk3) + bc3 ≤ MC by omega) (show (n + nn3) + bs3 ≤ MS by omega) hE hR hS (xb_d D_H_element 55 rfl) hw
            · have hw := hw.2 hc16
              refine lv_ldcw (v := 2147418112) hx hb hown (hts _ m_0e104814) (xb_d D_H_element 36 rfl) ?_
              refine lv_iload hx hb (xb_d D_H_element 37 rfl) (lv_at hl 0 rfl) ?_
              refine lv_sipush (v := 8192) hx hb (xb_d D_H_element 38 rfl) (by decide) ?_
              refine lv_isub hx hb (xb_d D_H_element 39 rfl) ?_
              refine lv_iadd hx hb (xb_d D_H_element 40 rfl) ?_
              exact xb_iret bc3 bs3 hx hb hr hlocks (show (k + kk3) + bc3 ≤ MC by omega) (show (n + nn3) + bs3 ≤ MS by omega) hE hR hS (xb_d D_H_element 41 rfl) hw
          · have hw := hw.2 hc15
            refine lv_iconst (v := (-1)) hx hb (xb_d D_H_element 31 rfl) (by decide) ?_
            exact xb_iret bc3 bs3 hx hb hr hlocks (show (k + kk3) + bc3 ≤ MC by omega) (show (n + nn3) + bs3 ≤ MS by omega) hE hR hS (xb_d D_H_element 32 rfl) hw
        · have hw := hw.2 hc8
          exact am_H_element_L25 l hfl D A σ MC MS h0 Qr Qt h2 bc3 bs3 hw p e s m args below meth c hC H locs ls (k + kk3) (n + nn3) hE (lv_sub hl [] rfl) hR hS (by omega) (by omega)
  · exact xb_pass hlocks (fun x hx9 => by rw [htab] at hx9; first | (cases hx9; done) | (simp [tableOf] at hx9; subst hx9; decide) | (simp [tableOf] at hx9; rcases hx9 with rfl | rfl <;> decide) | (simp [tableOf] at hx9; rcases hx9 with rfl | rfl | rfl <;> decide)) (show (k + kk3) + bc3 ≤ MC by omega) (show (n + nn3) + bs3 ≤ MS by omega) (hE.tr hEh2) hR hS hex hq

theorem m_b0843a70 : (.methodLink "StackHost" 224 y_H_refuseExportBeyond : Cond) ∈ xt_tbl := xt_in (xt_t7 (List.mem_of_getElem? (i := 153) (by decide +kernel))) (by decide +kernel)
theorem m_12222290 : (.instanceMethod y_H_refuseExportBeyond : Cond) ∈ xt_tbl := xt_in (xt_t7 (List.mem_of_getElem? (i := 155) (by decide +kernel))) (by decide +kernel)
theorem m_e3665496 : (.selects "StackHost" y_H_refuseExportBeyond y_H_refuseExportBeyond : Cond) ∈ xt_tbl := xt_in (xt_v6 (q := (⟨"StackHost", "refuseExportBeyond", "(LStackHost$StackModule;I)V"⟩, 11)) (List.mem_of_getElem? (i := 3) (by decide +kernel))) (by decide +kernel)
theorem m_e263622d : (.code y_H_refuseExportBeyond b_H_refuseExportBeyond 3 none : Cond) ∈ xt_tbl := xt_in (xt_t7 (List.mem_of_getElem? (i := 156) (by decide +kernel))) (by decide +kernel)
theorem m_813f0fde : (.methodLink "StackHost" 228 y_StackModule_typeOf : Cond) ∈ xt_tbl := xt_in (xt_t7 (List.mem_of_getElem? (i := 158) (by decide +kernel))) (by decide +kernel)
theorem m_eb5729e5 : (.instanceMethod y_StackModule_typeOf : Cond) ∈ xt_tbl := xt_in (xt_t4 (List.mem_of_getElem? (i := 156) (by decide +kernel))) (by decide +kernel)
theorem m_9cf0d8be : (.selects "StackHost$StackModule" y_StackModule_typeOf y_StackModule_typeOf : Cond) ∈ xt_tbl := xt_in (xt_t4 (List.mem_of_getElem? (i := 157) (by decide +kernel))) (by decide +kernel)
theorem m_42e2443a : (.code y_StackModule_typeOf b_StackModule_typeOf 2 (some .int) : Cond) ∈ xt_tbl := xt_in (xt_t4 (List.mem_of_getElem? (i := 158) (by decide +kernel))) (by decide +kernel)
theorem m_3ab16739 : (.methodLink "StackHost" 231 y_StackModule_parameters : Cond) ∈ xt_tbl := xt_in (xt_t7 (List.mem_of_getElem? (i := 159) (by decide +kernel))) (by decide +kernel)
theorem m_aa97372f : (.instanceMethod y_StackModule_parameters : Cond) ∈ xt_tbl := xt_in (xt_t4 (List.mem_of_getElem? (i := 160) (by decide +kernel))) (by decide +kernel)
theorem m_8160d9b3 : (.selects "StackHost$StackModule" y_StackModule_parameters y_StackModule_parameters : Cond) ∈ xt_tbl := xt_in (xt_t4 (List.mem_of_getElem? (i := 161) (by decide +kernel))) (by decide +kernel)
theorem m_8621e59b : (.code y_StackModule_parameters b_StackModule_parameters 2 (some .int) : Cond) ∈ xt_tbl := xt_in (xt_t4 (List.mem_of_getElem? (i := 162) (by decide +kernel))) (by decide +kernel)
theorem m_e5532862 : (.methodLink "StackHost" 234 y_StackModule_hasResult : Cond) ∈ xt_tbl := xt_in (xt_t7 (List.mem_of_getElem? (i := 160) (by decide +kernel))) (by decide +kernel)
theorem m_00587e6f : (.instanceMethod y_StackModule_hasResult : Cond) ∈ xt_tbl := xt_in (xt_t4 (List.mem_of_getElem? (i := 164) (by decide +kernel))) (by decide +kernel)
theorem m_d605b1a5 : (.selects "StackHost$StackModule" y_StackModule_hasResult y_StackModule_hasResult : Cond) ∈ xt_tbl := xt_in (xt_t4 (List.mem_of_getElem? (i := 165) (by decide +kernel))) (by decide +kernel)
theorem m_ac93cd0b : (.code y_StackModule_hasResult b_StackModule_hasResult 2 (some .boolean) : Cond) ∈ xt_tbl := xt_in (xt_t4 (List.mem_of_getElem? (i := 166) (by decide +kernel))) (by decide +kernel)
theorem nm_H_refuseExportBeyond : xt_nm y_H_refuseExportBeyond 2 := ⟨by decide +kernel, by decide +kernel⟩
theorem nm_StackModule_typeOf : xt_nm y_StackModule_typeOf 1 := ⟨by decide +kernel, by decide +kernel⟩
theorem nm_StackModule_parameters : xt_nm y_StackModule_parameters 1 := ⟨by decide +kernel, by decide +kernel⟩
theorem nm_StackModule_hasResult : xt_nm y_StackModule_hasResult 1 := ⟨by decide +kernel, by decide +kernel⟩
set_option maxRecDepth 100000 in
def T_H_exported : List (Nat × Instr × Nat) := [(0, .aload_n 0, 1), (1, .iload_n 1, 1), (2, .invokevirtual 200, 3), (5, .getfield 216, 3), (8, .astore 4, 2), (10, .aload_n 0, 1), (11, .aload 4, 2), (13, .iload_n 2, 1), (14, .invokevirtual 224, 3), (17, .aload 4, 2), (19, .getfield 148, 3), (22, .iload_n 2, 1), (23, .iconst 1, 1), (24, .invokevirtual 166, 3), (27, .istore 5, 2), (29, .aload 4, 2), (31, .getfield 148, 3), (34, .iload_n 2, 1), (35, .iconst 2, 1), (36, .invokevirtual 166, 3), (39, .istore 6, 2), (41, .iload_n 3, 1), (42, .tableswitch 84 0 3 #[30, 33, 36, 58], 30), (72, .iload 5, 2), (74, .ireturn, 1), (75, .iload 6, 2), (77, .ireturn, 1), (78, .iload 5, 2), (80, .ifCond .ne 18, 3), (83, .aload 4, 2), (85, .aload 4, 2), (87, .iload 6, 2), (89, .invokevirtual 228, 3), (92, .invokevirtual 231, 3), (95, .goto 4, 3), (98, .iconst 0, 1), (99, .ireturn, 1), (100, .iload 5, 2), (102, .ifCond .ne 22, 3), (105, .aload 4, 2), (107, .aload 4, 2), (109, .iload 6, 2), (111, .invokevirtual 228, 3), (114, .invokevirtual 234, 3), (117, .ifCond .eq 7, 3), (120, .iconst 1, 1), (121, .goto 4, 3), (124, .iconst 0, 1), (125, .ireturn, 1), (126, .new 117, 3), (129, .dup, 1), (130, .ldc 238, 2), (132, .invokespecial 121, 3), (135, .athrow, 1)]
theorem D_H_exported : ∀ q ∈ T_H_exported, decode b_H_exported q.1 = .ok (q.2.1, q.2.2) := by decide +kernel

set_option maxHeartbeats 4000000 in
set_option maxRecDepth 100000 in
theorem am_H_exported_L125 (l : Launch) (hfl : l.flags = pinnedFlags ++ [noTraceFlag]) (D : va_G) (A : Nat → Prop) (σ MC MS : Nat) (h0 : xb_H) (Qr : Int32 → xb_H → Nat → Nat → Prop) (Qt : String → xb_H → Nat → Nat → Prop) (y0 : Int32) (h : xb_H) (bc : Nat) (bs : Nat) (hw : w_H_exported_L125 Qr Qt y0 h bc bs) : xb_am l D A σ 4 MC MS h0 (fun v h bc bs => ∃ r, v = some (.int r) ∧ Qr r h bc bs) Qt y_H_exported.cls y_H_exported.name b_H_exported 7 ([] : List ExceptionTableEntry) (some .int) 125 [] [.int y0] h bc bs := by
  unfold w_H_exported_L125 at hw
  intro p e s m args below meth c hC H locs ls k n hE hl hR hS hk hn
  obtain ⟨hx, hb, hown, hlocks, htab, hml, hr, hB, hA, hnm⟩ := id hC
  have hts := hB.1.1.at args
  exact xb_iret bc bs hx hb hr hlocks (show k + bc ≤ MC by omega) (show n + bs ≤ MS by omega) hE hR hS (xb_d D_H_exported 48 rfl) hw

set_option maxHeartbeats 4000000 in
set_option maxRecDepth 100000 in
theorem am_H_exported_L124 (l : Launch) (hfl : l.flags = pinnedFlags ++ [noTraceFlag]) (D : va_G) (A : Nat → Prop) (σ MC MS : Nat) (h0 : xb_H) (Qr : Int32 → xb_H → Nat → Nat → Prop) (Qt : String → xb_H → Nat → Nat → Prop) (h : xb_H) (bc : Nat) (bs : Nat) (hw : w_H_exported_L124 Qr Qt h bc bs) : xb_am l D A σ 4 MC MS h0 (fun v h bc bs => ∃ r, v = some (.int r) ∧ Qr r h bc bs) Qt y_H_exported.cls y_H_exported.name b_H_exported 7 ([] : List ExceptionTableEntry) (some .int) 124 [] [] h bc bs := by
  unfold w_H_exported_L124 at hw
  intro p e s m args below meth c hC H locs ls k n hE hl hR hS hk hn
  obtain ⟨hx, hb, hown, hlocks, htab, hml, hr, hB, hA, hnm⟩ := id hC
  have hts := hB.1.1.at args
  refine lv_iconst (v := 0) hx hb (xb_d D_H_exported 47 rfl) (by decide) ?_
  exact am_H_exported_L125 l hfl D A σ MC MS h0 Qr Qt 0 h bc bs hw p e s m args below meth c hC H locs ls k n hE (lv_sub hl [] rfl) hR hS (by omega) (by omega)

set_option maxHeartbeats 4000000 in
set_option maxRecDepth 100000 in
theorem am_H_exported_L99 (l : Launch) (hfl : l.flags = pinnedFlags ++ [noTraceFlag]) (D : va_G) (A : Nat → Prop) (σ MC MS : Nat) (h0 : xb_H) (Qr : Int32 → xb_H → Nat → Nat → Prop) (Qt : String → xb_H → Nat → Nat → Prop) (y0 : Int32) (h : xb_H) (bc : Nat) (bs : Nat) (hw : w_H_exported_L99 Qr Qt y0 h bc bs) : xb_am l D A σ 4 MC MS h0 (fun v h bc bs => ∃ r, v = some (.int r) ∧ Qr r h bc bs) Qt y_H_exported.cls y_H_exported.name b_H_exported 7 ([] : List ExceptionTableEntry) (some .int) 99 [] [.int y0] h bc bs := by
  unfold w_H_exported_L99 at hw
  intro p e s m args below meth c hC H locs ls k n hE hl hR hS hk hn
  obtain ⟨hx, hb, hown, hlocks, htab, hml, hr, hB, hA, hnm⟩ := id hC
  have hts := hB.1.1.at args
  exact xb_iret bc bs hx hb hr hlocks (show k + bc ≤ MC by omega) (show n + bs ≤ MS by omega) hE hR hS (xb_d D_H_exported 36 rfl) hw

set_option maxHeartbeats 4000000 in
set_option maxRecDepth 100000 in
theorem ok_H_exported (l : Launch) (hfl : l.flags = pinnedFlags ++ [noTraceFlag]) (D : va_G) (A : Nat → Prop) (σ : Nat) (x0 : Nat) (x1 : Int32) (x2 : Int32) (x3 : Int32) (h : xb_H) (bc : Nat) (bs : Nat) (Qr : Int32 → xb_H → Nat → Nat → Prop) (Qt : String → xb_H → Nat → Nat → Prop) (hw : w_H_exported x0 x1 x2 x3 h bc bs Qr Qt) : xb_Met l y_H_exported [.code y_H_exported b_H_exported 7 (some .int)] (xb_rm 4 bc bs) (xb_Pc D A σ h [.ref x0, .int x1, .int x2, .int x3]) (xb_Qc D A h bc bs (fun v h bc bs => ∃ r, v = some (.int r) ∧ Qr r h bc bs) Qt) A := by
  refine xb_ofAm (cc := b_H_exported) (by decide) (Nat.le_of_ble_eq_true rfl) ?_
  unfold w_H_exported at hw
  show xb_am l D A σ 4 bc bs h (fun v h bc bs => ∃ r, v = some (.int r) ∧ Qr r h bc bs) Qt y_H_exported.cls y_H_exported.name b_H_exported 7 ([] : List ExceptionTableEntry) (some .int) 0 [(0, .ref x0), (1, .int x1), (2, .int x2), (3, .int x3)] [] h bc bs
  obtain ⟨MC, hMC⟩ : ∃ x, x = bc := ⟨_, rfl⟩
  obtain ⟨MS, hMS⟩ : ∃ x, x = bs := ⟨_, rfl⟩
  rw [show xb_am l D A σ 4 bc bs = xb_am l D A σ 4 MC MS by rw [hMC, hMS]]
  obtain ⟨h0, hh0⟩ : ∃ x, x = h := ⟨_, rfl⟩
  rw [show xb_am l D A σ 4 MC MS h = xb_am l D A σ 4 MC MS h0 by rw [hh0]]
  intro p e s m args below meth c hC H locs ls k n hE hl hR hS hk hn
  obtain ⟨hx, hb, hown, hlocks, htab, hml, hr, hB, hA, hnm⟩ := id hC
  have hts := hB.1.1.at args
  refine lv_aload_n hx hb (xb_d D_H_exported 0 rfl) rfl (lv_at hl 0 rfl) ?_
  refine lv_iload_n hx hb (xb_d D_H_exported 1 rfl) rfl (lv_at hl 1 rfl) ?_
  obtain ⟨hk1, hw⟩ := hw
  refine xb_call (D := D) (A := A) (σ := σ) (h := h) (d := 2) (mc := bc) (ms := bs) (maxL := 2) (rest := []) (av := [.ref x0, .int x1]) (fun T hT X => by obtain ⟨cb9, ra9, rb9, rc9⟩ := xb_recv (ci := 0) hR rfl hk1 (by decide); exact xt_invV X hx hown (hts _ m_63e9a525) (hts _ m_93abae91) (hts _ m_f44e4f6a) (xt_sigOf (hts _ m_925de4f3)) nm_H_instanceNumbered (by rw [hT]; exact ra9) rb9 rc9 (g := F0 m 2 ls [.int x1, .ref x0]) rfl (argsL := [.int x1]) (rest := []) rfl rfl (by rw [hb]; exact (xb_d D_H_exported 2 rfl))) (ok_H_instanceNumbered l hfl D A σ x0 x1 h bc bs _ _ hw) (hml.trans hl.1.symm) (by rw [hb]; exact (xb_d D_H_exported 2 rfl)) (Nat.le_of_ble_eq_true rfl) (Nat.le_of_ble_eq_true rfl) (Nat.le_of_ble_eq_true rfl) (show k + bc ≤ MC by omega) (show n + bs ≤ MS by omega) (xt_w1 hB.1 m_925de4f3) (xt_cdOf hB.1 m_925de4f3) (hts _ m_ba0734f5) hB hR hS hA (fun vv h2 bc3 bs3 kk3 nn3 H locs hk3 hn3 hq hEh2 hR hS => ?_) (fun XX ax h2 bc3 bs3 kk3 nn3 H locs hk3 hn3 hq hEh2 hex hR hS => ?_)
  · obtain ⟨r3, rfl, hw⟩ := hq
    have hw := hw hEh2
    have hE := hE.tr hEh2
    refine W.eq (g2 := F0 m 5 ls [.ref r3]) rfl ?_
    obtain ⟨hk4, hw⟩ := hw
    refine xb_getP (C := R_Instance) (T := F_Instance) (N := 8) hx hb 10 1 hts fin_Instance hown hR hk4 (by decide) rfl (by decide) rfl (hts _ m_105e0328) (fun _ h9 => h9) (xb_d D_H_exported 3 rfl) ?_
    obtain ⟨b5, eb5, hw⟩ := hw
    refine xb_some eb5 ?_
    refine lv_astore hx hb (xb_d D_H_exported 4 rfl) hl (by decide) rfl (fun ls hl => ?_)
    have hl : lv_has ls 7 [(4, .ref b5), (0, .ref x0), (1, .int x1), (2, .int x2), (3, .int x3)] := hl
    refine lv_aload_n hx hb (xb_d D_H_exported 5 rfl) rfl (lv_at hl 1 rfl) ?_
    refine lv_aload hx hb (xb_d D_H_exported 6 rfl) (lv_at hl 0 rfl) ?_
    refine lv_iload_n hx hb (xb_d D_H_exported 7 rfl) rfl (lv_at hl 3 rfl) ?_
    have hk1 : xb_k h2 x0 = 1 := hEh2.k hk1
    refine xb_call (D := D) (A := A) (σ := σ) (h := h2) (d := 3) (mc := bc3) (ms := bs3) (maxL := 3) (rest := []) (av := [.ref x0, .ref b5, .int x2]) (fun T hT X => by obtain ⟨cb9, ra9, rb9, rc9⟩ := xb_recv (ci := 0) hR rfl hk1 (by decide); exact xt_invV X hx hown (hts _ m_b0843a70) (hts _ m_12222290) (hts _ m_e3665496) (xt_sigOf (hts _ m_e263622d)) nm_H_refuseExportBeyond (by rw [hT]; exact ra9) rb9 rc9 (g := F0 m 14 ls [.int x2, .ref b5, .ref x0]) rfl (argsL := [.ref b5, .int x2]) (rest := []) rfl rfl (by rw [hb]; exact (xb_d D_H_exported 8 rfl))) (ok_H_refuseExportBeyond l hfl D A σ x0 b5 x2 h2 bc3 bs3 _ _ hw) (hml.trans hl.1.symm) (by rw [hb]; exact (xb_d D_H_exported 8 rfl)) (Nat.le_of_ble_eq_true rfl) (Nat.le_of_ble_eq_true rfl) (Nat.le_of_ble_eq_true rfl) (show (k + kk3) + bc3 ≤ MC by omega) (show (n + nn3) + bs3 ≤ MS by omega) (xt_w1 hB.1 m_e263622d) (xt_cdOf hB.1 m_e263622d) (hts _ m_ba0734f5) hB hR hS hA (fun vv h6 bc7 bs7 kk7 nn7 H locs hk7 hn7 hq hEh6 hR hS => ?_) (fun XX ax h6 bc7 bs7 kk7 nn7 H locs hk7 hn7 hq hEh6 hex hR hS => ?_)
    · obtain ⟨rfl, hw⟩ := hq
      have hw := hw hEh6
      have hE := hE.tr hEh6
      refine W.eq (g2 := F0 m 17 ls []) rfl ?_
      refine lv_aload hx hb (xb_d D_H_exported 9 rfl) (lv_at hl 0 rfl) ?_
      obtain ⟨hk8, hw⟩ := hw
      refine xb_getP (C := R_StackModule) (T := F_StackModule) (N := 19) hx hb 2 8 hts fin_StackModule hown hR hk8 (by decide) rfl (by decide) rfl (hts _ m_47aa209b) (fun _ h9 => h9) (xb_d D_H_exported 10 rfl) ?_
      obtain ⟨b9, eb9, hw⟩ := hw
      refine xb_some eb9 ?_
      refine lv_iload_n hx hb (xb_d D_H_exported 11 rfl) rfl (lv_at hl 3 rfl) ?_
      refine lv_iconst (v := 1) hx hb (xb_d D_H_exported 12 rfl) (by decide) ?_
      obtain ⟨hk10, hw⟩ := hw
      refine xb_call0 (D := D) (A := A) (σ := σ) (h := h6) (d := 2) (maxL := 3) (rest := []) (av := [.ref b9, .int x2, .int 1]) (fun T hT X => by obtain ⟨cb9, ra9, rb9, rc9⟩ := xb_recv (ci := 1) hR rfl hk10 (by decide); exact xt_invV X hx hown (hts _ m_b0980f8b) (hts _ m_8e233096) (hts _ m_27eed10c) (xt_sigOf (hts _ m_ff1c70ae)) nm_Row_at (by rw [hT]; exact ra9) rb9 rc9 (g := F0 m 24 ls [.int 1, .int x2, .ref b9]) rfl (argsL := [.int x2, .int 1]) (rest := []) rfl rfl (by rw [hb]; exact (xb_d D_H_exported 13 rfl))) (ok_Row_at l hfl D A σ b9 x2 1 h6 _ hw) (hml.trans hl.1.symm) (by rw [hb]; exact (xb_d D_H_exported 13 rfl)) (Nat.le_of_ble_eq_true rfl) (Nat.le_of_ble_eq_true rfl) (Nat.le_of_ble_eq_true rfl) (show ((k + kk3) + kk7) ≤ MC by omega) (show ((n + nn3) + nn7) ≤ MS by omega) (xt_w1 hB.1 m_ff1c70ae) (xt_cdOf hB.1 m_ff1c70ae) (hts _ m_c1bef504) hB hR hS hA (fun vv h11 H locs hq hEh11 hR hS => ?_)
      obtain ⟨r12, rfl, hw⟩ := hq
      have hw := hw hEh11
      have hE := hE.tr hEh11
      refine W.eq (g2 := F0 m 27 ls [.int r12]) rfl ?_
      refine lv_istore hx hb (xb_d D_H_exported 14 rfl) hl (by decide) rfl (fun ls hl => ?_)
      have hl : lv_has ls 7 [(5, .int r12), (4, .ref b5), (0, .ref x0), (1, .int x1), (2, .int x2), (3, .int x3)] := hl
      refine lv_aload hx hb (xb_d D_H_exported 15 rfl) (lv_at hl 1 rfl) ?_
      have hk8 : xb_k h11 b5 = 3 := hEh11.k hk8
      refine xb_getP (C := R_StackModule) (T := F_StackModule) (N := 19) hx hb 2 8 hts fin_StackModule hown hR hk8 (by decide) rfl (by decide) rfl (hts _ m_47aa209b) (fun _ h9 => h9) (xb_d D_H_exported 16 rfl) ?_
      obtain ⟨b13, eb13, hw⟩ := hw
      refine xb_some eb13 ?_
      refine lv_iload_n hx hb (xb_d D_H_exported 17 rfl) rfl (lv_at hl 4 rfl) ?_
      refine lv_iconst (v := 2) hx hb (xb_d D_H_exported 18 rfl) (by decide) ?_
      obtain ⟨hk14, hw⟩ := hw
      refine xb_call0 (D := D) (A := A) (σ := σ) (h := h11) (d := 2) (maxL := 3) (rest := []) (av := [.ref b13, .int x2, .int 2]) (fun T hT X => by obtain ⟨cb9, ra9, rb9, rc9⟩ := xb_recv (ci := 1) hR rfl hk14 (by decide); exact xt_invV X hx hown (hts _ m_b0980f8b) (hts _ m_8e233096) (hts _ m_27eed10c) (xt_sigOf (hts _ m_ff1c70ae)) nm_Row_at (by rw [hT]; exact ra9) rb9 rc9 (g := F0 m 36 ls [.int 2, .int x2, .ref b13]) rfl (argsL := [.int x2, .int 2]) (rest := []) rfl rfl (by rw [hb]; exact (xb_d D_H_exported 19 rfl))) (ok_Row_at l hfl D A σ b13 x2 2 h11 _ hw) (hml.trans hl.1.symm) (by rw [hb]; exact (xb_d D_H_exported 19 rfl)) (Nat.le_of_ble_eq_true rfl) (Nat.le_of_ble_eq_true rfl) (Nat.le_of_ble_eq_true rfl) (show ((k + kk3) + kk7) ≤ MC by omega) (show ((n + nn3) + nn7) ≤ MS by omega) (xt_w1 hB.1 m_ff1c70ae) (xt_cdOf hB.1 m_ff1c70ae) (hts _ m_c1bef504) hB hR hS hA (fun vv h15 H locs hq hEh15 hR hS => ?_)
      obtain ⟨r16, rfl, hw⟩ := hq
      have hw := hw hEh15
      have hE := hE.tr hEh15
      refine W.eq (g2 := F0 m 39 ls [.int r16]) rfl ?_
      refine lv_istore hx hb (xb_d D_H_exported 20 rfl) hl (by decide) rfl (fun ls hl => ?_)
      have hl : lv_has ls 7 [(6, .int r16), (5, .int r12), (4, .ref b5), (0, .ref x0), (1, .int x1), (2, .int x2), (3, .int x3)] := hl
      refine lv_iload_n hx hb (xb_d D_H_exported 21 rfl) rfl (lv_at hl 6 rfl) ?_
      by_cases hc17 : x3 = 0
      · have hw := hw.1 hc17
        refine xt_numi hc17 ?_
        refine lv_tableIn (off := 30) (tgt := 72) hx hb (xb_d D_H_exported 22 rfl) (by decide +kernel) (by decide +kernel) (by decide +kernel) (by decide) ?_
        refine lv_iload hx hb (xb_d D_H_exported 23 rfl) (lv_at hl 1 rfl) ?_
        exact xb_iret bc7 bs7 hx hb hr hlocks (show ((k + kk3) + kk7) + bc7 ≤ MC by omega) (show ((n + nn3) + nn7) + bs7 ≤ MS by omega) hE hR hS (xb_d D_H_exported 24 rfl) hw
      have hw := hw.2
      by_cases hc18 : x3 = 1
      · have hw := hw.1 hc18
        refine xt_numi hc18 ?_
        refine lv_tableIn (off := 33) (tgt := 75) hx hb (xb_d D_H_exported 22 rfl) (by decide +kernel) (by decide +kernel) (by decide +kernel) (by decide) ?_
        refine lv_iload hx hb (xb_d D_H_exported 25 rfl) (lv_at hl 0 rfl) ?_
        exact xb_iret bc7 bs7 hx hb hr hlocks (show ((k + kk3) + kk7) + bc7 ≤ MC by omega) (show ((n + nn3) + nn7) + bs7 ≤ MS by omega) hE hR hS (xb_d D_H_exported 26 rfl) hw
      have hw := hw.2
      by_cases hc19 : x3 = 2
      · have hw := hw.1 hc19
        refine xt_numi hc19 ?_
        refine lv_tableIn (off := 36) (tgt := 78) hx hb (xb_d D_H_exported 22 rfl) (by decide +kernel) (by decide +kernel) (by decide +kernel) (by decide) ?_
        refine lv_iload hx hb (xb_d D_H_exported 27 rfl) (lv_at hl 1 rfl) ?_
        refine lv_if_ne (tgt := 98) hx hb (xb_d D_H_exported 28 rfl) rfl (fun hc20 => ?_) (fun hc20 => ?_)
        · have hw := hw.1 hc20
          refine lv_iconst (v := 0) hx hb (xb_d D_H_exported 35 rfl) (by decide) ?_
          exact am_H_exported_L99 l hfl D A σ MC MS h0 Qr Qt 0 h15 bc7 bs7 hw p e s m args below meth c hC H locs ls ((k + kk3) + kk7) ((n + nn3) + nn7) hE (lv_sub hl [] rfl) hR hS (by omega) (by omega)
        · have hw := hw.2 hc20
          refine lv_aload hx hb (xb_d D_H_exported 29 rfl) (lv_at hl 2 rfl) ?_
          refine lv_aload hx hb (xb_d D_H_exported 30 rfl) (lv_at hl 2 rfl) ?_
          refine lv_iload hx hb (xb_d D_H_exported 31 rfl) (lv_at hl 0 rfl) ?_
          have hk8 : xb_k h15 b5 = 3 := hEh15.k hk8
          refine xb_call0 (D := D) (A := A) (σ := σ) (h := h15) (d := 3) (maxL := 2) (rest := [.ref b5]) (av := [.ref b5, .int r16]) (fun T hT X => by obtain ⟨cb9, ra9, rb9, rc9⟩ := xb_recv (ci := 2) hR rfl hk8 (by decide); exact xt_invV X hx hown (hts _ m_813f0fde) (hts _ m_eb5729e5) (hts _ m_9cf0d8be) (xt_sigOf (hts _ m_42e2443a)) nm_StackModule_typeOf (by rw [hT]; exact ra9) rb9 rc9 (g := F0 m 89 ls [.int r16, .ref b5, .ref b5]) rfl (argsL := [.int r16]) (rest := [.ref b5]) rfl rfl (by rw [hb]; exact (xb_d D_H_exported 32 rfl))) (ok_StackModule_typeOf l hfl D A σ b5 r16 h15 _ hw) (hml.trans hl.1.symm) (by rw [hb]; exact (xb_d D_H_exported 32 rfl)) (Nat.le_of_ble_eq_true rfl) (Nat.le_of_ble_eq_true rfl) (Nat.le_of_ble_eq_true rfl) (show ((k + kk3) + kk7) ≤ MC by omega) (show ((n + nn3) + nn7) ≤ MS by omega) (xt_w1 hB.1 m_42e2443a) (xt_cdOf hB.1 m_42e2443a) (hts _ m_9c375545) hB hR hS hA (fun vv h21 H locs hq hEh21 hR hS => ?_)
          obtain ⟨r22, rfl, hw⟩ := hq
          have hw := hw hEh21
          have hE := hE.tr hEh21
          refine W.eq (g2 := F0 m 92 ls [.int r22, .ref b5]) rfl ?_
          have hk8 : xb_k h21 b5 = 3 := hEh21.k hk8
          refine xb_call0 (D := D) (A := A) (σ := σ) (h := h21) (d := 3) (maxL := 2) (rest := []) (av := [.ref b5, .int r22]) (fun T hT X => by obtain ⟨cb9, ra9, rb9, rc9⟩ := xb_recv (ci := 2) hR rfl hk8 (by decide); exact xt_invV X hx hown (hts _ m_3ab16739) (hts _ m_aa97372f) (hts _ m_8160d9b3) (xt_sigOf (hts _ m_8621e59b)) nm_StackModule_parameters (by rw [hT]; exact ra9) rb9 rc9 (g := F0 m 92 ls [.int r22, .ref b5]) rfl (argsL := [.int r22]) (rest := []) rfl rfl (by rw [hb]; exact (xb_d D_H_exported 33 rfl))) (ok_StackModule_parameters l hfl D A σ b5 r22 h21 _ hw) (hml.trans hl.1.symm) (by rw [hb]; exact (xb_d D_H_exported 33 rfl)) (Nat.le_of_ble_eq_true rfl) (Nat.le_of_ble_eq_true rfl) (Nat.le_of_ble_eq_true rfl) (show ((k + kk3) + kk7) ≤ MC by omega) (show ((n + nn3) + nn7) ≤ MS by omega) (xt_w1 hB.1 m_8621e59b) (xt_cdOf hB.1 m_8621e59b) (hts _ m_9c375545) hB hR hS hA (fun vv h23 H locs hq hEh23 hR hS => ?_)
          obtain ⟨r24, rfl, hw⟩ := hq
          have hw := hw hEh23
          have hE := hE.tr hEh23
          refine W.eq (g2 := F0 m 95 ls [.int r24]) rfl ?_
          refine lv_goto (tgt := 99) hx hb (xb_d D_H_exported 34 rfl) rfl ?_
          exact am_H_exported_L99 l hfl D A σ MC MS h0 Qr Qt r24 h23 bc7 bs7 hw p e s m args below meth c hC H locs ls ((k + kk3) + kk7) ((n + nn3) + nn7) hE (lv_sub hl [] rfl) hR hS (by omega) (by omega)
      have hw := hw.2
      by_cases hc25 : x3 = 3
      · have hw := hw.1 hc25
        refine xt_numi hc25 ?_
        refine lv_tableIn (off := 58) (tgt := 100) hx hb (xb_d D_H_exported 22 rfl) (by decide +kernel) (by decide +kernel) (by decide +kernel) (by decide) ?_
        refine lv_iload hx hb (xb_d D_H_exported 37 rfl) (lv_at hl 1 rfl) ?_
        refine lv_if_ne (tgt := 124) hx hb (xb_d D_H_exported 38 rfl) rfl (fun hc26 => ?_) (fun hc26 => ?_)
        · have hw := hw.1 hc26
          exact am_H_exported_L124 l hfl D A σ MC MS h0 Qr Qt h15 bc7 bs7 hw p e s m args below meth c hC H locs ls ((k + kk3) + kk7) ((n + nn3) + nn7) hE (lv_sub hl [] rfl) hR hS (by omega) (by omega)
        · have hw := hw.2 hc26
          refine lv_aload hx hb (xb_d D_H_exported 39 rfl) (lv_at hl 2 rfl) ?_
          refine lv_aload hx hb (xb_d D_H_exported 40 rfl) (lv_at hl 2 rfl) ?_
          refine lv_iload hx hb (xb_d D_H_exported 41 rfl) (lv_at hl 0 rfl) ?_
          have hk8 : xb_k h15 b5 = 3 := hEh15.k hk8
          refine xb_call0 (D := D) (A := A) (σ := σ) (h := h15) (d := 3) (maxL := 2) (rest := [.ref b5]) (av := [.ref b5, .int r16]) (fun T hT X => by obtain ⟨cb9, ra9, rb9, rc9⟩ := xb_recv (ci := 2) hR rfl hk8 (by decide); exact xt_invV X hx hown (hts _ m_813f0fde) (hts _ m_eb5729e5) (hts _ m_9cf0d8be) (xt_sigOf (hts _ m_42e2443a)) nm_StackModule_typeOf (by rw [hT]; exact ra9) rb9 rc9 (g := F0 m 111 ls [.int r16, .ref b5, .ref b5]) rfl (argsL := [.int r16]) (rest := [.ref b5]) rfl rfl (by rw [hb]; exact (xb_d D_H_exported 42 rfl))) (ok_StackModule_typeOf l hfl D A σ b5 r16 h15 _ hw) (hml.trans hl.1.symm) (by rw [hb]; exact (xb_d D_H_exported 42 rfl)) (Nat.le_of_ble_eq_true rfl) (Nat.le_of_ble_eq_true rfl) (Nat.le_of_ble_eq_true rfl) (show ((k + kk3) + kk7) ≤ MC by omega) (show ((n + nn3) + nn7) ≤ MS by omega) (xt_w1 hB.1 m_42e2443a) (xt_cdOf hB.1 m_42e2443a) (hts _ m_9c375545) hB hR hS hA (fun vv h27 H locs hq hEh27 hR hS => ?_)
          obtain ⟨r28, rfl, hw⟩ := hq
          have hw := hw hEh27
          have hE := hE.tr hEh27
          refine W.eq (g2 := F0 m 114 ls [.int r28, .ref b5]) rfl ?_
          have hk8 : xb_k h27 b5 = 3 := hEh27.k hk8
          refine xb_call0 (D := D) (A := A) (σ := σ) (h := h27) (d := 3) (maxL := 2) (rest := []) (av := [.ref b5, .int r28]) (fun T hT X => by obtain ⟨cb9, ra9, rb9, rc9⟩ := xb_recv (ci := 2) hR rfl hk8 (by decide); exact xt_invV X hx hown (hts _ m_e5532862) (hts _ m_00587e6f) (hts _ m_d605b1a5) (xt_sigOf (hts _ m_ac93cd0b)) nm_StackModule_hasResult (by rw [hT]; exact ra9) rb9 rc9 (g := F0 m 114 ls [.int r28, .ref b5]) rfl (argsL := [.int r28]) (rest := []) rfl rfl (by rw [hb]; exact (xb_d D_H_exported 43 rfl))) (ok_StackModule_hasResult l hfl D A σ b5 r28 h27 _ hw) (hml.trans hl.1.symm) (by rw [hb]; exact (xb_d D_H_exported 43 rfl)) (Nat.le_of_ble_eq_true rfl) (Nat.le_of_ble_eq_true rfl) (Nat.le_of_ble_eq_true rfl) (show ((k + kk3) + kk7) ≤ MC by omega) (show ((n + nn3) + nn7) ≤ MS by omega) (xt_w1 hB.1 m_ac93cd0b) (xt_cdOf hB.1 m_ac93cd0b) (hts _ m_9c375545) hB hR hS hA (fun vv h29 H locs hq hEh29 hR hS => ?_)
          obtain ⟨r30, rfl, hw⟩ := hq
          have hw := hw hEh29
          have hE := hE.tr hEh29
          refine W.eq (g2 := F0 m 117 ls [.int r30]) rfl ?_
          refine lv_if_eq (tgt := 124) hx hb (xb_d D_H_exported 44 rfl) rfl (fun hc31 => ?_) (fun hc31 => ?_)
          · have hw := hw.1 hc31
            exact am_H_exported_L124 l hfl D A σ MC MS h0 Qr Qt h29 bc7 bs7 hw p e s m args below meth c hC H locs ls ((k + kk3) + kk7) ((n + nn3) + nn7) hE (lv_sub hl [] rfl) hR hS (by omega) (by omega)
          · have hw := hw.2 hc31
            refine lv_iconst (v := 1) hx hb (xb_d D_H_exported 45 rfl) (by decide) ?_
            refine lv_goto (tgt := 125) hx hb (xb_d D_H_exported 46 rfl) rfl ?_
            exact am_H_exported_L125 l hfl D A σ MC MS h0 Qr Qt 1 h29 bc7 bs7 hw p e s m args below meth c hC H locs ls ((k + kk3) + kk7) ((n + nn3) + nn7) hE (lv_sub hl [] rfl) hR hS (by omega) (by omega)
      have hw := hw.2
      have hw := hw hc17 hc18 hc19 hc25
      refine lv_tableOut (tgt := 126) hx hb (xb_d D_H_exported 22 rfl) (by have a0 := xb_nl (0) 0 (by decide) hc17; have a1 := xb_nl (1) 1 (by decide) hc18; have a2 := xb_nl (2) 2 (by decide) hc19; have a3 := xb_nl (3) 3 (by decide) hc25; omega) (by decide) ?_
      obtain ⟨hc9, hs9, hw⟩ := hw
      exact xb_throw (names := ["java/lang/RuntimeException", "java/lang/Exception"]) hx hb (hml.trans hl.1.symm) hlocks hfl hown xsite_a3c850 hB hS (show ((k + kk3) + kk7) + bc7 ≤ MC by omega) (show ((n + nn3) + nn7) + bs7 ≤ MS by omega) hc9 hs9 (by decide) (Nat.le_of_ble_eq_true rfl) htab (xb_d D_H_exported 49 rfl) (xb_d D_H_exported 50 rfl) xt_l2 (xb_d D_H_exported 51 rfl) (xb_d D_H_exported 52 rfl) (xb_d D_H_exported 53 rfl) hE hR hw
    · exact xb_pass hlocks (fun x hx9 => by rw [htab] at hx9; first | (cases hx9; done) | (simp [tableOf] at hx9; subst hx9; decide) | (simp [tableOf] at hx9; rcases hx9 with rfl | rfl <;> decide) | (simp [tableOf] at hx9; rcases hx9 with rfl | rfl | rfl <;> decide)) (show ((k + kk3) + kk7) + bc7 ≤ MC by omega) (show ((n + nn3) + nn7) + bs7 ≤ MS by omega) (hE.tr hEh6) hR hS hex hq
  · exact xb_pass hlocks (fun x hx9 => by rw [htab] at hx9; first | (cases hx9; done) | (simp [tableOf] at hx9; subst hx9; decide) | (simp [tableOf] at hx9; rcases hx9 with rfl | rfl <;> decide) | (simp [tableOf] at hx9; rcases hx9 with rfl | rfl | rfl <;> decide)) (show (k + kk3) + bc3 ≤ MC by omega) (show (n + nn3) + bs3 ≤ MS by omega) (hE.tr hEh2) hR hS hex hq

theorem m_4a194adb : (.methodLink "StackHost" 292 y_H_memoryWith : Cond) ∈ xt_tbl := xt_in (xt_t9 (List.mem_of_getElem? (i := 45) (by decide +kernel))) (by decide +kernel)
theorem m_98d394c7 : (.instanceMethod y_H_memoryWith : Cond) ∈ xt_tbl := xt_in (xt_t9 (List.mem_of_getElem? (i := 47) (by decide +kernel))) (by decide +kernel)
theorem m_31edfe3b : (.selects "StackHost" y_H_memoryWith y_H_memoryWith : Cond) ∈ xt_tbl := xt_in (xt_v8 (q := (⟨"StackHost", "memoryWith", "(II)LStackHost$Memory;"⟩, 11)) (List.mem_of_getElem? (i := 15) (by decide +kernel))) (by decide +kernel)
theorem m_8546755b : (.code y_H_memoryWith b_H_memoryWith 4 (some (.object "StackHost$Memory")) : Cond) ∈ xt_tbl := xt_in (xt_t9 (List.mem_of_getElem? (i := 48) (by decide +kernel))) (by decide +kernel)
theorem m_4667599c : (.methodLink "StackHost" 296 y_Memory_byteAt : Cond) ∈ xt_tbl := xt_in (xt_t9 (List.mem_of_getElem? (i := 51) (by decide +kernel))) (by decide +kernel)
theorem m_48b23b1a : (.instanceMethod y_Memory_byteAt : Cond) ∈ xt_tbl := xt_in (xt_t8 (List.mem_of_getElem? (i := 234) (by decide +kernel))) (by decide +kernel)
theorem m_389f80ed : (.selects "StackHost$Memory" y_Memory_byteAt y_Memory_byteAt : Cond) ∈ xt_tbl := xt_in (xt_t8 (List.mem_of_getElem? (i := 235) (by decide +kernel))) (by decide +kernel)
theorem m_ce08cc3c : (.code y_Memory_byteAt b_Memory_byteAt 2 (some .int) : Cond) ∈ xt_tbl := xt_in (xt_t8 (List.mem_of_getElem? (i := 236) (by decide +kernel))) (by decide +kernel)
theorem nm_H_memoryWith : xt_nm y_H_memoryWith 2 := ⟨by decide +kernel, by decide +kernel⟩
theorem nm_Memory_byteAt : xt_nm y_Memory_byteAt 1 := ⟨by decide +kernel, by decide +kernel⟩
set_option maxRecDepth 100000 in
def T_H_peek : List (Nat × Instr × Nat) := [(0, .aload_n 0, 1), (1, .iload_n 1, 1), (2, .iload_n 2, 1), (3, .invokevirtual 292, 3), (6, .astore_n 3, 1), (7, .aload_n 3, 1), (8, .iload_n 2, 1), (9, .invokevirtual 296, 3), (12, .ireturn, 1)]
theorem D_H_peek : ∀ q ∈ T_H_peek, decode b_H_peek q.1 = .ok (q.2.1, q.2.2) := by decide +kernel

set_option maxHeartbeats 4000000 in
set_option maxRecDepth 100000 in
theorem ok_H_peek (l : Launch) (hfl : l.flags = pinnedFlags ++ [noTraceFlag]) (D : va_G) (A : Nat → Prop) (σ : Nat) (x0 : Nat) (x1 : Int32) (x2 : Int32) (h : xb_H) (bc : Nat) (bs : Nat) (Qr : Int32 → xb_H → Nat → Nat → Prop) (Qt : String → xb_H → Nat → Nat → Prop) (hw : w_H_peek x0 x1 x2 h bc bs Qr Qt) : xb_Met l y_H_peek [.code y_H_peek b_H_peek 4 (some .int)] (xb_rm 4 bc bs) (xb_Pc D A σ h [.ref x0, .int x1, .int x2]) (xb_Qc D A h bc bs (fun v h bc bs => ∃ r, v = some (.int r) ∧ Qr r h bc bs) Qt) A := by
  refine xb_ofAm (cc := b_H_peek) (by decide) (Nat.le_of_ble_eq_true rfl) ?_
  unfold w_H_peek at hw
  show xb_am l D A σ 4 bc bs h (fun v h bc bs => ∃ r, v = some (.int r) ∧ Qr r h bc bs) Qt y_H_peek.cls y_H_peek.name b_H_peek 4 ([] : List ExceptionTableEntry) (some .int) 0 [(0, .ref x0), (1, .int x1), (2, .int x2)] [] h bc bs
  obtain ⟨MC, hMC⟩ : ∃ x, x = bc := ⟨_, rfl⟩
  obtain ⟨MS, hMS⟩ : ∃ x, x = bs := ⟨_, rfl⟩
  rw [show xb_am l D A σ 4 bc bs = xb_am l D A σ 4 MC MS by rw [hMC, hMS]]
  obtain ⟨h0, hh0⟩ : ∃ x, x = h := ⟨_, rfl⟩
  rw [show xb_am l D A σ 4 MC MS h = xb_am l D A σ 4 MC MS h0 by rw [hh0]]
  intro p e s m args below meth c hC H locs ls k n hE hl hR hS hk hn
  obtain ⟨hx, hb, hown, hlocks, htab, hml, hr, hB, hA, hnm⟩ := id hC
  have hts := hB.1.1.at args
  refine lv_aload_n hx hb (xb_d D_H_peek 0 rfl) rfl (lv_at hl 0 rfl) ?_
  refine lv_iload_n hx hb (xb_d D_H_peek 1 rfl) rfl (lv_at hl 1 rfl) ?_
  refine lv_iload_n hx hb (xb_d D_H_peek 2 rfl) rfl (lv_at hl 2 rfl) ?_
  obtain ⟨hk1, hw⟩ := hw
  refine xb_call (D := D) (A := A) (σ := σ) (h := h) (d := 3) (mc := bc) (ms := bs) (maxL := 4) (rest := []) (av := [.ref x0, .int x1, .int x2]) (fun T hT X => by obtain ⟨cb9, ra9, rb9, rc9⟩ := xb_recv (ci := 0) hR rfl hk1 (by decide); exact xt_invV X hx hown (hts _ m_4a194adb) (hts _ m_98d394c7) (hts _ m_31edfe3b) (xt_sigOf (hts _ m_8546755b)) nm_H_memoryWith (by rw [hT]; exact ra9) rb9 rc9 (g := F0 m 3 ls [.int x2, .int x1, .ref x0]) rfl (argsL := [.int x1, .int x2]) (rest := []) rfl rfl (by rw [hb]; exact (xb_d D_H_peek 3 rfl))) (ok_H_memoryWith l hfl D A σ x0 x1 x2 h bc bs _ _ hw) (hml.trans hl.1.symm) (by rw [hb]; exact (xb_d D_H_peek 3 rfl)) (Nat.le_of_ble_eq_true rfl) (Nat.le_of_ble_eq_true rfl) (Nat.le_of_ble_eq_true rfl) (show k + bc ≤ MC by omega) (show n + bs ≤ MS by omega) (xt_w1 hB.1 m_8546755b) (xt_cdOf hB.1 m_8546755b) (hts _ m_ba0734f5) hB hR hS hA (fun vv h2 bc3 bs3 kk3 nn3 H locs hk3 hn3 hq hEh2 hR hS => ?_) (fun XX ax h2 bc3 bs3 kk3 nn3 H locs hk3 hn3 hq hEh2 hex hR hS => ?_)
  · obtain ⟨r3, rfl, hw⟩ := hq
    have hw := hw hEh2
    have hE := hE.tr hEh2
    refine W.eq (g2 := F0 m 6 ls [.ref r3]) rfl ?_
    refine lv_astore_n hx hb (xb_d D_H_peek 4 rfl) rfl hl (by decide) rfl (fun ls hl => ?_)
    have hl : lv_has ls 4 [(3, .ref r3), (0, .ref x0), (1, .int x1), (2, .int x2)] := hl
    refine lv_aload_n hx hb (xb_d D_H_peek 5 rfl) rfl (lv_at hl 0 rfl) ?_
    refine lv_iload_n hx hb (xb_d D_H_peek 6 rfl) rfl (lv_at hl 3 rfl) ?_
    obtain ⟨hk4, hw⟩ := hw
    refine xb_call0 (D := D) (A := A) (σ := σ) (h := h2) (d := 3) (maxL := 2) (rest := []) (av := [.ref r3, .int x2]) (fun T hT X => by obtain ⟨cb9, ra9, rb9, rc9⟩ := xb_recv (ci := 12) hR rfl hk4 (by decide); exact xt_invV X hx hown (hts _ m_4667599c) (hts _ m_48b23b1a) (hts _ m_389f80ed) (xt_sigOf (hts _ m_ce08cc3c)) nm_Memory_byteAt (by rw [hT]; exact ra9) rb9 rc9 (g := F0 m 9 ls [.int x2, .ref r3]) rfl (argsL := [.int x2]) (rest := []) rfl rfl (by rw [hb]; exact (xb_d D_H_peek 7 rfl))) (ok_Memory_byteAt l hfl D A σ r3 x2 h2 _ hw) (hml.trans hl.1.symm) (by rw [hb]; exact (xb_d D_H_peek 7 rfl)) (Nat.le_of_ble_eq_true rfl) (Nat.le_of_ble_eq_true rfl) (Nat.le_of_ble_eq_true rfl) (show (k + kk3) ≤ MC by omega) (show (n + nn3) ≤ MS by omega) (xt_w1 hB.1 m_ce08cc3c) (xt_cdOf hB.1 m_ce08cc3c) (hts _ m_e7289b5f) hB hR hS hA (fun vv h5 H locs hq hEh5 hR hS => ?_)
    obtain ⟨r6, rfl, hw⟩ := hq
    have hw := hw hEh5
    have hE := hE.tr hEh5
    refine W.eq (g2 := F0 m 12 ls [.int r6]) rfl ?_
    exact xb_iret bc3 bs3 hx hb hr hlocks (show (k + kk3) + bc3 ≤ MC by omega) (show (n + nn3) + bs3 ≤ MS by omega) hE hR hS (xb_d D_H_peek 8 rfl) hw
  · exact xb_pass hlocks (fun x hx9 => by rw [htab] at hx9; first | (cases hx9; done) | (simp [tableOf] at hx9; subst hx9; decide) | (simp [tableOf] at hx9; rcases hx9 with rfl | rfl <;> decide) | (simp [tableOf] at hx9; rcases hx9 with rfl | rfl | rfl <;> decide)) (show (k + kk3) + bc3 ≤ MC by omega) (show (n + nn3) + bs3 ≤ MS by omega) (hE.tr hEh2) hR hS hex hq

theorem m_ef02f869 : (.methodLink "StackHost" 304 y_Memory_setByte : Cond) ∈ xt_tbl := xt_in (xt_t9 (List.mem_of_getElem? (i := 59) (by decide +kernel))) (by decide +kernel)
theorem m_d015b981 : (.instanceMethod y_Memory_setByte : Cond) ∈ xt_tbl := xt_in (xt_t7 (List.mem_of_getElem? (i := 105) (by decide +kernel))) (by decide +kernel)
theorem m_2cc55bcf : (.selects "StackHost$Memory" y_Memory_setByte y_Memory_setByte : Cond) ∈ xt_tbl := xt_in (xt_t7 (List.mem_of_getElem? (i := 106) (by decide +kernel))) (by decide +kernel)
theorem m_2b9cfcee : (.code y_Memory_setByte b_Memory_setByte 5 none : Cond) ∈ xt_tbl := xt_in (xt_t7 (List.mem_of_getElem? (i := 107) (by decide +kernel))) (by decide +kernel)
theorem nm_Memory_setByte : xt_nm y_Memory_setByte 2 := ⟨by decide +kernel, by decide +kernel⟩
set_option maxRecDepth 100000 in
def T_H_poke : List (Nat × Instr × Nat) := [(0, .aload_n 0, 1), (1, .iload_n 1, 1), (2, .iload_n 2, 1), (3, .invokevirtual 292, 3), (6, .astore 4, 2), (8, .aload 4, 2), (10, .iload_n 2, 1), (11, .iload_n 3, 1), (12, .invokevirtual 304, 3), (15, .return_, 1)]
theorem D_H_poke : ∀ q ∈ T_H_poke, decode b_H_poke q.1 = .ok (q.2.1, q.2.2) := by decide +kernel

set_option maxHeartbeats 4000000 in
set_option maxRecDepth 100000 in
theorem ok_H_poke (l : Launch) (hfl : l.flags = pinnedFlags ++ [noTraceFlag]) (D : va_G) (A : Nat → Prop) (σ : Nat) (x0 : Nat) (x1 : Int32) (x2 : Int32) (x3 : Int32) (h : xb_H) (bc : Nat) (bs : Nat) (Qr : xb_H → Nat → Nat → Prop) (Qt : String → xb_H → Nat → Nat → Prop) (hw : w_H_poke x0 x1 x2 x3 h bc bs Qr Qt) : xb_Met l y_H_poke [.code y_H_poke b_H_poke 5 none] (xb_rm 4 bc bs) (xb_Pc D A σ h [.ref x0, .int x1, .int x2, .int x3]) (xb_Qc D A h bc bs (fun v h bc bs => v = none ∧ Qr h bc bs) Qt) A := by
  refine xb_ofAm (cc := b_H_poke) (by decide) (Nat.le_of_ble_eq_true rfl) ?_
  unfold w_H_poke at hw
  show xb_am l D A σ 4 bc bs h (fun v h bc bs => v = none ∧ Qr h bc bs) Qt y_H_poke.cls y_H_poke.name b_H_poke 5 ([] : List ExceptionTableEntry) none 0 [(0, .ref x0), (1, .int x1), (2, .int x2), (3, .int x3)] [] h bc bs
  obtain ⟨MC, hMC⟩ : ∃ x, x = bc := ⟨_, rfl⟩
  obtain ⟨MS, hMS⟩ : ∃ x, x = bs := ⟨_, rfl⟩
  rw [show xb_am l D A σ 4 bc bs = xb_am l D A σ 4 MC MS by rw [hMC, hMS]]
  obtain ⟨h0, hh0⟩ : ∃ x, x = h := ⟨_, rfl⟩
  rw [show xb_am l D A σ 4 MC MS h = xb_am l D A σ 4 MC MS h0 by rw [hh0]]
  intro p e s m args below meth c hC H locs ls k n hE hl hR hS hk hn
  obtain ⟨hx, hb, hown, hlocks, htab, hml, hr, hB, hA, hnm⟩ := id hC
  have hts := hB.1.1.at args
  refine lv_aload_n hx hb (xb_d D_H_poke 0 rfl) rfl (lv_at hl 0 rfl) ?_
  refine lv_iload_n hx hb (xb_d D_H_poke 1 rfl) rfl (lv_at hl 1 rfl) ?_
  refine lv_iload_n hx hb (xb_d D_H_poke 2 rfl) rfl (lv_at hl 2 rfl) ?_
  obtain ⟨hk1, hw⟩ := hw
  refine xb_call (D := D) (A := A) (σ := σ) (h := h) (d := 3) (mc := bc) (ms := bs) (maxL := 4) (rest := []) (av := [.ref x0, .int x1, .int x2]) (fun T hT X => by obtain ⟨cb9, ra9, rb9, rc9⟩ := xb_recv (ci := 0) hR rfl hk1 (by decide); exact xt_invV X hx hown (hts _ m_4a194adb) (hts _ m_98d394c7) (hts _ m_31edfe3b) (xt_sigOf (hts _ m_8546755b)) nm_H_memoryWith (by rw [hT]; exact ra9) rb9 rc9 (g := F0 m 3 ls [.int x2, .int x1, .ref x0]) rfl (argsL := [.int x1, .int x2]) (rest := []) rfl rfl (by rw [hb]; exact (xb_d D_H_poke 3 rfl))) (ok_H_memoryWith l hfl D A σ x0 x1 x2 h bc bs _ _ hw) (hml.trans hl.1.symm) (by rw [hb]; exact (xb_d D_H_poke 3 rfl)) (Nat.le_of_ble_eq_true rfl) (Nat.le_of_ble_eq_true rfl) (Nat.le_of_ble_eq_true rfl) (show k + bc ≤ MC by omega) (show n + bs ≤ MS by omega) (xt_w1 hB.1 m_8546755b) (xt_cdOf hB.1 m_8546755b) (hts _ m_ba0734f5) hB hR hS hA (fun vv h2 bc3 bs3 kk3 nn3 H locs hk3 hn3 hq hEh2 hR hS => ?_) (fun XX ax h2 bc3 bs3 kk3 nn3 H locs hk3 hn3 hq hEh2 hex hR hS => ?_)
  · obtain ⟨r3, rfl, hw⟩ := hq
    have hw := hw hEh2
    have hE := hE.tr hEh2
    refine W.eq (g2 := F0 m 6 ls [.ref r3]) rfl ?_
    refine lv_astore hx hb (xb_d D_H_poke 4 rfl) hl (by decide) rfl (fun ls hl => ?_)
    have hl : lv_has ls 5 [(4, .ref r3), (0, .ref x0), (1, .int x1), (2, .int x2), (3, .int x3)] := hl
    refine lv_aload hx hb (xb_d D_H_poke 5 rfl) (lv_at hl 0 rfl) ?_
    refine lv_iload_n hx hb (xb_d D_H_poke 6 rfl) rfl (lv_at hl 3 rfl) ?_
    refine lv_iload_n hx hb (xb_d D_H_poke 7 rfl) rfl (lv_at hl 4 rfl) ?_
    obtain ⟨hk4, hw⟩ := hw
    refine xb_call0 (D := D) (A := A) (σ := σ) (h := h2) (d := 3) (maxL := 5) (rest := []) (av := [.ref r3, .int x2, .int x3]) (fun T hT X => by obtain ⟨cb9, ra9, rb9, rc9⟩ := xb_recv (ci := 12) hR rfl hk4 (by decide); exact xt_invV X hx hown (hts _ m_ef02f869) (hts _ m_d015b981) (hts _ m_2cc55bcf) (xt_sigOf (hts _ m_2b9cfcee)) nm_Memory_setByte (by rw [hT]; exact ra9) rb9 rc9 (g := F0 m 12 ls [.int x3, .int x2, .ref r3]) rfl (argsL := [.int x2, .int x3]) (rest := []) rfl rfl (by rw [hb]; exact (xb_d D_H_poke 8 rfl))) (ok_Memory_setByte l hfl D A σ r3 x2 x3 h2 _ hw) (hml.trans hl.1.symm) (by rw [hb]; exact (xb_d D_H_poke 8 rfl)) (Nat.le_of_ble_eq_true rfl) (Nat.le_of_ble_eq_true rfl) (Nat.le_of_ble_eq_true rfl) (show (k + kk3) ≤ MC by omega) (show (n + nn3) ≤ MS by omega) (xt_w1 hB.1 m_2b9cfcee) (xt_cdOf hB.1 m_2b9cfcee) (hts _ m_e7289b5f) hB hR hS hA (fun vv h5 H locs hq hEh5 hR hS => ?_)
    obtain ⟨rfl, hw⟩ := hq
    have hw := hw hEh5
    have hE := hE.tr hEh5
    refine W.eq (g2 := F0 m 15 ls []) rfl ?_
    exact xb_vret bc3 bs3 hx hb hr hlocks (show (k + kk3) + bc3 ≤ MC by omega) (show (n + nn3) + bs3 ≤ MS by omega) hE hR hS (xb_d D_H_poke 9 rfl) hw
  · exact xb_pass hlocks (fun x hx9 => by rw [htab] at hx9; first | (cases hx9; done) | (simp [tableOf] at hx9; subst hx9; decide) | (simp [tableOf] at hx9; rcases hx9 with rfl | rfl <;> decide) | (simp [tableOf] at hx9; rcases hx9 with rfl | rfl | rfl <;> decide)) (show (k + kk3) + bc3 ≤ MC by omega) (show (n + nn3) + bs3 ≤ MS by omega) (hE.tr hEh2) hR hS hex hq

theorem m_baf0cde0 : (.methodLink "StackHost$Checker" 279 y_Checker_checkLabel : Cond) ∈ xt_tbl := xt_in (xt_t6 (List.mem_of_getElem? (i := 27) (by decide +kernel))) (by decide +kernel)
theorem m_df7367f5 : (.instanceMethod y_Checker_checkLabel : Cond) ∈ xt_tbl := xt_in (xt_t6 (List.mem_of_getElem? (i := 29) (by decide +kernel))) (by decide +kernel)
theorem m_b8e4b77a : (.selects "StackHost$Checker" y_Checker_checkLabel y_Checker_checkLabel : Cond) ∈ xt_tbl := xt_in (xt_v4 (q := (⟨"StackHost$Checker", "checkLabel", "(I)I"⟩, 17)) (List.mem_of_getElem? (i := 11) (by decide +kernel))) (by decide +kernel)
theorem m_ae5b25e9 : (.code y_Checker_checkLabel b_Checker_checkLabel 3 (some .int) : Cond) ∈ xt_tbl := xt_in (xt_t6 (List.mem_of_getElem? (i := 30) (by decide +kernel))) (by decide +kernel)
theorem m_0b33e20f : (.methodLink "StackHost$Checker" 251 y_Checker_take : Cond) ∈ xt_tbl := xt_in (xt_t5 (List.mem_of_getElem? (i := 218) (by decide +kernel))) (by decide +kernel)
theorem m_338dda25 : (.instanceMethod y_Checker_take : Cond) ∈ xt_tbl := xt_in (xt_t5 (List.mem_of_getElem? (i := 220) (by decide +kernel))) (by decide +kernel)
theorem m_d7dc08f9 : (.selects "StackHost$Checker" y_Checker_take y_Checker_take : Cond) ∈ xt_tbl := xt_in (xt_v4 (q := (⟨"StackHost$Checker", "take", "(I)I"⟩, 17)) (List.mem_of_getElem? (i := 1) (by decide +kernel))) (by decide +kernel)
theorem m_b71cce2b : (.code y_Checker_take b_Checker_take 3 (some .int) : Cond) ∈ xt_tbl := xt_in (xt_t5 (List.mem_of_getElem? (i := 221) (by decide +kernel))) (by decide +kernel)
theorem m_761ff7fc : (.methodLink "StackHost$Checker" 236 y_Checker_put : Cond) ∈ xt_tbl := xt_in (xt_t5 (List.mem_of_getElem? (i := 222) (by decide +kernel))) (by decide +kernel)
theorem m_e867be1e : (.instanceMethod y_Checker_put : Cond) ∈ xt_tbl := xt_in (xt_t5 (List.mem_of_getElem? (i := 224) (by decide +kernel))) (by decide +kernel)
theorem m_098fc344 : (.selects "StackHost$Checker" y_Checker_put y_Checker_put : Cond) ∈ xt_tbl := xt_in (xt_v4 (q := (⟨"StackHost$Checker", "put", "(I)V"⟩, 17)) (List.mem_of_getElem? (i := 2) (by decide +kernel))) (by decide +kernel)
theorem m_43ff17c7 : (.code y_Checker_put b_Checker_put 2 none : Cond) ∈ xt_tbl := xt_in (xt_t5 (List.mem_of_getElem? (i := 225) (by decide +kernel))) (by decide +kernel)
theorem nm_Checker_checkLabel : xt_nm y_Checker_checkLabel 1 := ⟨by decide +kernel, by decide +kernel⟩
theorem nm_Checker_take : xt_nm y_Checker_take 1 := ⟨by decide +kernel, by decide +kernel⟩
theorem nm_Checker_put : xt_nm y_Checker_put 1 := ⟨by decide +kernel, by decide +kernel⟩
set_option maxRecDepth 100000 in
def T_Checker_checkBranchIf : List (Nat × Instr × Nat) := [(0, .aload_n 0, 1), (1, .getfield 25, 3), (4, .aload_n 0, 1), (5, .aload_n 0, 1), (6, .getfield 196, 3), (9, .iconst 1, 1), (10, .iadd, 1), (11, .invokevirtual 279, 3), (14, .iaload, 1), (15, .istore_n 1, 1), (16, .aload_n 0, 1), (17, .bipush 127, 2), (19, .invokevirtual 251, 3), (22, .pop, 1), (23, .aload_n 0, 1), (24, .iload_n 1, 1), (25, .invokevirtual 251, 3), (28, .pop, 1), (29, .aload_n 0, 1), (30, .iload_n 1, 1), (31, .invokevirtual 236, 3), (34, .return_, 1)]
theorem D_Checker_checkBranchIf : ∀ q ∈ T_Checker_checkBranchIf, decode b_Checker_checkBranchIf q.1 = .ok (q.2.1, q.2.2) := by decide +kernel

set_option maxHeartbeats 4000000 in
set_option maxRecDepth 100000 in
theorem ok_Checker_checkBranchIf (l : Launch) (hfl : l.flags = pinnedFlags ++ [noTraceFlag]) (D : va_G) (A : Nat → Prop) (σ : Nat) (x0 : Nat) (h : xb_H) (bc : Nat) (bs : Nat) (Qr : xb_H → Nat → Nat → Prop) (Qt : String → xb_H → Nat → Nat → Prop) (hw : w_Checker_checkBranchIf x0 h bc bs Qr Qt) : xb_Met l y_Checker_checkBranchIf [.code y_Checker_checkBranchIf b_Checker_checkBranchIf 2 none] (xb_rm 4 bc bs) (xb_Pc D A σ h [.ref x0]) (xb_Qc D A h bc bs (fun v h bc bs => v = none ∧ Qr h bc bs) Qt) A := by
  refine xb_ofAm (cc := b_Checker_checkBranchIf) (by decide) (Nat.le_of_ble_eq_true rfl) ?_
  unfold w_Checker_checkBranchIf at hw
  show xb_am l D A σ 4 bc bs h (fun v h bc bs => v = none ∧ Qr h bc bs) Qt y_Checker_checkBranchIf.cls y_Checker_checkBranchIf.name b_Checker_checkBranchIf 2 ([] : List ExceptionTableEntry) none 0 [(0, .ref x0)] [] h bc bs
  obtain ⟨MC, hMC⟩ : ∃ x, x = bc := ⟨_, rfl⟩
  obtain ⟨MS, hMS⟩ : ∃ x, x = bs := ⟨_, rfl⟩
  rw [show xb_am l D A σ 4 bc bs = xb_am l D A σ 4 MC MS by rw [hMC, hMS]]
  obtain ⟨h0, hh0⟩ : ∃ x, x = h := ⟨_, rfl⟩
  rw [show xb_am l D A σ 4 MC MS h = xb_am l D A σ 4 MC MS h0 by rw [hh0]]
  intro p e s m args below meth c hC H locs ls k n hE hl hR hS hk hn
  obtain ⟨hx, hb, hown, hlocks, htab, hml, hr, hB, hA, hnm⟩ := id hC
  have hts := hB.1.1.at args
  refine lv_aload_n hx hb (xb_d D_Checker_checkBranchIf 0 rfl) rfl (lv_at hl 0 rfl) ?_
  obtain ⟨hk1, hw⟩ := hw
  refine xb_getP (C := R_Checker) (T := F_Checker) (N := 17) hx hb 4 12 hts fin_Checker hown hR hk1 (by decide) rfl (by decide) rfl (hts _ m_8a464e71) (fun _ h9 => h9) (xb_d D_Checker_checkBranchIf 1 rfl) ?_
  obtain ⟨b2, eb2, hw⟩ := hw
  refine xb_some eb2 ?_
  refine lv_aload_n hx hb (xb_d D_Checker_checkBranchIf 2 rfl) rfl (lv_at hl 0 rfl) ?_
  refine lv_aload_n hx hb (xb_d D_Checker_checkBranchIf 3 rfl) rfl (lv_at hl 0 rfl) ?_
  refine xb_getI (C := R_Checker) (T := F_Checker) (N := 17) hx hb 4 9 hts fin_Checker hown hR hk1 (by decide) rfl (by decide) rfl (hts _ m_28193d38) (fun _ h9 => h9) (xb_d D_Checker_checkBranchIf 4 rfl) ?_
  refine lv_iconst (v := 1) hx hb (xb_d D_Checker_checkBranchIf 5 rfl) (by decide) ?_
  refine lv_iadd hx hb (xb_d D_Checker_checkBranchIf 6 rfl) ?_
  refine xb_call (D := D) (A := A) (σ := σ) (h := h) (d := 3) (mc := bc) (ms := bs) (maxL := 3) (rest := [.ref b2]) (av := [.ref x0, .int ((xb_i h x0 9) + 1)]) (fun T hT X => by obtain ⟨cb9, ra9, rb9, rc9⟩ := xb_recv (ci := 4) hR rfl hk1 (by decide); exact xt_invV X hx hown (hts _ m_baf0cde0) (hts _ m_df7367f5) (hts _ m_b8e4b77a) (xt_sigOf (hts _ m_ae5b25e9)) nm_Checker_checkLabel (by rw [hT]; exact ra9) rb9 rc9 (g := F0 m 11 ls [.int ((xb_i h x0 9) + 1), .ref x0, .ref b2]) rfl (argsL := [.int ((xb_i h x0 9) + 1)]) (rest := [.ref b2]) rfl rfl (by rw [hb]; exact (xb_d D_Checker_checkBranchIf 7 rfl))) (ok_Checker_checkLabel l hfl D A σ x0 ((xb_i h x0 9) + 1) h bc bs _ _ hw) (hml.trans hl.1.symm) (by rw [hb]; exact (xb_d D_Checker_checkBranchIf 7 rfl)) (Nat.le_of_ble_eq_true rfl) (Nat.le_of_ble_eq_true rfl) (Nat.le_of_ble_eq_true rfl) (show k + bc ≤ MC by omega) (show n + bs ≤ MS by omega) (xt_w1 hB.1 m_ae5b25e9) (xt_cdOf hB.1 m_ae5b25e9) (hts _ m_44748ce5) hB hR hS hA (fun vv h3 bc4 bs4 kk4 nn4 H locs hk4 hn4 hq hEh3 hR hS => ?_) (fun XX ax h3 bc4 bs4 kk4 nn4 H locs hk4 hn4 hq hEh3 hex hR hS => ?_)
  · obtain ⟨r4, rfl, hw⟩ := hq
    have hw := hw hEh3
    have hE := hE.tr hEh3
    refine W.eq (g2 := F0 m 14 ls [.int r4, .ref b2]) rfl ?_
    obtain ⟨hk6, hw⟩ := hw
    obtain ⟨hi5, hw⟩ := hw
    refine xb_iald hx hb hR hk6 hi5 (xb_d D_Checker_checkBranchIf 8 rfl) ?_
    obtain ⟨v7, ev7⟩ : ∃ x : Int32, x = (xb_i h3 b2 (Int32.toNatClampNeg r4)) := ⟨_, rfl⟩
    have hw := hw v7 ev7
    refine xt_numi (y := v7) ev7.symm ?_
    refine lv_istore_n hx hb (xb_d D_Checker_checkBranchIf 9 rfl) rfl hl (by decide) rfl (fun ls hl => ?_)
    have hl : lv_has ls 2 [(1, .int v7), (0, .ref x0)] := hl
    refine lv_aload_n hx hb (xb_d D_Checker_checkBranchIf 10 rfl) rfl (lv_at hl 1 rfl) ?_
    refine lv_bipush (v := 127) hx hb (xb_d D_Checker_checkBranchIf 11 rfl) (by decide) ?_
    have hk1 : xb_k h3 x0 = 5 := hEh3.k hk1
    refine xb_call (D := D) (A := A) (σ := σ) (h := h3) (d := 3) (mc := bc4) (ms := bs4) (maxL := 3) (rest := []) (av := [.ref x0, .int 127]) (fun T hT X => by obtain ⟨cb9, ra9, rb9, rc9⟩ := xb_recv (ci := 4) hR rfl hk1 (by decide); exact xt_invV X hx hown (hts _ m_0b33e20f) (hts _ m_338dda25) (hts _ m_d7dc08f9) (xt_sigOf (hts _ m_b71cce2b)) nm_Checker_take (by rw [hT]; exact ra9) rb9 rc9 (g := F0 m 19 ls [.int 127, .ref x0]) rfl (argsL := [.int 127]) (rest := []) rfl rfl (by rw [hb]; exact (xb_d D_Checker_checkBranchIf 12 rfl))) (ok_Checker_take l hfl D A σ x0 127 h3 bc4 bs4 _ _ hw) (hml.trans hl.1.symm) (by rw [hb]; exact (xb_d D_Checker_checkBranchIf 12 rfl)) (Nat.le_of_ble_eq_true rfl) (Nat.le_of_ble_eq_true rfl) (Nat.le_of_ble_eq_true rfl) (show (k + kk4) + bc4 ≤ MC by omega) (show (n + nn4) + bs4 ≤ MS by omega) (xt_w1 hB.1 m_b71cce2b) (xt_cdOf hB.1 m_b71cce2b) (hts _ m_44748ce5) hB hR hS hA (fun vv h8 bc9 bs9 kk9 nn9 H locs hk9 hn9 hq hEh8 hR hS => ?_) (fun XX ax h8 bc9 bs9 kk9 nn9 H locs hk9 hn9 hq hEh8 hex hR hS => ?_)
    · obtain ⟨r9, rfl, hw⟩ := hq
      have hw := hw hEh8
      have hE := hE.tr hEh8
      refine W.eq (g2 := F0 m 22 ls [.int r9]) rfl ?_
      refine lv_pop hx hb (xb_d D_Checker_checkBranchIf 13 rfl) rfl ?_
      refine lv_aload_n hx hb (xb_d D_Checker_checkBranchIf 14 rfl) rfl (lv_at hl 1 rfl) ?_
      refine lv_iload_n hx hb (xb_d D_Checker_checkBranchIf 15 rfl) rfl (lv_at hl 0 rfl) ?_
      have hk1 : xb_k h8 x0 = 5 := hEh8.k hk1
      refine xb_call (D := D) (A := A) (σ := σ) (h := h8) (d := 3) (mc := bc9) (ms := bs9) (maxL := 3) (rest := []) (av := [.ref x0, .int v7]) (fun T hT X => by obtain ⟨cb9, ra9, rb9, rc9⟩ := xb_recv (ci := 4) hR rfl hk1 (by decide); exact xt_invV X hx hown (hts _ m_0b33e20f) (hts _ m_338dda25) (hts _ m_d7dc08f9) (xt_sigOf (hts _ m_b71cce2b)) nm_Checker_take (by rw [hT]; exact ra9) rb9 rc9 (g := F0 m 25 ls [.int v7, .ref x0]) rfl (argsL := [.int v7]) (rest := []) rfl rfl (by rw [hb]; exact (xb_d D_Checker_checkBranchIf 16 rfl))) (ok_Checker_take l hfl D A σ x0 v7 h8 bc9 bs9 _ _ hw) (hml.trans hl.1.symm) (by rw [hb]; exact (xb_d D_Checker_checkBranchIf 16 rfl)) (Nat.le_of_ble_eq_true rfl) (Nat.le_of_ble_eq_true rfl) (Nat.le_of_ble_eq_true rfl) (show ((k + kk4) + kk9) + bc9 ≤ MC by omega) (show ((n + nn4) + nn9) + bs9 ≤ MS by omega) (xt_w1 hB.1 m_b71cce2b) (xt_cdOf hB.1 m_b71cce2b) (hts _ m_44748ce5) hB hR hS hA (fun vv h10 bc11 bs11 kk11 nn11 H locs hk11 hn11 hq hEh10 hR hS => ?_) (fun XX ax h10 bc11 bs11 kk11 nn11 H locs hk11 hn11 hq hEh10 hex hR hS => ?_)
      · obtain ⟨r11, rfl, hw⟩ := hq
        have hw := hw hEh10
        have hE := hE.tr hEh10
        refine W.eq (g2 := F0 m 28 ls [.int r11]) rfl ?_
        refine lv_pop hx hb (xb_d D_Checker_checkBranchIf 17 rfl) rfl ?_
        refine lv_aload_n hx hb (xb_d D_Checker_checkBranchIf 18 rfl) rfl (lv_at hl 1 rfl) ?_
        refine lv_iload_n hx hb (xb_d D_Checker_checkBranchIf 19 rfl) rfl (lv_at hl 0 rfl) ?_
        have hk1 : xb_k h10 x0 = 5 := hEh10.k hk1
        refine xb_call0 (D := D) (A := A) (σ := σ) (h := h10) (d := 2) (maxL := 2) (rest := []) (av := [.ref x0, .int v7]) (fun T hT X => by obtain ⟨cb9, ra9, rb9, rc9⟩ := xb_recv (ci := 4) hR rfl hk1 (by decide); exact xt_invV X hx hown (hts _ m_761ff7fc) (hts _ m_e867be1e) (hts _ m_098fc344) (xt_sigOf (hts _ m_43ff17c7)) nm_Checker_put (by rw [hT]; exact ra9) rb9 rc9 (g := F0 m 31 ls [.int v7, .ref x0]) rfl (argsL := [.int v7]) (rest := []) rfl rfl (by rw [hb]; exact (xb_d D_Checker_checkBranchIf 20 rfl))) (ok_Checker_put l hfl D A σ x0 v7 h10 _ hw) (hml.trans hl.1.symm) (by rw [hb]; exact (xb_d D_Checker_checkBranchIf 20 rfl)) (Nat.le_of_ble_eq_true rfl) (Nat.le_of_ble_eq_true rfl) (Nat.le_of_ble_eq_true rfl) (show (((k + kk4) + kk9) + kk11) ≤ MC by omega) (show (((n + nn4) + nn9) + nn11) ≤ MS by omega) (xt_w1 hB.1 m_43ff17c7) (xt_cdOf hB.1 m_43ff17c7) (hts _ m_44748ce5) hB hR hS hA (fun vv h12 H locs hq hEh12 hR hS => ?_)
        obtain ⟨rfl, hw⟩ := hq
        have hw := hw hEh12
        have hE := hE.tr hEh12
        refine W.eq (g2 := F0 m 34 ls []) rfl ?_
        exact xb_vret bc11 bs11 hx hb hr hlocks (show (((k + kk4) + kk9) + kk11) + bc11 ≤ MC by omega) (show (((n + nn4) + nn9) + nn11) + bs11 ≤ MS by omega) hE hR hS (xb_d D_Checker_checkBranchIf 21 rfl) hw
      · exact xb_pass hlocks (fun x hx9 => by rw [htab] at hx9; first | (cases hx9; done) | (simp [tableOf] at hx9; subst hx9; decide) | (simp [tableOf] at hx9; rcases hx9 with rfl | rfl <;> decide) | (simp [tableOf] at hx9; rcases hx9 with rfl | rfl | rfl <;> decide)) (show (((k + kk4) + kk9) + kk11) + bc11 ≤ MC by omega) (show (((n + nn4) + nn9) + nn11) + bs11 ≤ MS by omega) (hE.tr hEh10) hR hS hex hq
    · exact xb_pass hlocks (fun x hx9 => by rw [htab] at hx9; first | (cases hx9; done) | (simp [tableOf] at hx9; subst hx9; decide) | (simp [tableOf] at hx9; rcases hx9 with rfl | rfl <;> decide) | (simp [tableOf] at hx9; rcases hx9 with rfl | rfl | rfl <;> decide)) (show ((k + kk4) + kk9) + bc9 ≤ MC by omega) (show ((n + nn4) + nn9) + bs9 ≤ MS by omega) (hE.tr hEh8) hR hS hex hq
  · exact xb_pass hlocks (fun x hx9 => by rw [htab] at hx9; first | (cases hx9; done) | (simp [tableOf] at hx9; subst hx9; decide) | (simp [tableOf] at hx9; rcases hx9 with rfl | rfl <;> decide) | (simp [tableOf] at hx9; rcases hx9 with rfl | rfl | rfl <;> decide)) (show (k + kk4) + bc4 ≤ MC by omega) (show (n + nn4) + bs4 ≤ MS by omega) (hE.tr hEh3) hR hS hex hq

theorem m_ea77f79f : (.methodLink "StackHost$Checker" 199 y_StackModule_resultType : Cond) ∈ xt_tbl := xt_in (xt_t5 (List.mem_of_getElem? (i := 200) (by decide +kernel))) (by decide +kernel)
theorem m_1d164a26 : (.instanceMethod y_StackModule_resultType : Cond) ∈ xt_tbl := xt_in (xt_t5 (List.mem_of_getElem? (i := 201) (by decide +kernel))) (by decide +kernel)
theorem m_57f47ef8 : (.selects "StackHost$StackModule" y_StackModule_resultType y_StackModule_resultType : Cond) ∈ xt_tbl := xt_in (xt_t5 (List.mem_of_getElem? (i := 202) (by decide +kernel))) (by decide +kernel)
theorem m_fa540915 : (.code y_StackModule_resultType b_StackModule_resultType 2 (some .int) : Cond) ∈ xt_tbl := xt_in (xt_t5 (List.mem_of_getElem? (i := 203) (by decide +kernel))) (by decide +kernel)
theorem m_cafa8207 : (.methodLink "StackHost$Checker" 264 y_StackModule_parameterType : Cond) ∈ xt_tbl := xt_in (xt_t6 (List.mem_of_getElem? (i := 3) (by decide +kernel))) (by decide +kernel)
theorem m_8ffa2b15 : (.instanceMethod y_StackModule_parameterType : Cond) ∈ xt_tbl := xt_in (xt_t6 (List.mem_of_getElem? (i := 4) (by decide +kernel))) (by decide +kernel)
theorem m_4526d57b : (.selects "StackHost$StackModule" y_StackModule_parameterType y_StackModule_parameterType : Cond) ∈ xt_tbl := xt_in (xt_t6 (List.mem_of_getElem? (i := 5) (by decide +kernel))) (by decide +kernel)
theorem m_4049389a : (.code y_StackModule_parameterType b_StackModule_parameterType 3 (some .int) : Cond) ∈ xt_tbl := xt_in (xt_t6 (List.mem_of_getElem? (i := 6) (by decide +kernel))) (by decide +kernel)
theorem m_fc980843 : (.methodLink "StackHost$Checker" 161 y_StackModule_parameters : Cond) ∈ xt_tbl := xt_in (xt_t4 (List.mem_of_getElem? (i := 159) (by decide +kernel))) (by decide +kernel)
theorem nm_StackModule_resultType : xt_nm y_StackModule_resultType 1 := ⟨by decide +kernel, by decide +kernel⟩
theorem nm_StackModule_parameterType : xt_nm y_StackModule_parameterType 2 := ⟨by decide +kernel, by decide +kernel⟩
set_option maxRecDepth 100000 in
def T_Checker_checkCall : List (Nat × Instr × Nat) := [(0, .aload_n 0, 1), (1, .getfield 38, 3), (4, .iload_n 1, 1), (5, .invokevirtual 161, 3), (8, .iconst 1, 1), (9, .isub, 1), (10, .istore_n 2, 1), (11, .iload_n 2, 1), (12, .ifCond .lt 23, 3), (15, .aload_n 0, 1), (16, .aload_n 0, 1), (17, .getfield 38, 3), (20, .iload_n 1, 1), (21, .iload_n 2, 1), (22, .invokevirtual 264, 3), (25, .invokevirtual 251, 3), (28, .pop, 1), (29, .iinc 2 (-1), 3), (32, .goto (-21), 3), (35, .aload_n 0, 1), (36, .aload_n 0, 1), (37, .getfield 38, 3), (40, .iload_n 1, 1), (41, .invokevirtual 199, 3), (44, .invokevirtual 236, 3), (47, .return_, 1)]
theorem D_Checker_checkCall : ∀ q ∈ T_Checker_checkCall, decode b_Checker_checkCall q.1 = .ok (q.2.1, q.2.2) := by decide +kernel

set_option maxHeartbeats 4000000 in
set_option maxRecDepth 100000 in
theorem am_Checker_checkCall_L11 (l : Launch) (hfl : l.flags = pinnedFlags ++ [noTraceFlag]) (D : va_G) (A : Nat → Prop) (σ MC MS : Nat) (h0 : xb_H) (Qr : xb_H → Nat → Nat → Prop) (Qt : String → xb_H → Nat → Nat → Prop) (n9 : Nat) : ∀ (x0 : Nat) (x1 : Int32) (x2 : Int32) (h : xb_H) (bc : Nat) (bs : Nat), w_Checker_checkCall_L11 Qr Qt n9 x0 x1 x2 h bc bs → xb_am l D A σ 4 MC MS h0 (fun v h bc bs => v = none ∧ Qr h bc bs) Qt y_Checker_checkCall.cls y_Checker_checkCall.name b_Checker_checkCall 3 ([] : List ExceptionTableEntry) none 11 [(0, .ref x0), (1, .int x1), (2, .int x2)] [] h bc bs := by
  induction n9 with
  | zero => intro x0 x1 x2 h bc bs hw; exact False.elim hw
  | succ n9 ih =>
    intro x0 x1 x2 h bc bs hw
    unfold w_Checker_checkCall_L11 at hw
    intro p e s m args below meth c hC H locs ls k n hE hl hR hS hk hn
    obtain ⟨hx, hb, hown, hlocks, htab, hml, hr, hB, hA, hnm⟩ := id hC
    have hts := hB.1.1.at args
    refine lv_iload_n hx hb (xb_d D_Checker_checkCall 7 rfl) rfl (lv_at hl 2 rfl) ?_
    refine lv_if_lt (tgt := 35) hx hb (xb_d D_Checker_checkCall 8 rfl) rfl (fun hc1 => ?_) (fun hc1 => ?_)
    · have hw := hw.1 hc1
      refine lv_aload_n hx hb (xb_d D_Checker_checkCall 19 rfl) rfl (lv_at hl 0 rfl) ?_
      refine lv_aload_n hx hb (xb_d D_Checker_checkCall 20 rfl) rfl (lv_at hl 0 rfl) ?_
      obtain ⟨hk2, hw⟩ := hw
      refine xb_getP (C := R_Checker) (T := F_Checker) (N := 17) hx hb 4 0 hts fin_Checker hown hR hk2 (by decide) rfl (by decide) rfl (hts _ m_070795bc) (fun _ h9 => h9) (xb_d D_Checker_checkCall 21 rfl) ?_
      obtain ⟨b3, eb3, hw⟩ := hw
      refine xb_some eb3 ?_
      refine lv_iload_n hx hb (xb_d D_Checker_checkCall 22 rfl) rfl (lv_at hl 1 rfl) ?_
      obtain ⟨hk4, hw⟩ := hw
      refine xb_call0 (D := D) (A := A) (σ := σ) (h := h) (d := 3) (maxL := 2) (rest := [.ref x0]) (av := [.ref b3, .int x1]) (fun T hT X => by obtain ⟨cb9, ra9, rb9, rc9⟩ := xb_recv (ci := 2) hR rfl hk4 (by decide); exact xt_invV X hx hown (hts _ m_ea77f79f) (hts _ m_1d164a26) (hts _ m_57f47ef8) (xt_sigOf (hts _ m_fa540915)) nm_StackModule_resultType (by rw [hT]; exact ra9) rb9 rc9 (g := F0 m 41 ls [.int x1, .ref b3, .ref x0]) rfl (argsL := [.int x1]) (rest := [.ref x0]) rfl rfl (by rw [hb]; exact (xb_d D_Checker_checkCall 23 rfl))) (ok_StackModule_resultType l hfl D A σ b3 x1 h _ hw) (hml.trans hl.1.symm) (by rw [hb]; exact (xb_d D_Checker_checkCall 23 rfl)) (Nat.le_of_ble_eq_true rfl) (Nat.le_of_ble_eq_true rfl) (Nat.le_of_ble_eq_true rfl) (show k ≤ MC by omega) (show n ≤ MS by omega) (xt_w1 hB.1 m_fa540915) (xt_cdOf hB.1 m_fa540915) (hts _ m_9c375545) hB hR hS hA (fun vv h5 H locs hq hEh5 hR hS => ?_)
      obtain ⟨r6, rfl, hw⟩ := hq
      have hw := hw hEh5
      have hE := hE.tr hEh5
      refine W.eq (g2 := F0 m 44 ls [.int r6, .ref x0]) rfl ?_
      have hk2 : xb_k h5 x0 = 5 := hEh5.k hk2
      refine xb_call0 (D := D) (A := A) (σ := σ) (h := h5) (d := 2) (maxL := 2) (rest := []) (av := [.ref x0, .int r6]) (fun T hT X => by obtain ⟨cb9, ra9, rb9, rc9⟩ := xb_recv (ci := 4) hR rfl hk2 (by decide); exact xt_invV X hx hown (hts _ m_761ff7fc) (hts _ m_e867be1e) (hts _ m_098fc344) (xt_sigOf (hts _ m_43ff17c7)) nm_Checker_put (by rw [hT]; exact ra9) rb9 rc9 (g := F0 m 44 ls [.int r6, .ref x0]) rfl (argsL := [.int r6]) (rest := []) rfl rfl (by rw [hb]; exact (xb_d D_Checker_checkCall 24 rfl))) (ok_Checker_put l hfl D A σ x0 r6 h5 _ hw) (hml.trans hl.1.symm) (by rw [hb]; exact (xb_d D_Checker_checkCall 24 rfl)) (Nat.le_of_ble_eq_true rfl) (Nat.le_of_ble_eq_true rfl) (Nat.le_of_ble_eq_true rfl) (show k ≤ MC by omega) (show n ≤ MS by omega) (xt_w1 hB.1 m_43ff17c7) (xt_cdOf hB.1 m_43ff17c7) (hts _ m_44748ce5) hB hR hS hA (fun vv h7 H locs hq hEh7 hR hS => ?_)
      obtain ⟨rfl, hw⟩ := hq
      have hw := hw hEh7
      have hE := hE.tr hEh7
      refine W.eq (g2 := F0 m 47 ls []) rfl ?_
      exact xb_vret bc bs hx hb hr hlocks (show k + bc ≤ MC by omega) (show n + bs ≤ MS by omega) hE hR hS (xb_d D_Checker_checkCall 25 rfl) hw
    · have hw := hw.2 hc1
      refine lv_aload_n hx hb (xb_d D_Checker_checkCall 9 rfl) rfl (lv_at hl 0 rfl) ?_
      refine lv_aload_n hx hb (xb_d D_Checker_checkCall 10 rfl) rfl (lv_at hl 0 rfl) ?_
      obtain ⟨hk9, hw⟩ := hw
      refine xb_getP (C := R_Checker) (T := F_Checker) (N := 17) hx hb 4 0 hts fin_Checker hown hR hk9 (by decide) rfl (by decide) rfl (hts _ m_070795bc) (fun _ h9 => h9) (xb_d D_Checker_checkCall 11 rfl) ?_
      obtain ⟨b10, eb10, hw⟩ := hw
      refine xb_some eb10 ?_
      refine lv_iload_n hx hb (xb_d D_Checker_checkCall 12 rfl) rfl (lv_at hl 1 rfl) ?_
      refine lv_iload_n hx hb (xb_d D_Checker_checkCall 13 rfl) rfl (lv_at hl 2 rfl) ?_
      obtain ⟨hk11, hw⟩ := hw
      refine xb_call0 (D := D) (A := A) (σ := σ) (h := h) (d := 3) (maxL := 3) (rest := [.ref x0]) (av := [.ref b10, .int x1, .int x2]) (fun T hT X => by obtain ⟨cb9, ra9, rb9, rc9⟩ := xb_recv (ci := 2) hR rfl hk11 (by decide); exact xt_invV X hx hown (hts _ m_cafa8207) (hts _ m_8ffa2b15) (hts _ m_4526d57b) (xt_sigOf (hts _ m_4049389a)) nm_StackModule_parameterType (by rw [hT]; exact ra9) rb9 rc9 (g := F0 m 22 ls [.int x2, .int x1, .ref b10, .ref x0]) rfl (argsL := [.int x1, .int x2]) (rest := [.ref x0]) rfl rfl (by rw [hb]; exact (xb_d D_Checker_checkCall 14 rfl))) (ok_StackModule_parameterType l hfl D A σ b10 x1 x2 h _ hw) (hml.trans hl.1.symm) (by rw [hb]; exact (xb_d D_Checker_checkCall 14 rfl)) (Nat.le_of_ble_eq_true rfl) (Nat.le_of_ble_eq_true rfl) (Nat.le_of_ble_eq_true rfl) (show k ≤ MC by omega) (show n ≤ MS by omega) (xt_w1 hB.1 m_4049389a) (xt_cdOf hB.1 m_4049389a) (hts _ m_9c375545) hB hR hS hA (fun vv h12 H locs hq hEh12 hR hS => ?_)
      obtain ⟨r13, rfl, hw⟩ := hq
      have hw := hw hEh12
      have hE := hE.tr hEh12
      refine W.eq (g2 := F0 m 25 ls [.int r13, .ref x0]) rfl ?_
      have hk9 : xb_k h12 x0 = 5 := hEh12.k hk9
      refine xb_call (D := D) (A := A) (σ := σ) (h := h12) (d := 3) (mc := bc) (ms := bs) (maxL := 3) (rest := []) (av := [.ref x0, .int r13]) (fun T hT X => by obtain ⟨cb9, ra9, rb9, rc9⟩ := xb_recv (ci := 4) hR rfl hk9 (by decide); exact xt_invV X hx hown (hts _ m_0b33e20f) (hts _ m_338dda25) (hts _ m_d7dc08f9) (xt_sigOf (hts _ m_b71cce2b)) nm_Checker_take (by rw [hT]; exact ra9) rb9 rc9 (g := F0 m 25 ls [.int r13, .ref x0]) rfl (argsL := [.int r13]) (rest := []) rfl rfl (by rw [hb]; exact (xb_d D_Checker_checkCall 15 rfl))) (ok_Checker_take l hfl D A σ x0 r13 h12 bc bs _ _ hw) (hml.trans hl.1.symm) (by rw [hb]; exact (xb_d D_Checker_checkCall 15 rfl)) (Nat.le_of_ble_eq_true rfl) (Nat.le_of_ble_eq_true rfl) (Nat.le_of_ble_eq_true rfl) (show k + bc ≤ MC by omega) (show n + bs ≤ MS by omega) (xt_w1 hB.1 m_b71cce2b) (xt_cdOf hB.1 m_b71cce2b) (hts _ m_44748ce5) hB hR hS hA (fun vv h14 bc15 bs15 kk15 nn15 H locs hk15 hn15 hq hEh14 hR hS => ?_) (fun XX ax h14 bc15 bs15 kk15 nn15 H locs hk15 hn15 hq hEh14 hex hR hS => ?_)
      · obtain ⟨r15, rfl, hw⟩ := hq
        have hw := hw hEh14
        have hE := hE.tr hEh14
        refine W.eq (g2 := F0 m 28 ls [.int r15]) rfl ?_
        refine lv_pop hx hb (xb_d D_Checker_checkCall 16 rfl) rfl ?_
        refine lv_iinc (v := (x2 + (-1))) (k := 2) hx hb (xb_d D_Checker_checkCall 17 rfl) hl rfl (by first | rfl | decide) (by decide) rfl (fun ls hl => ?_)
        have hl : lv_has ls 3 [(2, .int (x2 + (-1))), (0, .ref x0), (1, .int x1)] := hl
        refine lv_goto (tgt := 11) hx hb (xb_d D_Checker_checkCall 18 rfl) rfl ?_
        exact ih x0 x1 (x2 + (-1)) h14 bc15 bs15 hw p e s m args below meth c hC H locs ls (k + kk15) (n + nn15) hE (lv_sub hl [1, 2, 0] rfl) hR hS (by omega) (by omega)
      · exact xb_pass hlocks (fun x hx9 => by rw [htab] at hx9; first | (cases hx9; done) | (simp [tableOf] at hx9; subst hx9; decide) | (simp [tableOf] at hx9; rcases hx9 with rfl | rfl <;> decide) | (simp [tableOf] at hx9; rcases hx9 with rfl | rfl | rfl <;> decide)) (show (k + kk15) + bc15 ≤ MC by omega) (show (n + nn15) + bs15 ≤ MS by omega) (hE.tr hEh14) hR hS hex hq

set_option maxHeartbeats 4000000 in
set_option maxRecDepth 100000 in
theorem ok_Checker_checkCall (l : Launch) (hfl : l.flags = pinnedFlags ++ [noTraceFlag]) (D : va_G) (A : Nat → Prop) (σ : Nat) (x0 : Nat) (x1 : Int32) (h : xb_H) (bc : Nat) (bs : Nat) (Qr : xb_H → Nat → Nat → Prop) (Qt : String → xb_H → Nat → Nat → Prop) (hw : w_Checker_checkCall x0 x1 h bc bs Qr Qt) : xb_Met l y_Checker_checkCall [.code y_Checker_checkCall b_Checker_checkCall 3 none] (xb_rm 4 bc bs) (xb_Pc D A σ h [.ref x0, .int x1]) (xb_Qc D A h bc bs (fun v h bc bs => v = none ∧ Qr h bc bs) Qt) A := by
  refine xb_ofAm (cc := b_Checker_checkCall) (by decide) (Nat.le_of_ble_eq_true rfl) ?_
  unfold w_Checker_checkCall at hw
  show xb_am l D A σ 4 bc bs h (fun v h bc bs => v = none ∧ Qr h bc bs) Qt y_Checker_checkCall.cls y_Checker_checkCall.name b_Checker_checkCall 3 ([] : List ExceptionTableEntry) none 0 [(0, .ref x0), (1, .int x1)] [] h bc bs
  obtain ⟨MC, hMC⟩ : ∃ x, x = bc := ⟨_, rfl⟩
  obtain ⟨MS, hMS⟩ : ∃ x, x = bs := ⟨_, rfl⟩
  rw [show xb_am l D A σ 4 bc bs = xb_am l D A σ 4 MC MS by rw [hMC, hMS]]
  obtain ⟨h0, hh0⟩ : ∃ x, x = h := ⟨_, rfl⟩
  rw [show xb_am l D A σ 4 MC MS h = xb_am l D A σ 4 MC MS h0 by rw [hh0]]
  intro p e s m args below meth c hC H locs ls k n hE hl hR hS hk hn
  obtain ⟨hx, hb, hown, hlocks, htab, hml, hr, hB, hA, hnm⟩ := id hC
  have hts := hB.1.1.at args
  refine lv_aload_n hx hb (xb_d D_Checker_checkCall 0 rfl) rfl (lv_at hl 0 rfl) ?_
  obtain ⟨hk1, hw⟩ := hw
  refine xb_getP (C := R_Checker) (T := F_Checker) (N := 17) hx hb 4 0 hts fin_Checker hown hR hk1 (by decide) rfl (by decide) rfl (hts _ m_070795bc) (fun _ h9 => h9) (xb_d D_Checker_checkCall 1 rfl) ?_
  obtain ⟨b2, eb2, hw⟩ := hw
  refine xb_some eb2 ?_
  refine lv_iload_n hx hb (xb_d D_Checker_checkCall 2 rfl) rfl (lv_at hl 1 rfl) ?_
  obtain ⟨hk3, hw⟩ := hw
  refine xb_call0 (D := D) (A := A) (σ := σ) (h := h) (d := 3) (maxL := 2) (rest := []) (av := [.ref b2, .int x1]) (fun T hT X => by obtain ⟨cb9, ra9, rb9, rc9⟩ := xb_recv (ci := 2) hR rfl hk3 (by decide); exact xt_invV X hx hown (hts _ m_fc980843) (hts _ m_aa97372f) (hts _ m_8160d9b3) (xt_sigOf (hts _ m_8621e59b)) nm_StackModule_parameters (by rw [hT]; exact ra9) rb9 rc9 (g := F0 m 5 ls [.int x1, .ref b2]) rfl (argsL := [.int x1]) (rest := []) rfl rfl (by rw [hb]; exact (xb_d D_Checker_checkCall 3 rfl))) (ok_StackModule_parameters l hfl D A σ b2 x1 h _ hw) (hml.trans hl.1.symm) (by rw [hb]; exact (xb_d D_Checker_checkCall 3 rfl)) (Nat.le_of_ble_eq_true rfl) (Nat.le_of_ble_eq_true rfl) (Nat.le_of_ble_eq_true rfl) (show k ≤ MC by omega) (show n ≤ MS by omega) (xt_w1 hB.1 m_8621e59b) (xt_cdOf hB.1 m_8621e59b) (hts _ m_9c375545) hB hR hS hA (fun vv h4 H locs hq hEh4 hR hS => ?_)
  obtain ⟨r5, rfl, hw⟩ := hq
  have hw := hw hEh4
  have hE := hE.tr hEh4
  refine W.eq (g2 := F0 m 8 ls [.int r5]) rfl ?_
  refine lv_iconst (v := 1) hx hb (xb_d D_Checker_checkCall 4 rfl) (by decide) ?_
  refine lv_isub hx hb (xb_d D_Checker_checkCall 5 rfl) ?_
  obtain ⟨v6, ev6⟩ : ∃ x : Int32, x = (r5 - 1) := ⟨_, rfl⟩
  have hw := hw v6 ev6
  refine xt_numi (y := v6) ev6.symm ?_
  refine lv_istore_n hx hb (xb_d D_Checker_checkCall 6 rfl) rfl hl (by decide) rfl (fun ls hl => ?_)
  have hl : lv_has ls 3 [(2, .int v6), (0, .ref x0), (1, .int x1)] := hl
  obtain ⟨n8, hw⟩ := hw
  exact am_Checker_checkCall_L11 l hfl D A σ MC MS h0 Qr Qt n8 x0 x1 v6 h4 bc bs hw p e s m args below meth c hC H locs ls k n hE (lv_sub hl [1, 2, 0] rfl) hR hS (by omega) (by omega)

theorem m_0a242445 : (.methodLink "StackHost$Checker" 254 y_Checker_require : Cond) ∈ xt_tbl := xt_in (xt_t5 (List.mem_of_getElem? (i := 231) (by decide +kernel))) (by decide +kernel)
theorem m_a99c45f7 : (.instanceMethod y_Checker_require : Cond) ∈ xt_tbl := xt_in (xt_t5 (List.mem_of_getElem? (i := 233) (by decide +kernel))) (by decide +kernel)
theorem m_978d7491 : (.selects "StackHost$Checker" y_Checker_require y_Checker_require : Cond) ∈ xt_tbl := xt_in (xt_v4 (q := (⟨"StackHost$Checker", "require", "(ZI)V"⟩, 17)) (List.mem_of_getElem? (i := 4) (by decide +kernel))) (by decide +kernel)
theorem m_01f2fc97 : (.code y_Checker_require b_Checker_require 3 none : Cond) ∈ xt_tbl := xt_in (xt_t5 (List.mem_of_getElem? (i := 234) (by decide +kernel))) (by decide +kernel)
theorem m_1d11d801 : (.methodLink "StackHost$Checker" 202 y_Checker_openThing : Cond) ∈ xt_tbl := xt_in (xt_t5 (List.mem_of_getElem? (i := 204) (by decide +kernel))) (by decide +kernel)
theorem m_4317fe73 : (.instanceMethod y_Checker_openThing : Cond) ∈ xt_tbl := xt_in (xt_t5 (List.mem_of_getElem? (i := 206) (by decide +kernel))) (by decide +kernel)
theorem m_b4ed1ff8 : (.selects "StackHost$Checker" y_Checker_openThing y_Checker_openThing : Cond) ∈ xt_tbl := xt_in (xt_v3 (q := (⟨"StackHost$Checker", "openThing", "(IIII)V"⟩, 17)) (List.mem_of_getElem? (i := 14) (by decide +kernel))) (by decide +kernel)
theorem m_b39dcac6 : (.code y_Checker_openThing b_Checker_openThing 5 none : Cond) ∈ xt_tbl := xt_in (xt_t5 (List.mem_of_getElem? (i := 207) (by decide +kernel))) (by decide +kernel)
theorem nm_Checker_require : xt_nm y_Checker_require 2 := ⟨by decide +kernel, by decide +kernel⟩
theorem nm_Checker_openThing : xt_nm y_Checker_openThing 4 := ⟨by decide +kernel, by decide +kernel⟩
set_option maxRecDepth 100000 in
def T_Checker_checkElse : List (Nat × Instr × Nat) := [(0, .aload_n 0, 1), (1, .getfield 28, 3), (4, .aload_n 0, 1), (5, .getfield 193, 3), (8, .iconst 1, 1), (9, .isub, 1), (10, .iaload, 1), (11, .istore_n 1, 1), (12, .aload_n 0, 1), (13, .iload_n 1, 1), (14, .invokevirtual 251, 3), (17, .pop, 1), (18, .aload_n 0, 1), (19, .aload_n 0, 1), (20, .getfield 187, 3), (23, .aload_n 0, 1), (24, .getfield 31, 3), (27, .aload_n 0, 1), (28, .getfield 193, 3), (31, .iconst 1, 1), (32, .isub, 1), (33, .iaload, 1), (34, .if_icmp .ne 7, 3), (37, .iconst 1, 1), (38, .goto 4, 3), (41, .iconst 0, 1), (42, .bipush 21, 2), (44, .invokevirtual 254, 3), (47, .aload_n 0, 1), (48, .dup, 1), (49, .getfield 193, 3), (52, .iconst 1, 1), (53, .isub, 1), (54, .putfield 193, 3), (57, .aload_n 0, 1), (58, .iconst 5, 1), (59, .aload_n 0, 1), (60, .getfield 22, 3), (63, .aload_n 0, 1), (64, .getfield 193, 3), (67, .iaload, 1), (68, .iload_n 1, 1), (69, .iload_n 1, 1), (70, .invokevirtual 202, 3), (73, .return_, 1)]
theorem D_Checker_checkElse : ∀ q ∈ T_Checker_checkElse, decode b_Checker_checkElse q.1 = .ok (q.2.1, q.2.2) := by decide +kernel

set_option maxHeartbeats 4000000 in
set_option maxRecDepth 100000 in
theorem am_Checker_checkElse_L42 (l : Launch) (hfl : l.flags = pinnedFlags ++ [noTraceFlag]) (D : va_G) (A : Nat → Prop) (σ MC MS : Nat) (h0 : xb_H) (Qr : xb_H → Nat → Nat → Prop) (Qt : String → xb_H → Nat → Nat → Prop) (x0 : Nat) (x1 : Int32) (y0 : Int32) (y1 : Nat) (h : xb_H) (bc : Nat) (bs : Nat) (hw : w_Checker_checkElse_L42 Qr Qt x0 x1 y0 y1 h bc bs) : xb_am l D A σ 4 MC MS h0 (fun v h bc bs => v = none ∧ Qr h bc bs) Qt y_Checker_checkElse.cls y_Checker_checkElse.name b_Checker_checkElse 2 ([] : List ExceptionTableEntry) none 42 [(0, .ref x0), (1, .int x1)] [.int y0, .ref y1] h bc bs := by
  unfold w_Checker_checkElse_L42 at hw
  intro p e s m args below meth c hC H locs ls k n hE hl hR hS hk hn
  obtain ⟨hx, hb, hown, hlocks, htab, hml, hr, hB, hA, hnm⟩ := id hC
  have hts := hB.1.1.at args
  refine lv_bipush (v := 21) hx hb (xb_d D_Checker_checkElse 26 rfl) (by decide) ?_
  obtain ⟨hk1, hw⟩ := hw
  refine xb_call (D := D) (A := A) (σ := σ) (h := h) (d := 3) (mc := bc) (ms := bs) (maxL := 3) (rest := []) (av := [.ref y1, .int y0, .int 21]) (fun T hT X => by obtain ⟨cb9, ra9, rb9, rc9⟩ := xb_recv (ci := 4) hR rfl hk1 (by decide); exact xt_invV X hx hown (hts _ m_0a242445) (hts _ m_a99c45f7) (hts _ m_978d7491) (xt_sigOf (hts _ m_01f2fc97)) nm_Checker_require (by rw [hT]; exact ra9) rb9 rc9 (g := F0 m 44 ls [.int 21, .int y0, .ref y1]) rfl (argsL := [.int y0, .int 21]) (rest := []) rfl rfl (by rw [hb]; exact (xb_d D_Checker_checkElse 27 rfl))) (ok_Checker_require l hfl D A σ y1 y0 21 h bc bs _ _ hw) (hml.trans hl.1.symm) (by rw [hb]; exact (xb_d D_Checker_checkElse 27 rfl)) (Nat.le_of_ble_eq_true rfl) (Nat.le_of_ble_eq_true rfl) (Nat.le_of_ble_eq_true rfl) (show k + bc ≤ MC by omega) (show n + bs ≤ MS by omega) (xt_w1 hB.1 m_01f2fc97) (xt_cdOf hB.1 m_01f2fc97) (hts _ m_44748ce5) hB hR hS hA (fun vv h2 bc3 bs3 kk3 nn3 H locs hk3 hn3 hq hEh2 hR hS => ?_) (fun XX ax h2 bc3 bs3 kk3 nn3 H locs hk3 hn3 hq hEh2 hex hR hS => ?_)
  · obtain ⟨rfl, hw⟩ := hq
    have hw := hw hEh2
    have hE := hE.tr hEh2
    refine W.eq (g2 := F0 m 47 ls []) rfl ?_
    refine lv_aload_n hx hb (xb_d D_Checker_checkElse 28 rfl) rfl (lv_at hl 0 rfl) ?_
    refine lv_dup hx hb (xb_d D_Checker_checkElse 29 rfl) rfl ?_
    obtain ⟨hk4, hw⟩ := hw
    refine xb_getI (C := R_Checker) (T := F_Checker) (N := 17) hx hb 4 16 hts fin_Checker hown hR hk4 (by decide) rfl (by decide) rfl (hts _ m_47f80c41) (fun _ h9 => h9) (xb_d D_Checker_checkElse 30 rfl) ?_
    refine lv_iconst (v := 1) hx hb (xb_d D_Checker_checkElse 31 rfl) (by decide) ?_
    refine lv_isub hx hb (xb_d D_Checker_checkElse 32 rfl) ?_
    refine xb_putI (C := R_Checker) (T := F_Checker) (N := 17) (ty := .int) (x := ((xb_i h2 x0 16) - 1)) hx hb 4 16 hts fin_Checker t_Checker t_Checker_ok n_Checker hown hR hS hk4 (by decide) rfl (by decide) rfl (hts _ m_47f80c41) (fun _ h9 => h9) rfl (by decide +kernel) rfl rfl (xb_d D_Checker_checkElse 33 rfl) (fun H locs hR hS => ?_)
    obtain ⟨h5, eh5⟩ : ∃ x : xb_H, x = xb_I h2 x0 16 ((xb_i h2 x0 16) - 1) := ⟨_, rfl⟩
    rw [← eh5] at hR
    have hw := hw h5 eh5
    have hE : xb_ext h0 h5 := by rw [eh5]; exact hE
    refine lv_aload_n hx hb (xb_d D_Checker_checkElse 34 rfl) rfl (lv_at hl 0 rfl) ?_
    refine lv_iconst (v := 5) hx hb (xb_d D_Checker_checkElse 35 rfl) (by decide) ?_
    refine lv_aload_n hx hb (xb_d D_Checker_checkElse 36 rfl) rfl (lv_at hl 0 rfl) ?_
    have hk4 : xb_k h5 x0 = 5 := by rw [eh5]; exact hk4
    refine xb_getP (C := R_Checker) (T := F_Checker) (N := 17) hx hb 4 11 hts fin_Checker hown hR hk4 (by decide) rfl (by decide) rfl (hts _ m_64d01396) (fun _ h9 => h9) (xb_d D_Checker_checkElse 37 rfl) ?_
    obtain ⟨b6, eb6, hw⟩ := hw
    refine xb_some eb6 ?_
    refine lv_aload_n hx hb (xb_d D_Checker_checkElse 38 rfl) rfl (lv_at hl 0 rfl) ?_
    refine xb_getI (C := R_Checker) (T := F_Checker) (N := 17) hx hb 4 16 hts fin_Checker hown hR hk4 (by decide) rfl (by decide) rfl (hts _ m_47f80c41) (fun _ h9 => h9) (xb_d D_Checker_checkElse 39 rfl) ?_
    obtain ⟨hk8, hw⟩ := hw
    obtain ⟨hi7, hw⟩ := hw
    refine xb_iald hx hb hR hk8 hi7 (xb_d D_Checker_checkElse 40 rfl) ?_
    refine lv_iload_n hx hb (xb_d D_Checker_checkElse 41 rfl) rfl (lv_at hl 1 rfl) ?_
    refine lv_iload_n hx hb (xb_d D_Checker_checkElse 42 rfl) rfl (lv_at hl 1 rfl) ?_
    refine xb_call0 (D := D) (A := A) (σ := σ) (h := h5) (d := 2) (maxL := 5) (rest := []) (av := [.ref x0, .int 5, .int (xb_i h5 b6 (Int32.toNatClampNeg (xb_i h5 x0 16))), .int x1, .int x1]) (fun T hT X => by obtain ⟨cb9, ra9, rb9, rc9⟩ := xb_recv (ci := 4) hR rfl hk4 (by decide); exact xt_invV X hx hown (hts _ m_1d11d801) (hts _ m_4317fe73) (hts _ m_b4ed1ff8) (xt_sigOf (hts _ m_b39dcac6)) nm_Checker_openThing (by rw [hT]; exact ra9) rb9 rc9 (g := F0 m 70 ls [.int x1, .int x1, .int (xb_i h5 b6 (Int32.toNatClampNeg (xb_i h5 x0 16))), .int 5, .ref x0]) rfl (argsL := [.int 5, .int (xb_i h5 b6 (Int32.toNatClampNeg (xb_i h5 x0 16))), .int x1, .int x1]) (rest := []) rfl rfl (by rw [hb]; exact (xb_d D_Checker_checkElse 43 rfl))) (ok_Checker_openThing l hfl D A σ x0 5 (xb_i h5 b6 (Int32.toNatClampNeg (xb_i h5 x0 16))) x1 x1 h5 _ hw) (hml.trans hl.1.symm) (by rw [hb]; exact (xb_d D_Checker_checkElse 43 rfl)) (Nat.le_of_ble_eq_true rfl) (Nat.le_of_ble_eq_true rfl) (Nat.le_of_ble_eq_true rfl) (show (k + kk3) ≤ MC by omega) (show (n + nn3) ≤ MS by omega) (xt_w1 hB.1 m_b39dcac6) (xt_cdOf hB.1 m_b39dcac6) (hts _ m_44748ce5) hB hR hS hA (fun vv h9 H locs hq hEh9 hR hS => ?_)
    obtain ⟨rfl, hw⟩ := hq
    have hw := hw hEh9
    have hE := hE.tr hEh9
    refine W.eq (g2 := F0 m 73 ls []) rfl ?_
    exact xb_vret bc3 bs3 hx hb hr hlocks (show (k + kk3) + bc3 ≤ MC by omega) (show (n + nn3) + bs3 ≤ MS by omega) hE hR hS (xb_d D_Checker_checkElse 44 rfl) hw
  · exact xb_pass hlocks (fun x hx9 => by rw [htab] at hx9; first | (cases hx9; done) | (simp [tableOf] at hx9; subst hx9; decide) | (simp [tableOf] at hx9; rcases hx9 with rfl | rfl <;> decide) | (simp [tableOf] at hx9; rcases hx9 with rfl | rfl | rfl <;> decide)) (show (k + kk3) + bc3 ≤ MC by omega) (show (n + nn3) + bs3 ≤ MS by omega) (hE.tr hEh2) hR hS hex hq

set_option maxHeartbeats 4000000 in
set_option maxRecDepth 100000 in
theorem ok_Checker_checkElse (l : Launch) (hfl : l.flags = pinnedFlags ++ [noTraceFlag]) (D : va_G) (A : Nat → Prop) (σ : Nat) (x0 : Nat) (h : xb_H) (bc : Nat) (bs : Nat) (Qr : xb_H → Nat → Nat → Prop) (Qt : String → xb_H → Nat → Nat → Prop) (hw : w_Checker_checkElse x0 h bc bs Qr Qt) : xb_Met l y_Checker_checkElse [.code y_Checker_checkElse b_Checker_checkElse 2 none] (xb_rm 4 bc bs) (xb_Pc D A σ h [.ref x0]) (xb_Qc D A h bc bs (fun v h bc bs => v = none ∧ Qr h bc bs) Qt) A := by
  refine xb_ofAm (cc := b_Checker_checkElse) (by decide) (Nat.le_of_ble_eq_true rfl) ?_
  unfold w_Checker_checkElse at hw
  show xb_am l D A σ 4 bc bs h (fun v h bc bs => v = none ∧ Qr h bc bs) Qt y_Checker_checkElse.cls y_Checker_checkElse.name b_Checker_checkElse 2 ([] : List ExceptionTableEntry) none 0 [(0, .ref x0)] [] h bc bs
  obtain ⟨MC, hMC⟩ : ∃ x, x = bc := ⟨_, rfl⟩
  obtain ⟨MS, hMS⟩ : ∃ x, x = bs := ⟨_, rfl⟩
  rw [show xb_am l D A σ 4 bc bs = xb_am l D A σ 4 MC MS by rw [hMC, hMS]]
  obtain ⟨h0, hh0⟩ : ∃ x, x = h := ⟨_, rfl⟩
  rw [show xb_am l D A σ 4 MC MS h = xb_am l D A σ 4 MC MS h0 by rw [hh0]]
  intro p e s m args below meth c hC H locs ls k n hE hl hR hS hk hn
  obtain ⟨hx, hb, hown, hlocks, htab, hml, hr, hB, hA, hnm⟩ := id hC
  have hts := hB.1.1.at args
  refine lv_aload_n hx hb (xb_d D_Checker_checkElse 0 rfl) rfl (lv_at hl 0 rfl) ?_
  obtain ⟨hk1, hw⟩ := hw
  refine xb_getP (C := R_Checker) (T := F_Checker) (N := 17) hx hb 4 13 hts fin_Checker hown hR hk1 (by decide) rfl (by decide) rfl (hts _ m_8413ec5e) (fun _ h9 => h9) (xb_d D_Checker_checkElse 1 rfl) ?_
  obtain ⟨b2, eb2, hw⟩ := hw
  refine xb_some eb2 ?_
  refine lv_aload_n hx hb (xb_d D_Checker_checkElse 2 rfl) rfl (lv_at hl 0 rfl) ?_
  refine xb_getI (C := R_Checker) (T := F_Checker) (N := 17) hx hb 4 16 hts fin_Checker hown hR hk1 (by decide) rfl (by decide) rfl (hts _ m_47f80c41) (fun _ h9 => h9) (xb_d D_Checker_checkElse 3 rfl) ?_
  refine lv_iconst (v := 1) hx hb (xb_d D_Checker_checkElse 4 rfl) (by decide) ?_
  refine lv_isub hx hb (xb_d D_Checker_checkElse 5 rfl) ?_
  obtain ⟨hk4, hw⟩ := hw
  obtain ⟨hi3, hw⟩ := hw
  refine xb_iald hx hb hR hk4 hi3 (xb_d D_Checker_checkElse 6 rfl) ?_
  obtain ⟨v5, ev5⟩ : ∃ x : Int32, x = (xb_i h b2 (Int32.toNatClampNeg ((xb_i h x0 16) - 1))) := ⟨_, rfl⟩
  have hw := hw v5 ev5
  refine xt_numi (y := v5) ev5.symm ?_
  refine lv_istore_n hx hb (xb_d D_Checker_checkElse 7 rfl) rfl hl (by decide) rfl (fun ls hl => ?_)
  have hl : lv_has ls 2 [(1, .int v5), (0, .ref x0)] := hl
  refine lv_aload_n hx hb (xb_d D_Checker_checkElse 8 rfl) rfl (lv_at hl 1 rfl) ?_
  refine lv_iload_n hx hb (xb_d D_Checker_checkElse 9 rfl) rfl (lv_at hl 0 rfl) ?_
  refine xb_call (D := D) (A := A) (σ := σ) (h := h) (d := 3) (mc := bc) (ms := bs) (maxL := 3) (rest := []) (av := [.ref x0, .int v5]) (fun T hT X => by obtain ⟨cb9, ra9, rb9, rc9⟩ := xb_recv (ci := 4) hR rfl hk1 (by decide); exact xt_invV X hx hown (hts _ m_0b33e20f) (hts _ m_338dda25) (hts _ m_d7dc08f9) (xt_sigOf (hts _ m_b71cce2b)) nm_Checker_take (by rw [hT]; exact ra9) rb9 rc9 (g := F0 m 14 ls [.int v5, .ref x0]) rfl (argsL := [.int v5]) (rest := []) rfl rfl (by rw [hb]; exact (xb_d D_Checker_checkElse 10 rfl))) (ok_Checker_take l hfl D A σ x0 v5 h bc bs _ _ hw) (hml.trans hl.1.symm) (by rw [hb]; exact (xb_d D_Checker_checkElse 10 rfl)) (Nat.le_of_ble_eq_true rfl) (Nat.le_of_ble_eq_true rfl) (Nat.le_of_ble_eq_true rfl) (show k + bc ≤ MC by omega) (show n + bs ≤ MS by omega) (xt_w1 hB.1 m_b71cce2b) (xt_cdOf hB.1 m_b71cce2b) (hts _ m_44748ce5) hB hR hS hA (fun vv h6 bc7 bs7 kk7 nn7 H locs hk7 hn7 hq hEh6 hR hS => ?_) (fun XX ax h6 bc7 bs7 kk7 nn7 H locs hk7 hn7 hq hEh6 hex hR hS => ?_)
  · obtain ⟨r7, rfl, hw⟩ := hq
    have hw := hw hEh6
    have hE := hE.tr hEh6
    refine W.eq (g2 := F0 m 17 ls [.int r7]) rfl ?_
    refine lv_pop hx hb (xb_d D_Checker_checkElse 11 rfl) rfl ?_
    refine lv_aload_n hx hb (xb_d D_Checker_checkElse 12 rfl) rfl (lv_at hl 1 rfl) ?_
    refine lv_aload_n hx hb (xb_d D_Checker_checkElse 13 rfl) rfl (lv_at hl 1 rfl) ?_
    have hk1 : xb_k h6 x0 = 5 := hEh6.k hk1
    refine xb_getI (C := R_Checker) (T := F_Checker) (N := 17) hx hb 4 4 hts fin_Checker hown hR hk1 (by decide) rfl (by decide) rfl (hts _ m_b89190d5) (fun _ h9 => h9) (xb_d D_Checker_checkElse 14 rfl) ?_
    refine lv_aload_n hx hb (xb_d D_Checker_checkElse 15 rfl) rfl (lv_at hl 1 rfl) ?_
    refine xb_getP (C := R_Checker) (T := F_Checker) (N := 17) hx hb 4 14 hts fin_Checker hown hR hk1 (by decide) rfl (by decide) rfl (hts _ m_a3869304) (fun _ h9 => h9) (xb_d D_Checker_checkElse 16 rfl) ?_
    obtain ⟨b8, eb8, hw⟩ := hw
    refine xb_some eb8 ?_
    refine lv_aload_n hx hb (xb_d D_Checker_checkElse 17 rfl) rfl (lv_at hl 1 rfl) ?_
    refine xb_getI (C := R_Checker) (T := F_Checker) (N := 17) hx hb 4 16 hts fin_Checker hown hR hk1 (by decide) rfl (by decide) rfl (hts _ m_47f80c41) (fun _ h9 => h9) (xb_d D_Checker_checkElse 18 rfl) ?_
    refine lv_iconst (v := 1) hx hb (xb_d D_Checker_checkElse 19 rfl) (by decide) ?_
    refine lv_isub hx hb (xb_d D_Checker_checkElse 20 rfl) ?_
    obtain ⟨hk10, hw⟩ := hw
    obtain ⟨hi9, hw⟩ := hw
    refine xb_iald hx hb hR hk10 hi9 (xb_d D_Checker_checkElse 21 rfl) ?_
    refine lv_icmp_ne (tgt := 41) hx hb (xb_d D_Checker_checkElse 22 rfl) rfl (fun hc11 => ?_) (fun hc11 => ?_)
    · have hw := hw.1 hc11
      refine lv_iconst (v := 0) hx hb (xb_d D_Checker_checkElse 25 rfl) (by decide) ?_
      exact am_Checker_checkElse_L42 l hfl D A σ MC MS h0 Qr Qt x0 v5 0 x0 h6 bc7 bs7 hw p e s m args below meth c hC H locs ls (k + kk7) (n + nn7) hE (lv_sub hl [1, 0] rfl) hR hS (by omega) (by omega)
    · have hw := hw.2 hc11
      refine lv_iconst (v := 1) hx hb (xb_d D_Checker_checkElse 23 rfl) (by decide) ?_
      refine lv_goto (tgt := 42) hx hb (xb_d D_Checker_checkElse 24 rfl) rfl ?_
      exact am_Checker_checkElse_L42 l hfl D A σ MC MS h0 Qr Qt x0 v5 1 x0 h6 bc7 bs7 hw p e s m args below meth c hC H locs ls (k + kk7) (n + nn7) hE (lv_sub hl [1, 0] rfl) hR hS (by omega) (by omega)
  · exact xb_pass hlocks (fun x hx9 => by rw [htab] at hx9; first | (cases hx9; done) | (simp [tableOf] at hx9; subst hx9; decide) | (simp [tableOf] at hx9; rcases hx9 with rfl | rfl <;> decide) | (simp [tableOf] at hx9; rcases hx9 with rfl | rfl | rfl <;> decide)) (show (k + kk7) + bc7 ≤ MC by omega) (show (n + nn7) + bs7 ≤ MS by omega) (hE.tr hEh6) hR hS hex hq

set_option maxRecDepth 100000 in
def T_Checker_checkEnd : List (Nat × Instr × Nat) := [(0, .aload_n 0, 1), (1, .getfield 28, 3), (4, .aload_n 0, 1), (5, .getfield 193, 3), (8, .iconst 1, 1), (9, .isub, 1), (10, .iaload, 1), (11, .istore_n 1, 1), (12, .aload_n 0, 1), (13, .iload_n 1, 1), (14, .invokevirtual 251, 3), (17, .pop, 1), (18, .aload_n 0, 1), (19, .aload_n 0, 1), (20, .getfield 187, 3), (23, .aload_n 0, 1), (24, .getfield 31, 3), (27, .aload_n 0, 1), (28, .getfield 193, 3), (31, .iconst 1, 1), (32, .isub, 1), (33, .iaload, 1), (34, .if_icmp .ne 7, 3), (37, .iconst 1, 1), (38, .goto 4, 3), (41, .iconst 0, 1), (42, .bipush 21, 2), (44, .invokevirtual 254, 3), (47, .aload_n 0, 1), (48, .aload_n 0, 1), (49, .getfield 18, 3), (52, .aload_n 0, 1), (53, .getfield 193, 3), (56, .iconst 1, 1), (57, .isub, 1), (58, .iaload, 1), (59, .iconst 4, 1), (60, .if_icmp .ne 9, 3), (63, .iload_n 1, 1), (64, .bipush 64, 2), (66, .if_icmp .ne 7, 3), (69, .iconst 1, 1), (70, .goto 4, 3), (73, .iconst 0, 1), (74, .bipush 21, 2), (76, .invokevirtual 254, 3), (79, .aload_n 0, 1), (80, .dup, 1), (81, .getfield 193, 3), (84, .iconst 1, 1), (85, .isub, 1), (86, .putfield 193, 3), (89, .aload_n 0, 1), (90, .iload_n 1, 1), (91, .invokevirtual 236, 3), (94, .return_, 1)]
theorem D_Checker_checkEnd : ∀ q ∈ T_Checker_checkEnd, decode b_Checker_checkEnd q.1 = .ok (q.2.1, q.2.2) := by decide +kernel

set_option maxHeartbeats 4000000 in
set_option maxRecDepth 100000 in
theorem am_Checker_checkEnd_L74 (l : Launch) (hfl : l.flags = pinnedFlags ++ [noTraceFlag]) (D : va_G) (A : Nat → Prop) (σ MC MS : Nat) (h0 : xb_H) (Qr : xb_H → Nat → Nat → Prop) (Qt : String → xb_H → Nat → Nat → Prop) (x0 : Nat) (x1 : Int32) (y0 : Int32) (y1 : Nat) (h : xb_H) (bc : Nat) (bs : Nat) (hw : w_Checker_checkEnd_L74 Qr Qt x0 x1 y0 y1 h bc bs) : xb_am l D A σ 4 MC MS h0 (fun v h bc bs => v = none ∧ Qr h bc bs) Qt y_Checker_checkEnd.cls y_Checker_checkEnd.name b_Checker_checkEnd 2 ([] : List ExceptionTableEntry) none 74 [(0, .ref x0), (1, .int x1)] [.int y0, .ref y1] h bc bs := by
  unfold w_Checker_checkEnd_L74 at hw
  intro p e s m args below meth c hC H locs ls k n hE hl hR hS hk hn
  obtain ⟨hx, hb, hown, hlocks, htab, hml, hr, hB, hA, hnm⟩ := id hC
  have hts := hB.1.1.at args
  refine lv_bipush (v := 21) hx hb (xb_d D_Checker_checkEnd 44 rfl) (by decide) ?_
  obtain ⟨hk1, hw⟩ := hw
  refine xb_call (D := D) (A := A) (σ := σ) (h := h) (d := 3) (mc := bc) (ms := bs) (maxL := 3) (rest := []) (av := [.ref y1, .int y0, .int 21]) (fun T hT X => by obtain ⟨cb9, ra9, rb9, rc9⟩ := xb_recv (ci := 4) hR rfl hk1 (by decide); exact xt_invV X hx hown (hts _ m_0a242445) (hts _ m_a99c45f7) (hts _ m_978d7491) (xt_sigOf (hts _ m_01f2fc97)) nm_Checker_require (by rw [hT]; exact ra9) rb9 rc9 (g := F0 m 76 ls [.int 21, .int y0, .ref y1]) rfl (argsL := [.int y0, .int 21]) (rest := []) rfl rfl (by rw [hb]; exact (xb_d D_Checker_checkEnd 45 rfl))) (ok_Checker_require l hfl D A σ y1 y0 21 h bc bs _ _ hw) (hml.trans hl.1.symm) (by rw [hb]; exact (xb_d D_Checker_checkEnd 45 rfl)) (Nat.le_of_ble_eq_true rfl) (Nat.le_of_ble_eq_true rfl) (Nat.le_of_ble_eq_true rfl) (show k + bc ≤ MC by omega) (show n + bs ≤ MS by omega) (xt_w1 hB.1 m_01f2fc97) (xt_cdOf hB.1 m_01f2fc97) (hts _ m_44748ce5) hB hR hS hA (fun vv h2 bc3 bs3 kk3 nn3 H locs hk3 hn3 hq hEh2 hR hS => ?_) (fun XX ax h2 bc3 bs3 kk3 nn3 H locs hk3 hn3 hq hEh2 hex hR hS => ?_)
  · obtain ⟨rfl, hw⟩ := hq
    have hw := hw hEh2
    have hE := hE.tr hEh2
    refine W.eq (g2 := F0 m 79 ls []) rfl ?_
    refine lv_aload_n hx hb (xb_d D_Checker_checkEnd 46 rfl) rfl (lv_at hl 0 rfl) ?_
    refine lv_dup hx hb (xb_d D_Checker_checkEnd 47 rfl) rfl ?_
    obtain ⟨hk4, hw⟩ := hw
    refine xb_getI (C := R_Checker) (T := F_Checker) (N := 17) hx hb 4 16 hts fin_Checker hown hR hk4 (by decide) rfl (by decide) rfl (hts _ m_47f80c41) (fun _ h9 => h9) (xb_d D_Checker_checkEnd 48 rfl) ?_
    refine lv_iconst (v := 1) hx hb (xb_d D_Checker_checkEnd 49 rfl) (by decide) ?_
    refine lv_isub hx hb (xb_d D_Checker_checkEnd 50 rfl) ?_
    refine xb_putI (C := R_Checker) (T := F_Checker) (N := 17) (ty := .int) (x := ((xb_i h2 x0 16) - 1)) hx hb 4 16 hts fin_Checker t_Checker t_Checker_ok n_Checker hown hR hS hk4 (by decide) rfl (by decide) rfl (hts _ m_47f80c41) (fun _ h9 => h9) rfl (by decide +kernel) rfl rfl (xb_d D_Checker_checkEnd 51 rfl) (fun H locs hR hS => ?_)
    obtain ⟨h5, eh5⟩ : ∃ x : xb_H, x = xb_I h2 x0 16 ((xb_i h2 x0 16) - 1) := ⟨_, rfl⟩
    rw [← eh5] at hR
    have hw := hw h5 eh5
    have hE : xb_ext h0 h5 := by rw [eh5]; exact hE
    refine lv_aload_n hx hb (xb_d D_Checker_checkEnd 52 rfl) rfl (lv_at hl 0 rfl) ?_
    refine lv_iload_n hx hb (xb_d D_Checker_checkEnd 53 rfl) rfl (lv_at hl 1 rfl) ?_
    have hk4 : xb_k h5 x0 = 5 := by rw [eh5]; exact hk4
    refine xb_call0 (D := D) (A := A) (σ := σ) (h := h5) (d := 2) (maxL := 2) (rest := []) (av := [.ref x0, .int x1]) (fun T hT X => by obtain ⟨cb9, ra9, rb9, rc9⟩ := xb_recv (ci := 4) hR rfl hk4 (by decide); exact xt_invV X hx hown (hts _ m_761ff7fc) (hts _ m_e867be1e) (hts _ m_098fc344) (xt_sigOf (hts _ m_43ff17c7)) nm_Checker_put (by rw [hT]; exact ra9) rb9 rc9 (g := F0 m 91 ls [.int x1, .ref x0]) rfl (argsL := [.int x1]) (rest := []) rfl rfl (by rw [hb]; exact (xb_d D_Checker_checkEnd 54 rfl))) (ok_Checker_put l hfl D A σ x0 x1 h5 _ hw) (hml.trans hl.1.symm) (by rw [hb]; exact (xb_d D_Checker_checkEnd 54 rfl)) (Nat.le_of_ble_eq_true rfl) (Nat.le_of_ble_eq_true rfl) (Nat.le_of_ble_eq_true rfl) (show (k + kk3) ≤ MC by omega) (show (n + nn3) ≤ MS by omega) (xt_w1 hB.1 m_43ff17c7) (xt_cdOf hB.1 m_43ff17c7) (hts _ m_44748ce5) hB hR hS hA (fun vv h6 H locs hq hEh6 hR hS => ?_)
    obtain ⟨rfl, hw⟩ := hq
    have hw := hw hEh6
    have hE := hE.tr hEh6
    refine W.eq (g2 := F0 m 94 ls []) rfl ?_
    exact xb_vret bc3 bs3 hx hb hr hlocks (show (k + kk3) + bc3 ≤ MC by omega) (show (n + nn3) + bs3 ≤ MS by omega) hE hR hS (xb_d D_Checker_checkEnd 55 rfl) hw
  · exact xb_pass hlocks (fun x hx9 => by rw [htab] at hx9; first | (cases hx9; done) | (simp [tableOf] at hx9; subst hx9; decide) | (simp [tableOf] at hx9; rcases hx9 with rfl | rfl <;> decide) | (simp [tableOf] at hx9; rcases hx9 with rfl | rfl | rfl <;> decide)) (show (k + kk3) + bc3 ≤ MC by omega) (show (n + nn3) + bs3 ≤ MS by omega) (hE.tr hEh2) hR hS hex hq

set_option maxHeartbeats 4000000 in
set_option maxRecDepth 100000 in
theorem am_Checker_checkEnd_L69 (l : Launch) (hfl : l.flags = pinnedFlags ++ [noTraceFlag]) (D : va_G) (A : Nat → Prop) (σ MC MS : Nat) (h0 : xb_H) (Qr : xb_H → Nat → Nat → Prop) (Qt : String → xb_H → Nat → Nat → Prop) (x0 : Nat) (x1 : Int32) (y0 : Nat) (h : xb_H) (bc : Nat) (bs : Nat) (hw : w_Checker_checkEnd_L69 Qr Qt x0 x1 y0 h bc bs) : xb_am l D A σ 4 MC MS h0 (fun v h bc bs => v = none ∧ Qr h bc bs) Qt y_Checker_checkEnd.cls y_Checker_checkEnd.name b_Checker_checkEnd 2 ([] : List ExceptionTableEntry) none 69 [(0, .ref x0), (1, .int x1)] [.ref y0] h bc bs := by
  unfold w_Checker_checkEnd_L69 at hw
  intro p e s m args below meth c hC H locs ls k n hE hl hR hS hk hn
  obtain ⟨hx, hb, hown, hlocks, htab, hml, hr, hB, hA, hnm⟩ := id hC
  have hts := hB.1.1.at args
  refine lv_iconst (v := 1) hx hb (xb_d D_Checker_checkEnd 41 rfl) (by decide) ?_
  refine lv_goto (tgt := 74) hx hb (xb_d D_Checker_checkEnd 42 rfl) rfl ?_
  exact am_Checker_checkEnd_L74 l hfl D A σ MC MS h0 Qr Qt x0 x1 1 y0 h bc bs hw p e s m args below meth c hC H locs ls k n hE (lv_sub hl [0, 1] rfl) hR hS (by omega) (by omega)

set_option maxHeartbeats 4000000 in
set_option maxRecDepth 100000 in
theorem am_Checker_checkEnd_L42 (l : Launch) (hfl : l.flags = pinnedFlags ++ [noTraceFlag]) (D : va_G) (A : Nat → Prop) (σ MC MS : Nat) (h0 : xb_H) (Qr : xb_H → Nat → Nat → Prop) (Qt : String → xb_H → Nat → Nat → Prop) (x0 : Nat) (x1 : Int32) (y0 : Int32) (y1 : Nat) (h : xb_H) (bc : Nat) (bs : Nat) (hw : w_Checker_checkEnd_L42 Qr Qt x0 x1 y0 y1 h bc bs) : xb_am l D A σ 4 MC MS h0 (fun v h bc bs => v = none ∧ Qr h bc bs) Qt y_Checker_checkEnd.cls y_Checker_checkEnd.name b_Checker_checkEnd 2 ([] : List ExceptionTableEntry) none 42 [(0, .ref x0), (1, .int x1)] [.int y0, .ref y1] h bc bs := by
  unfold w_Checker_checkEnd_L42 at hw
  intro p e s m args below meth c hC H locs ls k n hE hl hR hS hk hn
  obtain ⟨hx, hb, hown, hlocks, htab, hml, hr, hB, hA, hnm⟩ := id hC
  have hts := hB.1.1.at args
  refine lv_bipush (v := 21) hx hb (xb_d D_Checker_checkEnd 26 rfl) (by decide) ?_
  obtain ⟨hk1, hw⟩ := hw
  refine xb_call (D := D) (A := A) (σ := σ) (h := h) (d := 3) (mc := bc) (ms := bs) (maxL := 3) (rest := []) (av := [.ref y1, .int y0, .int 21]) (fun T hT X => by obtain ⟨cb9, ra9, rb9, rc9⟩ := xb_recv (ci := 4) hR rfl hk1 (by decide); exact xt_invV X hx hown (hts _ m_0a242445) (hts _ m_a99c45f7) (hts _ m_978d7491) (xt_sigOf (hts _ m_01f2fc97)) nm_Checker_require (by rw [hT]; exact ra9) rb9 rc9 (g := F0 m 44 ls [.int 21, .int y0, .ref y1]) rfl (argsL := [.int y0, .int 21]) (rest := []) rfl rfl (by rw [hb]; exact (xb_d D_Checker_checkEnd 27 rfl))) (ok_Checker_require l hfl D A σ y1 y0 21 h bc bs _ _ hw) (hml.trans hl.1.symm) (by rw [hb]; exact (xb_d D_Checker_checkEnd 27 rfl)) (Nat.le_of_ble_eq_true rfl) (Nat.le_of_ble_eq_true rfl) (Nat.le_of_ble_eq_true rfl) (show k + bc ≤ MC by omega) (show n + bs ≤ MS by omega) (xt_w1 hB.1 m_01f2fc97) (xt_cdOf hB.1 m_01f2fc97) (hts _ m_44748ce5) hB hR hS hA (fun vv h2 bc3 bs3 kk3 nn3 H locs hk3 hn3 hq hEh2 hR hS => ?_) (fun XX ax h2 bc3 bs3 kk3 nn3 H locs hk3 hn3 hq hEh2 hex hR hS => ?_)
  · obtain ⟨rfl, hw⟩ := hq
    have hw := hw hEh2
    have hE := hE.tr hEh2
    refine W.eq (g2 := F0 m 47 ls []) rfl ?_
    refine lv_aload_n hx hb (xb_d D_Checker_checkEnd 28 rfl) rfl (lv_at hl 0 rfl) ?_
    refine lv_aload_n hx hb (xb_d D_Checker_checkEnd 29 rfl) rfl (lv_at hl 0 rfl) ?_
    obtain ⟨hk4, hw⟩ := hw
    refine xb_getP (C := R_Checker) (T := F_Checker) (N := 17) hx hb 4 10 hts fin_Checker hown hR hk4 (by decide) rfl (by decide) rfl (hts _ m_934b59dc) (fun _ h9 => h9) (xb_d D_Checker_checkEnd 30 rfl) ?_
    obtain ⟨b5, eb5, hw⟩ := hw
    refine xb_some eb5 ?_
    refine lv_aload_n hx hb (xb_d D_Checker_checkEnd 31 rfl) rfl (lv_at hl 0 rfl) ?_
    refine xb_getI (C := R_Checker) (T := F_Checker) (N := 17) hx hb 4 16 hts fin_Checker hown hR hk4 (by decide) rfl (by decide) rfl (hts _ m_47f80c41) (fun _ h9 => h9) (xb_d D_Checker_checkEnd 32 rfl) ?_
    refine lv_iconst (v := 1) hx hb (xb_d D_Checker_checkEnd 33 rfl) (by decide) ?_
    refine lv_isub hx hb (xb_d D_Checker_checkEnd 34 rfl) ?_
    obtain ⟨hk7, hw⟩ := hw
    obtain ⟨hi6, hw⟩ := hw
    refine xb_iald hx hb hR hk7 hi6 (xb_d D_Checker_checkEnd 35 rfl) ?_
    refine lv_iconst (v := 4) hx hb (xb_d D_Checker_checkEnd 36 rfl) (by decide) ?_
    refine lv_icmp_ne (tgt := 69) hx hb (xb_d D_Checker_checkEnd 37 rfl) rfl (fun hc8 => ?_) (fun hc8 => ?_)
    · have hw := hw.1 hc8
      exact am_Checker_checkEnd_L69 l hfl D A σ MC MS h0 Qr Qt x0 x1 x0 h2 bc3 bs3 hw p e s m args below meth c hC H locs ls (k + kk3) (n + nn3) hE (lv_sub hl [0, 1] rfl) hR hS (by omega) (by omega)
    · have hw := hw.2 hc8
      refine lv_iload_n hx hb (xb_d D_Checker_checkEnd 38 rfl) rfl (lv_at hl 1 rfl) ?_
      refine lv_bipush (v := 64) hx hb (xb_d D_Checker_checkEnd 39 rfl) (by decide) ?_
      refine lv_icmp_ne (tgt := 73) hx hb (xb_d D_Checker_checkEnd 40 rfl) rfl (fun hc9 => ?_) (fun hc9 => ?_)
      · have hw := hw.1 hc9
        refine lv_iconst (v := 0) hx hb (xb_d D_Checker_checkEnd 43 rfl) (by decide) ?_
        exact am_Checker_checkEnd_L74 l hfl D A σ MC MS h0 Qr Qt x0 x1 0 x0 h2 bc3 bs3 hw p e s m args below meth c hC H locs ls (k + kk3) (n + nn3) hE (lv_sub hl [0, 1] rfl) hR hS (by omega) (by omega)
      · have hw := hw.2 hc9
        exact am_Checker_checkEnd_L69 l hfl D A σ MC MS h0 Qr Qt x0 x1 x0 h2 bc3 bs3 hw p e s m args below meth c hC H locs ls (k + kk3) (n + nn3) hE (lv_sub hl [0, 1] rfl) hR hS (by omega) (by omega)
  · exact xb_pass hlocks (fun x hx9 => by rw [htab] at hx9; first | (cases hx9; done) | (simp [tableOf] at hx9; subst hx9; decide) | (simp [tableOf] at hx9; rcases hx9 with rfl | rfl <;> decide) | (simp [tableOf] at hx9; rcases hx9 with rfl | rfl | rfl <;> decide)) (show (k + kk3) + bc3 ≤ MC by omega) (show (n + nn3) + bs3 ≤ MS by omega) (hE.tr hEh2) hR hS hex hq

set_option maxHeartbeats 4000000 in
set_option maxRecDepth 100000 in
theorem ok_Checker_checkEnd (l : Launch) (hfl : l.flags = pinnedFlags ++ [noTraceFlag]) (D : va_G) (A : Nat → Prop) (σ : Nat) (x0 : Nat) (h : xb_H) (bc : Nat) (bs : Nat) (Qr : xb_H → Nat → Nat → Prop) (Qt : String → xb_H → Nat → Nat → Prop) (hw : w_Checker_checkEnd x0 h bc bs Qr Qt) : xb_Met l y_Checker_checkEnd [.code y_Checker_checkEnd b_Checker_checkEnd 2 none] (xb_rm 4 bc bs) (xb_Pc D A σ h [.ref x0]) (xb_Qc D A h bc bs (fun v h bc bs => v = none ∧ Qr h bc bs) Qt) A := by
  refine xb_ofAm (cc := b_Checker_checkEnd) (by decide) (Nat.le_of_ble_eq_true rfl) ?_
  unfold w_Checker_checkEnd at hw
  show xb_am l D A σ 4 bc bs h (fun v h bc bs => v = none ∧ Qr h bc bs) Qt y_Checker_checkEnd.cls y_Checker_checkEnd.name b_Checker_checkEnd 2 ([] : List ExceptionTableEntry) none 0 [(0, .ref x0)] [] h bc bs
  obtain ⟨MC, hMC⟩ : ∃ x, x = bc := ⟨_, rfl⟩
  obtain ⟨MS, hMS⟩ : ∃ x, x = bs := ⟨_, rfl⟩
  rw [show xb_am l D A σ 4 bc bs = xb_am l D A σ 4 MC MS by rw [hMC, hMS]]
  obtain ⟨h0, hh0⟩ : ∃ x, x = h := ⟨_, rfl⟩
  rw [show xb_am l D A σ 4 MC MS h = xb_am l D A σ 4 MC MS h0 by rw [hh0]]
  intro p e s m args below meth c hC H locs ls k n hE hl hR hS hk hn
  obtain ⟨hx, hb, hown, hlocks, htab, hml, hr, hB, hA, hnm⟩ := id hC
  have hts := hB.1.1.at args
  refine lv_aload_n hx hb (xb_d D_Checker_checkEnd 0 rfl) rfl (lv_at hl 0 rfl) ?_
  obtain ⟨hk1, hw⟩ := hw
  refine xb_getP (C := R_Checker) (T := F_Checker) (N := 17) hx hb 4 13 hts fin_Checker hown hR hk1 (by decide) rfl (by decide) rfl (hts _ m_8413ec5e) (fun _ h9 => h9) (xb_d D_Checker_checkEnd 1 rfl) ?_
  obtain ⟨b2, eb2, hw⟩ := hw
  refine xb_some eb2 ?_
  refine lv_aload_n hx hb (xb_d D_Checker_checkEnd 2 rfl) rfl (lv_at hl 0 rfl) ?_
  refine xb_getI (C := R_Checker) (T := F_Checker) (N := 17) hx hb 4 16 hts fin_Checker hown hR hk1 (by decide) rfl (by decide) rfl (hts _ m_47f80c41) (fun _ h9 => h9) (xb_d D_Checker_checkEnd 3 rfl) ?_
  refine lv_iconst (v := 1) hx hb (xb_d D_Checker_checkEnd 4 rfl) (by decide) ?_
  refine lv_isub hx hb (xb_d D_Checker_checkEnd 5 rfl) ?_
  obtain ⟨hk4, hw⟩ := hw
  obtain ⟨hi3, hw⟩ := hw
  refine xb_iald hx hb hR hk4 hi3 (xb_d D_Checker_checkEnd 6 rfl) ?_
  obtain ⟨v5, ev5⟩ : ∃ x : Int32, x = (xb_i h b2 (Int32.toNatClampNeg ((xb_i h x0 16) - 1))) := ⟨_, rfl⟩
  have hw := hw v5 ev5
  refine xt_numi (y := v5) ev5.symm ?_
  refine lv_istore_n hx hb (xb_d D_Checker_checkEnd 7 rfl) rfl hl (by decide) rfl (fun ls hl => ?_)
  have hl : lv_has ls 2 [(1, .int v5), (0, .ref x0)] := hl
  refine lv_aload_n hx hb (xb_d D_Checker_checkEnd 8 rfl) rfl (lv_at hl 1 rfl) ?_
  refine lv_iload_n hx hb (xb_d D_Checker_checkEnd 9 rfl) rfl (lv_at hl 0 rfl) ?_
  refine xb_call (D := D) (A := A) (σ := σ) (h := h) (d := 3) (mc := bc) (ms := bs) (maxL := 3) (rest := []) (av := [.ref x0, .int v5]) (fun T hT X => by obtain ⟨cb9, ra9, rb9, rc9⟩ := xb_recv (ci := 4) hR rfl hk1 (by decide); exact xt_invV X hx hown (hts _ m_0b33e20f) (hts _ m_338dda25) (hts _ m_d7dc08f9) (xt_sigOf (hts _ m_b71cce2b)) nm_Checker_take (by rw [hT]; exact ra9) rb9 rc9 (g := F0 m 14 ls [.int v5, .ref x0]) rfl (argsL := [.int v5]) (rest := []) rfl rfl (by rw [hb]; exact (xb_d D_Checker_checkEnd 10 rfl))) (ok_Checker_take l hfl D A σ x0 v5 h bc bs _ _ hw) (hml.trans hl.1.symm) (by rw [hb]; exact (xb_d D_Checker_checkEnd 10 rfl)) (Nat.le_of_ble_eq_true rfl) (Nat.le_of_ble_eq_true rfl) (Nat.le_of_ble_eq_true rfl) (show k + bc ≤ MC by omega) (show n + bs ≤ MS by omega) (xt_w1 hB.1 m_b71cce2b) (xt_cdOf hB.1 m_b71cce2b) (hts _ m_44748ce5) hB hR hS hA (fun vv h6 bc7 bs7 kk7 nn7 H locs hk7 hn7 hq hEh6 hR hS => ?_) (fun XX ax h6 bc7 bs7 kk7 nn7 H locs hk7 hn7 hq hEh6 hex hR hS => ?_)
  · obtain ⟨r7, rfl, hw⟩ := hq
    have hw := hw hEh6
    have hE := hE.tr hEh6
    refine W.eq (g2 := F0 m 17 ls [.int r7]) rfl ?_
    refine lv_pop hx hb (xb_d D_Checker_checkEnd 11 rfl) rfl ?_
    refine lv_aload_n hx hb (xb_d D_Checker_checkEnd 12 rfl) rfl (lv_at hl 1 rfl) ?_
    refine lv_aload_n hx hb (xb_d D_Checker_checkEnd 13 rfl) rfl (lv_at hl 1 rfl) ?_
    have hk1 : xb_k h6 x0 = 5 := hEh6.k hk1
    refine xb_getI (C := R_Checker) (T := F_Checker) (N := 17) hx hb 4 4 hts fin_Checker hown hR hk1 (by decide) rfl (by decide) rfl (hts _ m_b89190d5) (fun _ h9 => h9) (xb_d D_Checker_checkEnd 14 rfl) ?_
    refine lv_aload_n hx hb (xb_d D_Checker_checkEnd 15 rfl) rfl (lv_at hl 1 rfl) ?_
    refine xb_getP (C := R_Checker) (T := F_Checker) (N := 17) hx hb 4 14 hts fin_Checker hown hR hk1 (by decide) rfl (by decide) rfl (hts _ m_a3869304) (fun _ h9 => h9) (xb_d D_Checker_checkEnd 16 rfl) ?_
    obtain ⟨b8, eb8, hw⟩ := hw
    refine xb_some eb8 ?_
    refine lv_aload_n hx hb (xb_d D_Checker_checkEnd 17 rfl) rfl (lv_at hl 1 rfl) ?_
    refine xb_getI (C := R_Checker) (T := F_Checker) (N := 17) hx hb 4 16 hts fin_Checker hown hR hk1 (by decide) rfl (by decide) rfl (hts _ m_47f80c41) (fun _ h9 => h9) (xb_d D_Checker_checkEnd 18 rfl) ?_
    refine lv_iconst (v := 1) hx hb (xb_d D_Checker_checkEnd 19 rfl) (by decide) ?_
    refine lv_isub hx hb (xb_d D_Checker_checkEnd 20 rfl) ?_
    obtain ⟨hk10, hw⟩ := hw
    obtain ⟨hi9, hw⟩ := hw
    refine xb_iald hx hb hR hk10 hi9 (xb_d D_Checker_checkEnd 21 rfl) ?_
    refine lv_icmp_ne (tgt := 41) hx hb (xb_d D_Checker_checkEnd 22 rfl) rfl (fun hc11 => ?_) (fun hc11 => ?_)
    · have hw := hw.1 hc11
      refine lv_iconst (v := 0) hx hb (xb_d D_Checker_checkEnd 25 rfl) (by decide) ?_
      exact am_Checker_checkEnd_L42 l hfl D A σ MC MS h0 Qr Qt x0 v5 0 x0 h6 bc7 bs7 hw p e s m args below meth c hC H locs ls (k + kk7) (n + nn7) hE (lv_sub hl [1, 0] rfl) hR hS (by omega) (by omega)
    · have hw := hw.2 hc11
      refine lv_iconst (v := 1) hx hb (xb_d D_Checker_checkEnd 23 rfl) (by decide) ?_
      refine lv_goto (tgt := 42) hx hb (xb_d D_Checker_checkEnd 24 rfl) rfl ?_
      exact am_Checker_checkEnd_L42 l hfl D A σ MC MS h0 Qr Qt x0 v5 1 x0 h6 bc7 bs7 hw p e s m args below meth c hC H locs ls (k + kk7) (n + nn7) hE (lv_sub hl [1, 0] rfl) hR hS (by omega) (by omega)
  · exact xb_pass hlocks (fun x hx9 => by rw [htab] at hx9; first | (cases hx9; done) | (simp [tableOf] at hx9; subst hx9; decide) | (simp [tableOf] at hx9; rcases hx9 with rfl | rfl <;> decide) | (simp [tableOf] at hx9; rcases hx9 with rfl | rfl | rfl <;> decide)) (show (k + kk7) + bc7 ≤ MC by omega) (show (n + nn7) + bs7 ≤ MS by omega) (hE.tr hEh6) hR hS hex hq

