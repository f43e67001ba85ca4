theorem m_039776f3 : (.methodLink "StackHost$Machine" 100 y_Machine_step : Cond) ∈ xt_tbl := xt_in (xt_t8 (List.mem_of_getElem? (i := 8) (by decide +kernel))) (by decide +kernel)
theorem m_edc0e629 : (.instanceMethod y_Machine_step : Cond) ∈ xt_tbl := xt_in (xt_t8 (List.mem_of_getElem? (i := 10) (by decide +kernel))) (by decide +kernel)
theorem m_40f89843 : (.selects "StackHost$Machine" y_Machine_step y_Machine_step : Cond) ∈ xt_tbl := xt_in (xt_v6 (q := (⟨"StackHost$Machine", "step", "()V"⟩, 18)) (List.mem_of_getElem? (i := 13) (by decide +kernel))) (by decide +kernel)
theorem m_74a5fc12 : (.code y_Machine_step b_Machine_step 2 none : Cond) ∈ xt_tbl := xt_in (xt_t8 (List.mem_of_getElem? (i := 11) (by decide +kernel))) (by decide +kernel)
theorem m_9ff3405b : (.methodLink "StackHost$Machine" 97 y_Machine_passFree : Cond) ∈ xt_tbl := xt_in (xt_t7 (List.mem_of_getElem? (i := 234) (by decide +kernel))) (by decide +kernel)
theorem m_11e6426e : (.instanceMethod y_Machine_passFree : Cond) ∈ xt_tbl := xt_in (xt_t7 (List.mem_of_getElem? (i := 236) (by decide +kernel))) (by decide +kernel)
theorem m_31c04949 : (.selects "StackHost$Machine" y_Machine_passFree y_Machine_passFree : Cond) ∈ xt_tbl := xt_in (xt_v6 (q := (⟨"StackHost$Machine", "passFree", "()V"⟩, 18)) (List.mem_of_getElem? (i := 10) (by decide +kernel))) (by decide +kernel)
theorem m_b7e88caf : (.code y_Machine_passFree b_Machine_passFree 2 none : Cond) ∈ xt_tbl := xt_in (xt_t7 (List.mem_of_getElem? (i := 237) (by decide +kernel))) (by decide +kernel)
theorem nm_Machine_step : xt_nm y_Machine_step 0 := ⟨by decide +kernel, by decide +kernel⟩
theorem nm_Machine_passFree : xt_nm y_Machine_passFree 0 := ⟨by decide +kernel, by decide +kernel⟩
set_option maxRecDepth 100000 in
def T_Machine_go : List (Nat × Instr × Nat) := [(0, .aload_n 0, 1), (1, .iconst 0, 1), (2, .putfield 90, 3), (5, .aload_n 0, 1), (6, .getfield 31, 3), (9, .iconst (-1), 1), (10, .if_icmp .eq 19, 3), (13, .aload_n 0, 1), (14, .getfield 31, 3), (17, .istore_n 2, 1), (18, .aload_n 0, 1), (19, .iconst (-1), 1), (20, .putfield 31, 3), (23, .aload_n 0, 1), (24, .iload_n 2, 1), (25, .iconst 0, 1), (26, .invokevirtual 93, 3), (29, .iload_n 1, 1), (30, .istore_n 2, 1), (31, .iload_n 2, 1), (32, .ifCond .lt 44, 3), (35, .aload_n 0, 1), (36, .getfield 46, 3), (39, .ifCond .eq 37, 3), (42, .aload_n 0, 1), (43, .invokevirtual 97, 3), (46, .aload_n 0, 1), (47, .getfield 46, 3), (50, .ifCond .eq 9, 3), (53, .iload_n 2, 1), (54, .ifCond .ne 5, 3), (57, .iconst 2, 1), (58, .ireturn, 1), (59, .aload_n 0, 1), (60, .getfield 46, 3), (63, .ifCond .eq 7, 3), (66, .aload_n 0, 1), (67, .invokevirtual 100, 3), (70, .iinc 2 (-1), 3), (73, .goto (-42), 3), (76, .aload_n 0, 1), (77, .getfield 90, 3), (80, .ifCond .eq 7, 3), (83, .iconst 1, 1), (84, .goto 4, 3), (87, .iconst 0, 1), (88, .ireturn, 1)]
theorem D_Machine_go : ∀ q ∈ T_Machine_go, decode b_Machine_go q.1 = .ok (q.2.1, q.2.2) := by decide +kernel
def w_Machine_go_L88 (Qr : Int32 → xb_H → Prop) (y0 : Int32) (h : xb_H) (bc : Nat) (bs : Nat) : Prop :=
    Qr y0 h

def w_Machine_go_L76 (Qr : Int32 → xb_H → Prop) (x0 : Nat) (h : xb_H) (bc : Nat) (bs : Nat) : Prop :=
    xb_k h x0 = 8 ∧ (((xb_i h x0 7) = (0 : Int32) → w_Machine_go_L88 Qr 0 h bc bs) ∧ (¬ (xb_i h x0 7) = (0 : Int32) → w_Machine_go_L88 Qr 1 h bc bs))

def w_Machine_go_L70 (K31 : Nat → Int32 → xb_H → Nat → Nat → Prop) (Qr : Int32 → xb_H → Prop) (x0 : Nat) (x2 : Int32) (h : xb_H) (bc : Nat) (bs : Nat) : Prop :=
    K31 x0 (x2 + (-1)) h bc bs

def w_Machine_go_L59 (K31 : Nat → Int32 → xb_H → Nat → Nat → Prop) (Qr : Int32 → xb_H → Prop) (x0 : Nat) (x2 : Int32) (h : xb_H) (bc : Nat) (bs : Nat) : Prop :=
    xb_k h x0 = 8 ∧ (((xb_i h x0 3) = (0 : Int32) → w_Machine_go_L70 K31 Qr x0 x2 h bc bs) ∧ (¬ (xb_i h x0 3) = (0 : Int32) → ∃ c5 sc5 : Nat, c5 ≤ bc ∧ sc5 ≤ bs ∧ w_Machine_step x0 h c5 sc5 (fun (h3 : xb_H) => xb_ext h h3 → w_Machine_go_L70 K31 Qr x0 x2 h3 (bc - c5) (bs - sc5))))

def w_Machine_go_L31 (Qr : Int32 → xb_H → Prop) : Nat → Nat → Int32 → xb_H → Nat → Nat → Prop
  | 0, _, _, _, _, _ => False
  | n9 + 1, x0, x2, h, bc, bs =>
    ((x2 < (0 : Int32) → w_Machine_go_L76 Qr x0 h bc bs) ∧ (¬ x2 < (0 : Int32) → xb_k h x0 = 8 ∧ (((xb_i h x0 3) = (0 : Int32) → w_Machine_go_L76 Qr x0 h bc bs) ∧ (¬ (xb_i h x0 3) = (0 : Int32) → w_Machine_passFree x0 h (fun (h4 : xb_H) => xb_ext h h4 → (((xb_i h4 x0 3) = (0 : Int32) → w_Machine_go_L59 (w_Machine_go_L31 Qr n9) Qr x0 x2 h4 bc bs) ∧ (¬ (xb_i h4 x0 3) = (0 : Int32) → ((¬ x2 = (0 : Int32) → w_Machine_go_L59 (w_Machine_go_L31 Qr n9) Qr x0 x2 h4 bc bs) ∧ (x2 = (0 : Int32) → Qr 2 h4)))))))))

def w_Machine_go_L29 (Qr : Int32 → xb_H → Prop) (x0 : Nat) (x1 : Int32) (h : xb_H) (bc : Nat) (bs : Nat) : Prop :=
    (∃ n8 : Nat, w_Machine_go_L31 Qr n8 x0 x1 h bc bs)

def w_Machine_go (x0 : Nat) (x1 : Int32) (h : xb_H) (bc : Nat) (bs : Nat) (Qr : Int32 → xb_H → Prop) : Prop :=
    xb_k h x0 = 8 ∧ ∀ h2 : xb_H, h2 = xb_I h x0 7 0 → (((xb_i h2 x0 8) = ((-1) : Int32) → w_Machine_go_L29 Qr x0 x1 h2 bc bs) ∧ (¬ (xb_i h2 x0 8) = ((-1) : Int32) → ∀ v4 : Int32, v4 = (xb_i h2 x0 8) → ∀ h5 : xb_H, h5 = xb_I h2 x0 8 (-1) → ∃ c8 sc8 : Nat, c8 ≤ bc ∧ sc8 ≤ bs ∧ w_Machine_call x0 v4 0 h5 c8 sc8 (fun (h6 : xb_H) => xb_ext h5 h6 → w_Machine_go_L29 Qr x0 x1 h6 (bc - c8) (bs - sc8))))

set_option maxHeartbeats 4000000 in
set_option maxRecDepth 100000 in
theorem am_Machine_go_L88 (l : Launch) (hfl : l.flags = pinnedFlags ++ [noTraceFlag]) (D : va_G) (A : Nat → Prop) (σ MC MS : Nat) (h0 : xb_H) (Qr : Int32 → xb_H → Prop) (y0 : Int32) (h : xb_H) (bc : Nat) (bs : Nat) (hw : w_Machine_go_L88 Qr y0 h bc bs) : xb_am l D A σ 9 MC MS h0 (fun v h => ∃ r, v = some (.int r) ∧ Qr r h) (fun _ _ => False) y_Machine_go.cls y_Machine_go.name b_Machine_go 3 ([] : List ExceptionTableEntry) (some .int) 88 [] [.int y0] h bc bs := by
  unfold w_Machine_go_L88 at hw
  intro p e s m args below meth c hC H locs ls k n hE hl hR hS hk hn
  obtain ⟨hx, hb, hown, hlocks, htab, hml, hr, hB, hA, hnm⟩ := id hC
  have hts := hB.1.1.at args
  exact xb_iret hx hb hr hlocks (show k ≤ MC by omega) (show n ≤ MS by omega) hE hR hS (xb_d D_Machine_go 46 rfl) hw

set_option maxHeartbeats 4000000 in
set_option maxRecDepth 100000 in
theorem am_Machine_go_L76 (l : Launch) (hfl : l.flags = pinnedFlags ++ [noTraceFlag]) (D : va_G) (A : Nat → Prop) (σ MC MS : Nat) (h0 : xb_H) (Qr : Int32 → xb_H → Prop) (x0 : Nat) (h : xb_H) (bc : Nat) (bs : Nat) (hw : w_Machine_go_L76 Qr x0 h bc bs) : xb_am l D A σ 9 MC MS h0 (fun v h => ∃ r, v = some (.int r) ∧ Qr r h) (fun _ _ => False) y_Machine_go.cls y_Machine_go.name b_Machine_go 3 ([] : List ExceptionTableEntry) (some .int) 76 [(0, .ref x0)] [] h bc bs := by
  unfold w_Machine_go_L76 at hw
  intro p e s m args below meth c hC H locs ls k n hE hl hR hS hk hn
  obtain ⟨hx, hb, hown, hlocks, htab, hml, hr, hB, hA, hnm⟩ := id hC
  have hts := hB.1.1.at args
  refine lv_aload_n hx hb (xb_d D_Machine_go 40 rfl) rfl (lv_at hl 0 rfl) ?_
  obtain ⟨hk1, hw⟩ := hw
  refine xb_getI (C := R_Machine) (T := F_Machine) (N := 18) hx hb 7 7 hts fin_Machine hown hR hk1 (by decide) rfl (by decide) rfl (hts _ m_cb912e58) (fun _ h9 => h9) (xb_d D_Machine_go 41 rfl) ?_
  refine lv_if_eq (tgt := 87) hx hb (xb_d D_Machine_go 42 rfl) rfl (fun hc2 => ?_) (fun hc2 => ?_)
  · have hw := hw.1 hc2
    refine lv_iconst (v := 0) hx hb (xb_d D_Machine_go 45 rfl) (by decide) ?_
    exact am_Machine_go_L88 l hfl D A σ MC MS h0 Qr 0 h bc bs hw p e s m args below meth c hC H locs ls k n hE (lv_sub hl [] rfl) hR hS (by omega) (by omega)
  · have hw := hw.2 hc2
    refine lv_iconst (v := 1) hx hb (xb_d D_Machine_go 43 rfl) (by decide) ?_
    refine lv_goto (tgt := 88) hx hb (xb_d D_Machine_go 44 rfl) rfl ?_
    exact am_Machine_go_L88 l hfl D A σ MC MS h0 Qr 1 h bc bs hw p e s m args below meth c hC H locs ls k n hE (lv_sub hl [] rfl) hR hS (by omega) (by omega)

set_option maxHeartbeats 4000000 in
set_option maxRecDepth 100000 in
theorem am_Machine_go_L70 (l : Launch) (hfl : l.flags = pinnedFlags ++ [noTraceFlag]) (D : va_G) (A : Nat → Prop) (σ MC MS : Nat) (h0 : xb_H) (Qr : Int32 → xb_H → Prop) (K31 : Nat → Int32 → xb_H → Nat → Nat → Prop) (hK31 : ∀ (x0 : Nat) (x2 : Int32) (h : xb_H) (bc : Nat) (bs : Nat), K31 x0 x2 h bc bs → xb_am l D A σ 9 MC MS h0 (fun v h => ∃ r, v = some (.int r) ∧ Qr r h) (fun _ _ => False) y_Machine_go.cls y_Machine_go.name b_Machine_go 3 ([] : List ExceptionTableEntry) (some .int) 31 [(0, .ref x0), (2, .int x2)] [] h bc bs) (x0 : Nat) (x2 : Int32) (h : xb_H) (bc : Nat) (bs : Nat) (hw : w_Machine_go_L70 K31 Qr x0 x2 h bc bs) : xb_am l D A σ 9 MC MS h0 (fun v h => ∃ r, v = some (.int r) ∧ Qr r h) (fun _ _ => False) y_Machine_go.cls y_Machine_go.name b_Machine_go 3 ([] : List ExceptionTableEntry) (some .int) 70 [(0, .ref x0), (2, .int x2)] [] h bc bs := by
  unfold w_Machine_go_L70 at hw
  intro p e s m args below meth c hC H locs ls k n hE hl hR hS hk hn
  obtain ⟨hx, hb, hown, hlocks, htab, hml, hr, hB, hA, hnm⟩ := id hC
  have hts := hB.1.1.at args
  refine lv_iinc (v := (x2 + (-1))) (k := 1) hx hb (xb_d D_Machine_go 38 rfl) hl rfl (by first | rfl | decide) (by decide) rfl (fun ls hl => ?_)
  have hl : lv_has ls 3 [(2, .int (x2 + (-1))), (0, .ref x0)] := hl
  refine lv_goto (tgt := 31) hx hb (xb_d D_Machine_go 39 rfl) rfl ?_
  exact hK31 x0 (x2 + (-1)) h bc bs hw p e s m args below meth c hC H locs ls k n hE (lv_sub hl [1, 0] rfl) hR hS (by omega) (by omega)

set_option maxHeartbeats 4000000 in
set_option maxRecDepth 100000 in
theorem am_Machine_go_L59 (l : Launch) (hfl : l.flags = pinnedFlags ++ [noTraceFlag]) (D : va_G) (A : Nat → Prop) (σ MC MS : Nat) (h0 : xb_H) (Qr : Int32 → xb_H → Prop) (K31 : Nat → Int32 → xb_H → Nat → Nat → Prop) (hK31 : ∀ (x0 : Nat) (x2 : Int32) (h : xb_H) (bc : Nat) (bs : Nat), K31 x0 x2 h bc bs → xb_am l D A σ 9 MC MS h0 (fun v h => ∃ r, v = some (.int r) ∧ Qr r h) (fun _ _ => False) y_Machine_go.cls y_Machine_go.name b_Machine_go 3 ([] : List ExceptionTableEntry) (some .int) 31 [(0, .ref x0), (2, .int x2)] [] h bc bs) (x0 : Nat) (x2 : Int32) (h : xb_H) (bc : Nat) (bs : Nat) (hw : w_Machine_go_L59 K31 Qr x0 x2 h bc bs) : xb_am l D A σ 9 MC MS h0 (fun v h => ∃ r, v = some (.int r) ∧ Qr r h) (fun _ _ => False) y_Machine_go.cls y_Machine_go.name b_Machine_go 3 ([] : List ExceptionTableEntry) (some .int) 59 [(0, .ref x0), (2, .int x2)] [] h bc bs := by
  unfold w_Machine_go_L59 at hw
  intro p e s m args below meth c hC H locs ls k n hE hl hR hS hk hn
  obtain ⟨hx, hb, hown, hlocks, htab, hml, hr, hB, hA, hnm⟩ := id hC
  have hts := hB.1.1.at args
  refine lv_aload_n hx hb (xb_d D_Machine_go 33 rfl) rfl (lv_at hl 0 rfl) ?_
  obtain ⟨hk1, hw⟩ := hw
  refine xb_getI (C := R_Machine) (T := F_Machine) (N := 18) hx hb 7 3 hts fin_Machine hown hR hk1 (by decide) rfl (by decide) rfl (hts _ m_87cf9501) (fun _ h9 => h9) (xb_d D_Machine_go 34 rfl) ?_
  refine lv_if_eq (tgt := 70) hx hb (xb_d D_Machine_go 35 rfl) rfl (fun hc2 => ?_) (fun hc2 => ?_)
  · have hw := hw.1 hc2
    exact am_Machine_go_L70 l hfl D A σ MC MS h0 Qr K31 hK31 x0 x2 h bc bs hw p e s m args below meth c hC H locs ls k n hE (lv_sub hl [0, 1] rfl) hR hS (by omega) (by omega)
  · have hw := hw.2 hc2
    refine lv_aload_n hx hb (xb_d D_Machine_go 36 rfl) rfl (lv_at hl 0 rfl) ?_
    obtain ⟨c5, sc5, hlc5, hlsc5, hw⟩ := hw
    refine xb_call (D := D) (A := A) (σ := σ) (h := h) (d := 8) (mc := c5) (ms := sc5) (maxL := 2) (rest := []) (av := [.ref x0]) (fun T hT X => by obtain ⟨cb, r1, r2, r3⟩ := xb_recv (ci := 7) hR rfl hk1 (by decide); exact xt_invV X hx hown (hts _ m_039776f3) (hts _ m_edc0e629) (hts _ m_40f89843) (xt_sigOf (hts _ m_74a5fc12)) nm_Machine_step (by rw [hT]; exact r1) r2 r3 (g := F0 m 67 ls [.ref x0]) rfl (argsL := []) (rest := []) rfl rfl (by rw [hb]; exact (xb_d D_Machine_go 37 rfl))) (ok_Machine_step l hfl D A σ x0 h c5 sc5 _ hw) (hml.trans hl.1.symm) (by rw [hb]; exact (xb_d D_Machine_go 37 rfl)) (Nat.le_of_ble_eq_true rfl) (Nat.le_of_ble_eq_true rfl) (Nat.le_of_ble_eq_true rfl) (show k + c5 ≤ MC by omega) (show n + sc5 ≤ MS by omega) (xt_w1 hB.1 m_74a5fc12) (xt_cdOf hB.1 m_74a5fc12) (hts _ m_73451f9b) hB hR hS hA (fun vv h3 H locs hq hEh3 hR hS => ?_) (fun XX ax h3 H locs hq hEh3 hex hR hS => ?_)
    · obtain ⟨rfl, hw⟩ := hq
      have hw := hw hEh3
      have hE := hE.tr hEh3
      refine W.eq (g2 := F0 m 70 ls []) rfl ?_
      exact am_Machine_go_L70 l hfl D A σ MC MS h0 Qr K31 hK31 x0 x2 h3 (bc - c5) (bs - sc5) hw p e s m args below meth c hC H locs ls (k + c5) (n + sc5) hE (lv_sub hl [0, 1] rfl) hR hS (by omega) (by omega)
    · exact False.elim hq

set_option maxHeartbeats 4000000 in
set_option maxRecDepth 100000 in
theorem am_Machine_go_L31 (l : Launch) (hfl : l.flags = pinnedFlags ++ [noTraceFlag]) (D : va_G) (A : Nat → Prop) (σ MC MS : Nat) (h0 : xb_H) (Qr : Int32 → xb_H → Prop) (n9 : Nat) : ∀ (x0 : Nat) (x2 : Int32) (h : xb_H) (bc : Nat) (bs : Nat), w_Machine_go_L31 Qr n9 x0 x2 h bc bs → xb_am l D A σ 9 MC MS h0 (fun v h => ∃ r, v = some (.int r) ∧ Qr r h) (fun _ _ => False) y_Machine_go.cls y_Machine_go.name b_Machine_go 3 ([] : List ExceptionTableEntry) (some .int) 31 [(0, .ref x0), (2, .int x2)] [] h bc bs := by
  induction n9 with
  | zero => intro x0 x2 h bc bs hw; exact False.elim hw
  | succ n9 ih =>
    intro x0 x2 h bc bs hw
    unfold w_Machine_go_L31 at hw
    intro p e s m args below meth c hC H locs ls k n hE hl hR hS hk hn
    obtain ⟨hx, hb, hown, hlocks, htab, hml, hr, hB, hA, hnm⟩ := id hC
    have hts := hB.1.1.at args
    refine lv_iload_n hx hb (xb_d D_Machine_go 19 rfl) rfl (lv_at hl 1 rfl) ?_
    refine lv_if_lt (tgt := 76) hx hb (xb_d D_Machine_go 20 rfl) rfl (fun hc1 => ?_) (fun hc1 => ?_)
    · have hw := hw.1 hc1
      exact am_Machine_go_L76 l hfl D A σ MC MS h0 Qr x0 h bc bs hw p e s m args below meth c hC H locs ls k n hE (lv_sub hl [0] rfl) hR hS (by omega) (by omega)
    · have hw := hw.2 hc1
      refine lv_aload_n hx hb (xb_d D_Machine_go 21 rfl) rfl (lv_at hl 0 rfl) ?_
      obtain ⟨hk2, hw⟩ := hw
      refine xb_getI (C := R_Machine) (T := F_Machine) (N := 18) hx hb 7 3 hts fin_Machine hown hR hk2 (by decide) rfl (by decide) rfl (hts _ m_87cf9501) (fun _ h9 => h9) (xb_d D_Machine_go 22 rfl) ?_
      refine lv_if_eq (tgt := 76) hx hb (xb_d D_Machine_go 23 rfl) rfl (fun hc3 => ?_) (fun hc3 => ?_)
      · have hw := hw.1 hc3
        exact am_Machine_go_L76 l hfl D A σ MC MS h0 Qr x0 h bc bs hw p e s m args below meth c hC H locs ls k n hE (lv_sub hl [0] rfl) hR hS (by omega) (by omega)
      · have hw := hw.2 hc3
        refine lv_aload_n hx hb (xb_d D_Machine_go 24 rfl) rfl (lv_at hl 0 rfl) ?_
        refine xb_call (D := D) (A := A) (σ := σ) (h := h) (d := 5) (mc := 0) (ms := 0) (maxL := 2) (rest := []) (av := [.ref x0]) (fun T hT X => by obtain ⟨cb, r1, r2, r3⟩ := xb_recv (ci := 7) hR rfl hk2 (by decide); exact xt_invV X hx hown (hts _ m_9ff3405b) (hts _ m_11e6426e) (hts _ m_31c04949) (xt_sigOf (hts _ m_b7e88caf)) nm_Machine_passFree (by rw [hT]; exact r1) r2 r3 (g := F0 m 43 ls [.ref x0]) rfl (argsL := []) (rest := []) rfl rfl (by rw [hb]; exact (xb_d D_Machine_go 25 rfl))) (ok_Machine_passFree l hfl D A σ x0 h _ hw) (hml.trans hl.1.symm) (by rw [hb]; exact (xb_d D_Machine_go 25 rfl)) (Nat.le_of_ble_eq_true rfl) (Nat.le_of_ble_eq_true rfl) (Nat.le_of_ble_eq_true rfl) (show k + 0 ≤ MC by omega) (show n + 0 ≤ MS by omega) (xt_w1 hB.1 m_b7e88caf) (xt_cdOf hB.1 m_b7e88caf) (hts _ m_73451f9b) hB hR hS hA (fun vv h4 H locs hq hEh4 hR hS => ?_) (fun XX ax h4 H locs hq hEh4 hex hR hS => ?_)
        · obtain ⟨rfl, hw⟩ := hq
          have hw := hw hEh4
          have hE := hE.tr hEh4
          refine W.eq (g2 := F0 m 46 ls []) rfl ?_
          refine lv_aload_n hx hb (xb_d D_Machine_go 26 rfl) rfl (lv_at hl 0 rfl) ?_
          have hk2 : xb_k h4 x0 = 8 := hEh4.k hk2
          refine xb_getI (C := R_Machine) (T := F_Machine) (N := 18) hx hb 7 3 hts fin_Machine hown hR hk2 (by decide) rfl (by decide) rfl (hts _ m_87cf9501) (fun _ h9 => h9) (xb_d D_Machine_go 27 rfl) ?_
          refine lv_if_eq (tgt := 59) hx hb (xb_d D_Machine_go 28 rfl) rfl (fun hc6 => ?_) (fun hc6 => ?_)
          · have hw := hw.1 hc6
            exact am_Machine_go_L59 l hfl D A σ MC MS h0 Qr (w_Machine_go_L31 Qr n9) ih x0 x2 h4 bc bs hw p e s m args below meth c hC H locs ls k n hE (lv_sub hl [0, 1] rfl) hR hS (by omega) (by omega)
          · have hw := hw.2 hc6
            refine lv_iload_n hx hb (xb_d D_Machine_go 29 rfl) rfl (lv_at hl 1 rfl) ?_
            refine lv_if_ne (tgt := 59) hx hb (xb_d D_Machine_go 30 rfl) rfl (fun hc7 => ?_) (fun hc7 => ?_)
            · have hw := hw.1 hc7
              exact am_Machine_go_L59 l hfl D A σ MC MS h0 Qr (w_Machine_go_L31 Qr n9) ih x0 x2 h4 bc bs hw p e s m args below meth c hC H locs ls k n hE (lv_sub hl [0, 1] rfl) hR hS (by omega) (by omega)
            · have hw := hw.2 hc7
              refine lv_iconst (v := 2) hx hb (xb_d D_Machine_go 31 rfl) (by decide) ?_
              exact xb_iret hx hb hr hlocks (show k ≤ MC by omega) (show n ≤ MS by omega) hE hR hS (xb_d D_Machine_go 32 rfl) hw
        · exact False.elim hq

set_option maxHeartbeats 4000000 in
set_option maxRecDepth 100000 in
theorem am_Machine_go_L29 (l : Launch) (hfl : l.flags = pinnedFlags ++ [noTraceFlag]) (D : va_G) (A : Nat → Prop) (σ MC MS : Nat) (h0 : xb_H) (Qr : Int32 → xb_H → Prop) (x0 : Nat) (x1 : Int32) (h : xb_H) (bc : Nat) (bs : Nat) (hw : w_Machine_go_L29 Qr x0 x1 h bc bs) : xb_am l D A σ 9 MC MS h0 (fun v h => ∃ r, v = some (.int r) ∧ Qr r h) (fun _ _ => False) y_Machine_go.cls y_Machine_go.name b_Machine_go 3 ([] : List ExceptionTableEntry) (some .int) 29 [(0, .ref x0), (1, .int x1)] [] h bc bs := by
  unfold w_Machine_go_L29 at hw
  intro p e s m args below meth c hC H locs ls k n hE hl hR hS hk hn
  obtain ⟨hx, hb, hown, hlocks, htab, hml, hr, hB, hA, hnm⟩ := id hC
  have hts := hB.1.1.at args
  refine lv_iload_n hx hb (xb_d D_Machine_go 17 rfl) rfl (lv_at hl 1 rfl) ?_
  refine lv_istore_n hx hb (xb_d D_Machine_go 18 rfl) rfl hl (by decide) rfl (fun ls hl => ?_)
  have hl : lv_has ls 3 [(2, .int x1), (0, .ref x0), (1, .int x1)] := hl
  obtain ⟨n8, hw⟩ := hw
  exact am_Machine_go_L31 l hfl D A σ MC MS h0 Qr n8 x0 x1 h bc bs hw p e s m args below meth c hC H locs ls k n hE (lv_sub hl [1, 0] rfl) hR hS (by omega) (by omega)

set_option maxHeartbeats 4000000 in
set_option maxRecDepth 100000 in
theorem ok_Machine_go (l : Launch) (hfl : l.flags = pinnedFlags ++ [noTraceFlag]) (D : va_G) (A : Nat → Prop) (σ : Nat) (x0 : Nat) (x1 : Int32) (h : xb_H) (bc : Nat) (bs : Nat) (Qr : Int32 → xb_H → Prop) (hw : w_Machine_go x0 x1 h bc bs Qr) : xt_Met l y_Machine_go [.code y_Machine_go b_Machine_go 3 (some .int)] (xb_rm 9 bc bs) (xb_Pc D A σ h [.ref x0, .int x1]) (xb_Qc D A h (fun v h => ∃ r, v = some (.int r) ∧ Qr r h) (fun _ _ => False)) bc bs A := by
  refine xb_ofAm (cc := b_Machine_go) (by decide) (Nat.le_of_ble_eq_true rfl) ?_
  unfold w_Machine_go at hw
  show xb_am l D A σ 9 bc bs h (fun v h => ∃ r, v = some (.int r) ∧ Qr r h) (fun _ _ => False) y_Machine_go.cls y_Machine_go.name b_Machine_go 3 ([] : List ExceptionTableEntry) (some .int) 0 [(0, .ref x0), (1, .int x1)] [] h bc bs
  obtain ⟨MC, hMC⟩ : ∃ x, x = bc := ⟨_, rfl⟩
  obtain ⟨MS, hMS⟩ : ∃ x, x = bs := ⟨_, rfl⟩
  rw [show xb_am l D A σ 9 bc bs = xb_am l D A σ 9 MC MS by rw [hMC, hMS]]
  obtain ⟨h0, hh0⟩ : ∃ x, x = h := ⟨_, rfl⟩
  rw [show xb_am l D A σ 9 MC MS h = xb_am l D A σ 9 MC MS h0 by rw [hh0]]
  intro p e s m args below meth c hC H locs ls k n hE hl hR hS hk hn
  obtain ⟨hx, hb, hown, hlocks, htab, hml, hr, hB, hA, hnm⟩ := id hC
  have hts := hB.1.1.at args
  refine lv_aload_n hx hb (xb_d D_Machine_go 0 rfl) rfl (lv_at hl 0 rfl) ?_
  refine lv_iconst (v := 0) hx hb (xb_d D_Machine_go 1 rfl) (by decide) ?_
  obtain ⟨hk1, hw⟩ := hw
  refine xb_putI (C := R_Machine) (T := F_Machine) (N := 18) (ty := .boolean) (x := 0) hx hb 7 7 hts fin_Machine t_Machine t_Machine_ok n_Machine hown hR hS hk1 (by decide) rfl (by decide) rfl (hts _ m_cb912e58) (fun _ h9 => h9) rfl (by decide +kernel) (by decide) (by decide) (xb_d D_Machine_go 2 rfl) (fun H locs hR hS => ?_)
  obtain ⟨h2, eh2⟩ : ∃ x : xb_H, x = xb_I h x0 7 0 := ⟨_, rfl⟩
  rw [← eh2] at hR
  have hw := hw h2 eh2
  have hE : xb_ext h0 h2 := by rw [eh2]; exact hE
  refine lv_aload_n hx hb (xb_d D_Machine_go 3 rfl) rfl (lv_at hl 0 rfl) ?_
  have hk1 : xb_k h2 x0 = 8 := by rw [eh2]; exact hk1
  refine xb_getI (C := R_Machine) (T := F_Machine) (N := 18) hx hb 7 8 hts fin_Machine hown hR hk1 (by decide) rfl (by decide) rfl (hts _ m_71c815d4) (fun _ h9 => h9) (xb_d D_Machine_go 4 rfl) ?_
  refine lv_iconst (v := (-1)) hx hb (xb_d D_Machine_go 5 rfl) (by decide) ?_
  refine lv_icmp_eq (tgt := 29) hx hb (xb_d D_Machine_go 6 rfl) rfl (fun hc3 => ?_) (fun hc3 => ?_)
  · have hw := hw.1 hc3
    exact am_Machine_go_L29 l hfl D A σ MC MS h0 Qr x0 x1 h2 bc bs hw p e s m args below meth c hC H locs ls k n hE (lv_sub hl [0, 1] rfl) hR hS (by omega) (by omega)
  · have hw := hw.2 hc3
    refine lv_aload_n hx hb (xb_d D_Machine_go 7 rfl) rfl (lv_at hl 0 rfl) ?_
    refine xb_getI (C := R_Machine) (T := F_Machine) (N := 18) hx hb 7 8 hts fin_Machine hown hR hk1 (by decide) rfl (by decide) rfl (hts _ m_71c815d4) (fun _ h9 => h9) (xb_d D_Machine_go 8 rfl) ?_
    obtain ⟨v4, ev4⟩ : ∃ x : Int32, x = (xb_i h2 x0 8) := ⟨_, rfl⟩
    have hw := hw v4 ev4
    refine xt_numi (y := v4) ev4.symm ?_
    refine lv_istore_n hx hb (xb_d D_Machine_go 9 rfl) rfl hl (by decide) rfl (fun ls hl => ?_)
    have hl : lv_has ls 3 [(2, .int v4), (0, .ref x0), (1, .int x1)] := hl
    refine lv_aload_n hx hb (xb_d D_Machine_go 10 rfl) rfl (lv_at hl 1 rfl) ?_
    refine lv_iconst (v := (-1)) hx hb (xb_d D_Machine_go 11 rfl) (by decide) ?_
    refine xb_putI (C := R_Machine) (T := F_Machine) (N := 18) (ty := .int) (x := (-1)) hx hb 7 8 hts fin_Machine t_Machine t_Machine_ok n_Machine hown hR hS hk1 (by decide) rfl (by decide) rfl (hts _ m_71c815d4) (fun _ h9 => h9) rfl (by decide +kernel) rfl rfl (xb_d D_Machine_go 12 rfl) (fun H locs hR hS => ?_)
    obtain ⟨h5, eh5⟩ : ∃ x : xb_H, x = xb_I h2 x0 8 (-1) := ⟨_, rfl⟩
    rw [← eh5] at hR
    have hw := hw h5 eh5
    have hE : xb_ext h0 h5 := by rw [eh5]; exact hE
    refine lv_aload_n hx hb (xb_d D_Machine_go 13 rfl) rfl (lv_at hl 1 rfl) ?_
    refine lv_iload_n hx hb (xb_d D_Machine_go 14 rfl) rfl (lv_at hl 0 rfl) ?_
    refine lv_iconst (v := 0) hx hb (xb_d D_Machine_go 15 rfl) (by decide) ?_
    have hk1 : xb_k h5 x0 = 8 := by rw [eh5]; exact hk1
    obtain ⟨c8, sc8, hlc8, hlsc8, hw⟩ := hw
    refine xb_call (D := D) (A := A) (σ := σ) (h := h5) (d := 6) (mc := c8) (ms := sc8) (maxL := 10) (rest := []) (av := [.ref x0, .int v4, .int 0]) (fun T hT X => by obtain ⟨cb, r1, r2, r3⟩ := xb_recv (ci := 7) hR rfl hk1 (by decide); exact xt_invV X hx hown (hts _ m_2e977ee7) (hts _ m_0a404550) (hts _ m_a0a488ae) (xt_sigOf (hts _ m_f3390e9e)) nm_Machine_call (by rw [hT]; exact r1) r2 r3 (g := F0 m 26 ls [.int 0, .int v4, .ref x0]) rfl (argsL := [.int v4, .int 0]) (rest := []) rfl rfl (by rw [hb]; exact (xb_d D_Machine_go 16 rfl))) (ok_Machine_call l hfl D A σ x0 v4 0 h5 c8 sc8 _ hw) (hml.trans hl.1.symm) (by rw [hb]; exact (xb_d D_Machine_go 16 rfl)) (Nat.le_of_ble_eq_true rfl) (Nat.le_of_ble_eq_true rfl) (Nat.le_of_ble_eq_true rfl) (show k + c8 ≤ MC by omega) (show n + sc8 ≤ MS by omega) (xt_w1 hB.1 m_f3390e9e) (xt_cdOf hB.1 m_f3390e9e) (hts _ m_73451f9b) hB hR hS hA (fun vv h6 H locs hq hEh6 hR hS => ?_) (fun XX ax h6 H locs hq hEh6 hex hR hS => ?_)
    · obtain ⟨rfl, hw⟩ := hq
      have hw := hw hEh6
      have hE := hE.tr hEh6
      refine W.eq (g2 := F0 m 29 ls []) rfl ?_
      exact am_Machine_go_L29 l hfl D A σ MC MS h0 Qr x0 x1 h6 (bc - c8) (bs - sc8) hw p e s m args below meth c hC H locs ls (k + c8) (n + sc8) hE (lv_sub hl [1, 2] rfl) hR hS (by omega) (by omega)
    · exact False.elim hq

theorem m_bc98340a : (.methodLink "StackHostLaw" 38 y_H_instantiate : Cond) ∈ xt_tbl := xt_in (xt_t6 (List.mem_of_getElem? (i := 103) (by decide +kernel))) (by decide +kernel)
theorem m_bb139735 : (.instanceMethod y_H_instantiate : Cond) ∈ xt_tbl := xt_in (xt_t6 (List.mem_of_getElem? (i := 104) (by decide +kernel))) (by decide +kernel)
theorem m_92663d79 : (.selects "StackHost" y_H_instantiate y_H_instantiate : Cond) ∈ xt_tbl := xt_in (xt_t6 (List.mem_of_getElem? (i := 105) (by decide +kernel))) (by decide +kernel)
theorem m_5048f999 : (.code y_H_instantiate b_H_instantiate 4 (some .int) : Cond) ∈ xt_tbl := xt_in (xt_t6 (List.mem_of_getElem? (i := 106) (by decide +kernel))) (by decide +kernel)
theorem nm_H_instantiate : xt_nm y_H_instantiate 1 := ⟨by decide +kernel, by decide +kernel⟩
set_option maxRecDepth 100000 in
def T_Law_instantiate : List (Nat × Instr × Nat) := [(0, .aload_n 2, 1), (1, .iconst 0, 1), (2, .aload_n 0, 1), (3, .iload_n 1, 1), (4, .invokevirtual 38, 3), (7, .i2l, 1), (8, .lastore, 1), (9, .goto 9, 3), (12, .astore_n 3, 1), (13, .iconst 1, 1), (14, .ireturn, 1), (15, .astore_n 3, 1), (16, .iconst 2, 1), (17, .ireturn, 1), (18, .iconst 0, 1), (19, .ireturn, 1)]
theorem D_Law_instantiate : ∀ q ∈ T_Law_instantiate, decode b_Law_instantiate q.1 = .ok (q.2.1, q.2.2) := by decide +kernel
def w_Law_instantiate (σ : Nat) (x0 : Nat) (x1 : Int32) (x2 : Nat) (h : xb_H) (bc : Nat) (bs : Nat) (Qr : Int32 → xb_H → Prop) : Prop :=
    xb_k h x0 = 1 ∧ ∃ c4 sc4 : Nat, c4 ≤ bc ∧ sc4 ≤ bs ∧ w_H_instantiate σ x0 x1 h c4 sc4 (fun (r3 : Int32) (h2 : xb_H) => xb_ext h h2 → xb_k h2 x2 = 103 ∧ vp_in 0 (xb_n h2 x2) ∧ ∀ h7 : xb_H, h7 = xb_L h2 x2 (Int32.toNatClampNeg 0) (Int32.toInt64 r3) → Qr 0 h7) (fun (XX : String) (h2 : xb_H) => xb_ext h h2 → (XX = "java/lang/IllegalStateException" ∧ Qr 2 h2) ∨ (XX = "java/lang/IndexOutOfBoundsException" ∧ Qr 1 h2))

set_option maxHeartbeats 4000000 in
set_option maxRecDepth 100000 in
theorem ok_Law_instantiate (l : Launch) (hfl : l.flags = pinnedFlags ++ [noTraceFlag]) (D : va_G) (A : Nat → Prop) (σ : Nat) (x0 : Nat) (x1 : Int32) (x2 : Nat) (h : xb_H) (bc : Nat) (bs : Nat) (Qr : Int32 → xb_H → Prop) (hw : w_Law_instantiate σ x0 x1 x2 h bc bs Qr) : xt_Met l y_Law_instantiate [.codeWith y_Law_instantiate b_Law_instantiate 4 (some .int) [(0, 9, 12, 29), (0, 9, 15, 13)]] (xb_rm 9 bc bs) (xb_Pc D A σ h [.ref x0, .int x1, .ref x2]) (xb_Qc D A h (fun v h => ∃ r, v = some (.int r) ∧ Qr r h) (fun _ _ => False)) bc bs A := by
  refine xb_ofAmH (cc := b_Law_instantiate) (by decide) (Nat.le_of_ble_eq_true rfl) ?_
  unfold w_Law_instantiate at hw
  show xb_am l D A σ 9 bc bs h (fun v h => ∃ r, v = some (.int r) ∧ Qr r h) (fun _ _ => False) y_Law_instantiate.cls y_Law_instantiate.name b_Law_instantiate 4 (tableOf [(0, 9, 12, 29), (0, 9, 15, 13)]) (some .int) 0 [(0, .ref x0), (1, .int x1), (2, .ref x2)] [] h bc bs
  obtain ⟨MC, hMC⟩ : ∃ x, x = bc := ⟨_, rfl⟩
  obtain ⟨MS, hMS⟩ : ∃ x, x = bs := ⟨_, rfl⟩
  rw [show xb_am l D A σ 9 bc bs = xb_am l D A σ 9 MC MS by rw [hMC, hMS]]
  obtain ⟨h0, hh0⟩ : ∃ x, x = h := ⟨_, rfl⟩
  rw [show xb_am l D A σ 9 MC MS h = xb_am l D A σ 9 MC MS h0 by rw [hh0]]
  intro p e s m args below meth c hC H locs ls k n hE hl hR hS hk hn
  obtain ⟨hx, hb, hown, hlocks, htab, hml, hr, hB, hA, hnm⟩ := id hC
  have hts := hB.1.1.at args
  refine lv_aload_n hx hb (xb_d D_Law_instantiate 0 rfl) rfl (lv_at hl 2 rfl) ?_
  refine lv_iconst (v := 0) hx hb (xb_d D_Law_instantiate 1 rfl) (by decide) ?_
  refine lv_aload_n hx hb (xb_d D_Law_instantiate 2 rfl) rfl (lv_at hl 0 rfl) ?_
  refine lv_iload_n hx hb (xb_d D_Law_instantiate 3 rfl) rfl (lv_at hl 1 rfl) ?_
  obtain ⟨hk1, hw⟩ := hw
  obtain ⟨c4, sc4, hlc4, hlsc4, hw⟩ := hw
  refine xb_call (D := D) (A := A) (σ := σ) (h := h) (d := 8) (mc := c4) (ms := sc4) (maxL := 4) (rest := [.int 0, .ref x2]) (av := [.ref x0, .int x1]) (fun T hT X => by obtain ⟨cb, r1, r2, r3⟩ := xb_recv (ci := 0) hR rfl hk1 (by decide); exact xt_invV X hx hown (hts _ m_bc98340a) (hts _ m_bb139735) (hts _ m_92663d79) (xt_sigOf (hts _ m_5048f999)) nm_H_instantiate (by rw [hT]; exact r1) r2 r3 (g := F0 m 4 ls [.int x1, .ref x0, .int 0, .ref x2]) rfl (argsL := [.int x1]) (rest := [.int 0, .ref x2]) rfl rfl (by rw [hb]; exact (xb_d D_Law_instantiate 4 rfl))) (ok_H_instantiate l hfl D A σ x0 x1 h c4 sc4 _ _ hw) (hml.trans hl.1.symm) (by rw [hb]; exact (xb_d D_Law_instantiate 4 rfl)) (Nat.le_of_ble_eq_true rfl) (Nat.le_of_ble_eq_true rfl) (Nat.le_of_ble_eq_true rfl) (show k + c4 ≤ MC by omega) (show n + sc4 ≤ MS by omega) (xt_w1 hB.1 m_5048f999) (xt_cdOf hB.1 m_5048f999) (hts _ m_ba0734f5) hB hR hS hA (fun vv h2 H locs hq hEh2 hR hS => ?_) (fun XX ax h2 H locs hq hEh2 hex hR hS => ?_)
  · obtain ⟨r3, rfl, hw⟩ := hq
    have hw := hw hEh2
    have hE := hE.tr hEh2
    refine W.eq (g2 := F0 m 7 ls [.int r3, .int 0, .ref x2]) rfl ?_
    refine lv_i2l hx hb (xb_d D_Law_instantiate 5 rfl) rfl ?_
    obtain ⟨hk5, hw⟩ := hw
    obtain ⟨hi6, hw⟩ := hw
    refine xb_last hx hb hR hS hk5 hi6 (xb_d D_Law_instantiate 6 rfl) (fun H locs hR hS => ?_)
    obtain ⟨h7, eh7⟩ : ∃ x : xb_H, x = xb_L h2 x2 (Int32.toNatClampNeg 0) (Int32.toInt64 r3) := ⟨_, rfl⟩
    rw [← eh7] at hR
    have hw := hw h7 eh7
    have hE : xb_ext h0 h7 := by rw [eh7]; exact hE
    refine lv_goto (tgt := 18) hx hb (xb_d D_Law_instantiate 7 rfl) rfl ?_
    refine lv_iconst (v := 0) hx hb (xb_d D_Law_instantiate 14 rfl) (by decide) ?_
    exact xb_iret hx hb hr hlocks (show (k + c4) ≤ MC by omega) (show (n + sc4) ≤ MS by omega) hE hR hS (xb_d D_Law_instantiate 15 rfl) hw
  · have hw := hq hEh2
    have hE := hE.tr hEh2
    rcases hw with ⟨rfl, hw⟩ | ⟨rfl, hw⟩
    · refine xt_catch2 (own := "StackHostLaw") (name1 := "java/lang/IndexOutOfBoundsException") (name := "java/lang/IllegalStateException") (Xn := "java/lang/IllegalStateException") hown ⟨0, 9, 12, 29⟩ ⟨0, 9, 15, 13⟩ [] htab (by decide) (by decide) (by decide) (by decide) (hts _ m_17a0b3c6) (xb_nc hB "java/lang/IllegalStateException" "java/lang/IndexOutOfBoundsException" (by decide +kernel)) (hts _ m_cd065aea) (hts _ m_a4ef0ec8) hex ?_
      refine W.eq (g2 := F0 m 15 ls [.ref ax]) rfl ?_
      refine lv_astore_n hx hb (xb_d D_Law_instantiate 11 rfl) rfl hl (by decide) rfl (fun ls hl => ?_)
      have hl : lv_has ls 4 [(3, .ref ax), (0, .ref x0), (1, .int x1), (2, .ref x2)] := hl
      refine lv_iconst (v := 2) hx hb (xb_d D_Law_instantiate 12 rfl) (by decide) ?_
      exact xb_iret hx hb hr hlocks (show (k + c4) ≤ MC by omega) (show (n + sc4) ≤ MS by omega) hE hR hS (xb_d D_Law_instantiate 13 rfl) hw
    · refine xt_catch (own := "StackHostLaw") (name := "java/lang/IndexOutOfBoundsException") (Xn := "java/lang/IndexOutOfBoundsException") hown ⟨0, 9, 12, 29⟩ [⟨0, 9, 15, 13⟩] htab (by decide) (by decide) (hts _ m_17a0b3c6) (hts _ m_b0d3d118) hex ?_
      refine W.eq (g2 := F0 m 12 ls [.ref ax]) rfl ?_
      refine lv_astore_n hx hb (xb_d D_Law_instantiate 8 rfl) rfl hl (by decide) rfl (fun ls hl => ?_)
      have hl : lv_has ls 4 [(3, .ref ax), (0, .ref x0), (1, .int x1), (2, .ref x2)] := hl
      refine lv_iconst (v := 1) hx hb (xb_d D_Law_instantiate 9 rfl) (by decide) ?_
      exact xb_iret hx hb hr hlocks (show (k + c4) ≤ MC by omega) (show (n + sc4) ≤ MS by omega) hE hR hS (xb_d D_Law_instantiate 10 rfl) hw

theorem m_36f12bf0 : (.methodLink "StackHostModel" 697 y_M_branch : Cond) ∈ xt_tbl := xt_in (xt_t13 (List.mem_of_getElem? (i := 154) (by decide +kernel))) (by decide +kernel)
theorem m_cb58d8a1 : (.instanceMethod y_M_branch : Cond) ∈ xt_tbl := xt_in (xt_t13 (List.mem_of_getElem? (i := 156) (by decide +kernel))) (by decide +kernel)
theorem m_c5c944a0 : (.selects "StackHostModel" y_M_branch y_M_branch : Cond) ∈ xt_tbl := xt_in (xt_v17 (q := (⟨"StackHostModel", "branch", "(J)V"⟩, 97)) (List.mem_of_getElem? (i := 11) (by decide +kernel))) (by decide +kernel)
theorem m_0889f0dc : (.code y_M_branch b_M_branch 8 none : Cond) ∈ xt_tbl := xt_in (xt_t13 (List.mem_of_getElem? (i := 157) (by decide +kernel))) (by decide +kernel)
theorem nm_M_branch : xt_nm y_M_branch 1 := ⟨by decide +kernel, by decide +kernel⟩
set_option maxRecDepth 100000 in
def T_M_byTable : List (Nat × Instr × Nat) := [(0, .aload_n 0, 1), (1, .invokevirtual 218, 3), (4, .lstore_n 1, 1), (5, .aload_n 0, 1), (6, .getfield 202, 3), (9, .istore_n 3, 1), (10, .aload_n 0, 1), (11, .bipush 127, 2), (13, .invokevirtual 634, 3), (16, .ldc2_w 517, 3), (19, .land, 1), (20, .lstore 4, 2), (22, .aload_n 0, 1), (23, .iload_n 3, 1), (24, .putfield 202, 3), (27, .lconst 0, 1), (28, .lstore 6, 2), (30, .lconst 0, 1), (31, .lstore 8, 2), (33, .lload 8, 2), (35, .lload_n 1, 1), (36, .lcmp, 1), (37, .ifCond .gt 35, 3), (40, .aload_n 0, 1), (41, .invokevirtual 218, 3), (44, .lstore 10, 2), (46, .lload 8, 2), (48, .lload 4, 2), (50, .lcmp, 1), (51, .ifCond .gt 8, 3), (54, .lload 10, 2), (56, .goto 5, 3), (59, .lload 6, 2), (61, .lstore 6, 2), (63, .lload 8, 2), (65, .lconst 1, 1), (66, .ladd, 1), (67, .lstore 8, 2), (69, .goto (-36), 3), (72, .aload_n 0, 1), (73, .lload 6, 2), (75, .invokevirtual 697, 3), (78, .return_, 1)]
theorem D_M_byTable : ∀ q ∈ T_M_byTable, decode b_M_byTable q.1 = .ok (q.2.1, q.2.2) := by decide +kernel
def w_M_byTable_L61 (K33 : Nat → Int64 → Int64 → Int64 → Int64 → xb_H → Prop) (Qr : xb_H → Prop) (x0 : Nat) (x1 : Int64) (x4 : Int64) (x8 : Int64) (y0 : Int64) (h : xb_H) : Prop :=
    ∀ v1 : Int64, v1 = (x8 + 1) → K33 x0 x1 x4 y0 v1 h

def w_M_byTable_L33 (Qr : xb_H → Prop) : Nat → Nat → Int64 → Int64 → Int64 → Int64 → xb_H → Prop
  | 0, _, _, _, _, _, _ => False
  | n9 + 1, x0, x1, x4, x6, x8, h =>
    ((x1 < x8 → xb_k h x0 = 9 ∧ w_M_branch x0 x6 h (fun (h3 : xb_H) => xb_ext h h3 → Qr h3)) ∧ (¬ x1 < x8 → xb_k h x0 = 9 ∧ w_M_count x0 h (fun (r7 : Int64) (h6 : xb_H) => xb_ext h h6 → ((x4 < x8 → w_M_byTable_L61 (w_M_byTable_L33 Qr n9) Qr x0 x1 x4 x8 x6 h6) ∧ (¬ x4 < x8 → w_M_byTable_L61 (w_M_byTable_L33 Qr n9) Qr x0 x1 x4 x8 r7 h6)))))

def w_M_byTable (x0 : Nat) (h : xb_H) (Qr : xb_H → Prop) : Prop :=
    xb_k h x0 = 9 ∧ w_M_count x0 h (fun (r3 : Int64) (h2 : xb_H) => xb_ext h h2 → ∀ v4 : Int32, v4 = (xb_i h2 x0 15) → w_M_pop x0 127 h2 (fun (r6 : Int64) (h5 : xb_H) => xb_ext h2 h5 → ∀ v7 : Int64, v7 = (r6 &&& 4294967295) → ∀ h8 : xb_H, h8 = xb_I h5 x0 15 v4 → (∃ n8 : Nat, w_M_byTable_L33 Qr n8 x0 r3 v7 0 0 h8)))

set_option maxHeartbeats 4000000 in
set_option maxRecDepth 100000 in
theorem am_M_byTable_L61 (l : Launch) (hfl : l.flags = pinnedFlags ++ [noTraceFlag]) (D : va_G) (A : Nat → Prop) (σ MC MS : Nat) (h0 : xb_H) (Qr : xb_H → Prop) (K33 : Nat → Int64 → Int64 → Int64 → Int64 → xb_H → Prop) (hK33 : ∀ (x0 : Nat) (x1 : Int64) (x4 : Int64) (x6 : Int64) (x8 : Int64) (h : xb_H), K33 x0 x1 x4 x6 x8 h → xb_am l D A σ 9 MC MS h0 (fun v h => v = none ∧ Qr h) (fun _ _ => False) y_M_byTable.cls y_M_byTable.name b_M_byTable 12 ([] : List ExceptionTableEntry) none 33 [(0, .ref x0), (1, .long x1), (4, .long x4), (6, .long x6), (8, .long x8)] [] h 0 0) (x0 : Nat) (x1 : Int64) (x4 : Int64) (x8 : Int64) (y0 : Int64) (h : xb_H) (hw : w_M_byTable_L61 K33 Qr x0 x1 x4 x8 y0 h) : xb_am l D A σ 9 MC MS h0 (fun v h => v = none ∧ Qr h) (fun _ _ => False) y_M_byTable.cls y_M_byTable.name b_M_byTable 12 ([] : List ExceptionTableEntry) none 61 [(0, .ref x0), (1, .long x1), (4, .long x4), (8, .long x8)] [.long y0] h 0 0 := by
  unfold w_M_byTable_L61 at hw
  intro p e s m args below meth c hC H locs ls k n hE hl hR hS hk hn
  obtain ⟨hx, hb, hown, hlocks, htab, hml, hr, hB, hA, hnm⟩ := id hC
  have hts := hB.1.1.at args
  refine lv_lstore hx hb (xb_d D_M_byTable 33 rfl) hl (by decide) rfl (fun ls hl => ?_)
  have hl : lv_has ls 12 [(6, .long y0), (0, .ref x0), (1, .long x1), (4, .long x4), (8, .long x8)] := hl
  refine lv_lload hx hb (xb_d D_M_byTable 34 rfl) (lv_at hl 4 rfl) ?_
  refine lv_lconst (v := 1) hx hb (xb_d D_M_byTable 35 rfl) (by decide) ?_
  refine lv_ladd hx hb (xb_d D_M_byTable 36 rfl) ?_
  obtain ⟨v1, ev1⟩ : ∃ x : Int64, x = (x8 + 1) := ⟨_, rfl⟩
  have hw := hw v1 ev1
  refine xt_numl (y := v1) ev1.symm ?_
  refine lv_lstore hx hb (xb_d D_M_byTable 37 rfl) hl (by decide) rfl (fun ls hl => ?_)
  have hl : lv_has ls 12 [(8, .long v1), (6, .long y0), (0, .ref x0), (1, .long x1), (4, .long x4)] := hl
  refine lv_goto (tgt := 33) hx hb (xb_d D_M_byTable 38 rfl) rfl ?_
  exact hK33 x0 x1 x4 y0 v1 h hw p e s m args below meth c hC H locs ls k n hE (lv_sub hl [2, 3, 4, 1, 0] rfl) hR hS (by omega) (by omega)

set_option maxHeartbeats 4000000 in
set_option maxRecDepth 100000 in
theorem am_M_byTable_L33 (l : Launch) (hfl : l.flags = pinnedFlags ++ [noTraceFlag]) (D : va_G) (A : Nat → Prop) (σ MC MS : Nat) (h0 : xb_H) (Qr : xb_H → Prop) (n9 : Nat) : ∀ (x0 : Nat) (x1 : Int64) (x4 : Int64) (x6 : Int64) (x8 : Int64) (h : xb_H), w_M_byTable_L33 Qr n9 x0 x1 x4 x6 x8 h → xb_am l D A σ 9 MC MS h0 (fun v h => v = none ∧ Qr h) (fun _ _ => False) y_M_byTable.cls y_M_byTable.name b_M_byTable 12 ([] : List ExceptionTableEntry) none 33 [(0, .ref x0), (1, .long x1), (4, .long x4), (6, .long x6), (8, .long x8)] [] h 0 0 := by
  induction n9 with
  | zero => intro x0 x1 x4 x6 x8 h hw; exact False.elim hw
  | succ n9 ih =>
    intro x0 x1 x4 x6 x8 h hw
    unfold w_M_byTable_L33 at hw
    intro p e s m args below meth c hC H locs ls k n hE hl hR hS hk hn
    obtain ⟨hx, hb, hown, hlocks, htab, hml, hr, hB, hA, hnm⟩ := id hC
    have hts := hB.1.1.at args
    refine lv_lload hx hb (xb_d D_M_byTable 19 rfl) (lv_at hl 4 rfl) ?_
    refine lv_lload_n hx hb (xb_d D_M_byTable 20 rfl) rfl (lv_at hl 1 rfl) ?_
    refine xb_lc_gt (tgt := 72) hx hb (xb_d D_M_byTable 21 rfl) (xb_d D_M_byTable 22 rfl) rfl (fun hc1 => ?_) (fun hc1 => ?_)
    · have hw := hw.1 hc1
      refine lv_aload_n hx hb (xb_d D_M_byTable 39 rfl) rfl (lv_at hl 0 rfl) ?_
      refine lv_lload hx hb (xb_d D_M_byTable 40 rfl) (lv_at hl 3 rfl) ?_
      obtain ⟨hk2, hw⟩ := hw
      refine xb_call (D := D) (A := A) (σ := σ) (h := h) (d := 8) (mc := 0) (ms := 0) (maxL := 8) (rest := []) (av := [.ref x0, .long x6]) (fun T hT X => by obtain ⟨cb, r1, r2, r3⟩ := xb_recv (ci := 8) hR rfl hk2 (by decide); exact xt_invV X hx hown (hts _ m_36f12bf0) (hts _ m_cb58d8a1) (hts _ m_c5c944a0) (xt_sigOf (hts _ m_0889f0dc)) nm_M_branch (by rw [hT]; exact r1) r2 r3 (g := F0 m 75 ls [.long x6, .ref x0]) rfl (argsL := [.long x6]) (rest := []) rfl rfl (by rw [hb]; exact (xb_d D_M_byTable 41 rfl))) (ok_M_branch l hfl D A σ x0 x6 h _ hw) (hml.trans hl.1.symm) (by rw [hb]; exact (xb_d D_M_byTable 41 rfl)) (Nat.le_of_ble_eq_true rfl) (Nat.le_of_ble_eq_true rfl) (Nat.le_of_ble_eq_true rfl) (show k + 0 ≤ MC by omega) (show n + 0 ≤ MS by omega) (xt_w1 hB.1 m_0889f0dc) (xt_cdOf hB.1 m_0889f0dc) (hts _ m_d5ed7bed) hB hR hS hA (fun vv h3 H locs hq hEh3 hR hS => ?_) (fun XX ax h3 H locs hq hEh3 hex hR hS => ?_)
      · obtain ⟨rfl, hw⟩ := hq
        have hw := hw hEh3
        have hE := hE.tr hEh3
        refine W.eq (g2 := F0 m 78 ls []) rfl ?_
        exact xb_vret hx hb hr hlocks (show k ≤ MC by omega) (show n ≤ MS by omega) hE hR hS (xb_d D_M_byTable 42 rfl) hw
      · exact False.elim hq
    · have hw := hw.2 hc1
      refine lv_aload_n hx hb (xb_d D_M_byTable 23 rfl) rfl (lv_at hl 0 rfl) ?_
      obtain ⟨hk5, hw⟩ := hw
      refine xb_call (D := D) (A := A) (σ := σ) (h := h) (d := 4) (mc := 0) (ms := 0) (maxL := 5) (rest := []) (av := [.ref x0]) (fun T hT X => by obtain ⟨cb, r1, r2, r3⟩ := xb_recv (ci := 8) hR rfl hk5 (by decide); exact xt_invV X hx hown (hts _ m_e991293f) (hts _ m_385a74b3) (hts _ m_c9fbcd02) (xt_sigOf (hts _ m_1f53f210)) nm_M_count (by rw [hT]; exact r1) r2 r3 (g := F0 m 41 ls [.ref x0]) rfl (argsL := []) (rest := []) rfl rfl (by rw [hb]; exact (xb_d D_M_byTable 24 rfl))) (ok_M_count l hfl D A σ x0 h _ hw) (hml.trans hl.1.symm) (by rw [hb]; exact (xb_d D_M_byTable 24 rfl)) (Nat.le_of_ble_eq_true rfl) (Nat.le_of_ble_eq_true rfl) (Nat.le_of_ble_eq_true rfl) (show k + 0 ≤ MC by omega) (show n + 0 ≤ MS by omega) (xt_w1 hB.1 m_1f53f210) (xt_cdOf hB.1 m_1f53f210) (hts _ m_d5ed7bed) hB hR hS hA (fun vv h6 H locs hq hEh6 hR hS => ?_) (fun XX ax h6 H locs hq hEh6 hex hR hS => ?_)
      · obtain ⟨r7, rfl, hw⟩ := hq
        have hw := hw hEh6
        have hE := hE.tr hEh6
        refine W.eq (g2 := F0 m 44 ls [.long r7]) rfl ?_
        refine lv_lstore hx hb (xb_d D_M_byTable 25 rfl) hl (by decide) rfl (fun ls hl => ?_)
        have hl : lv_has ls 12 [(10, .long r7), (0, .ref x0), (1, .long x1), (4, .long x4), (6, .long x6), (8, .long x8)] := hl
        refine lv_lload hx hb (xb_d D_M_byTable 26 rfl) (lv_at hl 5 rfl) ?_
        refine lv_lload hx hb (xb_d D_M_byTable 27 rfl) (lv_at hl 3 rfl) ?_
        refine xb_lc_gt (tgt := 59) hx hb (xb_d D_M_byTable 28 rfl) (xb_d D_M_byTable 29 rfl) rfl (fun hc8 => ?_) (fun hc8 => ?_)
        · have hw := hw.1 hc8
          refine lv_lload hx hb (xb_d D_M_byTable 32 rfl) (lv_at hl 4 rfl) ?_
          exact am_M_byTable_L61 l hfl D A σ MC MS h0 Qr (w_M_byTable_L33 Qr n9) ih x0 x1 x4 x8 x6 h6 hw p e s m args below meth c hC H locs ls k n hE (lv_sub hl [1, 2, 3, 5] rfl) hR hS (by omega) (by omega)
        · have hw := hw.2 hc8
          refine lv_lload hx hb (xb_d D_M_byTable 30 rfl) (lv_at hl 0 rfl) ?_
          refine lv_goto (tgt := 61) hx hb (xb_d D_M_byTable 31 rfl) rfl ?_
          exact am_M_byTable_L61 l hfl D A σ MC MS h0 Qr (w_M_byTable_L33 Qr n9) ih x0 x1 x4 x8 r7 h6 hw p e s m args below meth c hC H locs ls k n hE (lv_sub hl [1, 2, 3, 5] rfl) hR hS (by omega) (by omega)
      · exact False.elim hq

set_option maxHeartbeats 4000000 in
set_option maxRecDepth 100000 in
theorem ok_M_byTable (l : Launch) (hfl : l.flags = pinnedFlags ++ [noTraceFlag]) (D : va_G) (A : Nat → Prop) (σ : Nat) (x0 : Nat) (h : xb_H) (Qr : xb_H → Prop) (hw : w_M_byTable x0 h Qr) : xt_Met l y_M_byTable [.code y_M_byTable b_M_byTable 12 none] (xb_rm 9 0 0) (xb_Pc D A σ h [.ref x0]) (xb_Qc D A h (fun v h => v = none ∧ Qr h) (fun _ _ => False)) 0 0 A := by
  refine xb_ofAm (cc := b_M_byTable) (by decide) (Nat.le_of_ble_eq_true rfl) ?_
  unfold w_M_byTable at hw
  show xb_am l D A σ 9 0 0 h (fun v h => v = none ∧ Qr h) (fun _ _ => False) y_M_byTable.cls y_M_byTable.name b_M_byTable 12 ([] : List ExceptionTableEntry) none 0 [(0, .ref x0)] [] h 0 0
  obtain ⟨MC, hMC⟩ : ∃ x, x = 0 := ⟨_, rfl⟩
  obtain ⟨MS, hMS⟩ : ∃ x, x = 0 := ⟨_, rfl⟩
  rw [show xb_am l D A σ 9 0 0 = xb_am l D A σ 9 MC MS by rw [hMC, hMS]]
  obtain ⟨h0, hh0⟩ : ∃ x, x = h := ⟨_, rfl⟩
  rw [show xb_am l D A σ 9 MC MS h = xb_am l D A σ 9 MC MS h0 by rw [hh0]]
  intro p e s m args below meth c hC H locs ls k n hE hl hR hS hk hn
  obtain ⟨hx, hb, hown, hlocks, htab, hml, hr, hB, hA, hnm⟩ := id hC
  have hts := hB.1.1.at args
  refine lv_aload_n hx hb (xb_d D_M_byTable 0 rfl) rfl (lv_at hl 0 rfl) ?_
  obtain ⟨hk1, hw⟩ := hw
  refine xb_call (D := D) (A := A) (σ := σ) (h := h) (d := 4) (mc := 0) (ms := 0) (maxL := 5) (rest := []) (av := [.ref x0]) (fun T hT X => by obtain ⟨cb, r1, r2, r3⟩ := xb_recv (ci := 8) hR rfl hk1 (by decide); exact xt_invV X hx hown (hts _ m_e991293f) (hts _ m_385a74b3) (hts _ m_c9fbcd02) (xt_sigOf (hts _ m_1f53f210)) nm_M_count (by rw [hT]; exact r1) r2 r3 (g := F0 m 1 ls [.ref x0]) rfl (argsL := []) (rest := []) rfl rfl (by rw [hb]; exact (xb_d D_M_byTable 1 rfl))) (ok_M_count l hfl D A σ x0 h _ hw) (hml.trans hl.1.symm) (by rw [hb]; exact (xb_d D_M_byTable 1 rfl)) (Nat.le_of_ble_eq_true rfl) (Nat.le_of_ble_eq_true rfl) (Nat.le_of_ble_eq_true rfl) (show k + 0 ≤ MC by omega) (show n + 0 ≤ MS by omega) (xt_w1 hB.1 m_1f53f210) (xt_cdOf hB.1 m_1f53f210) (hts _ m_d5ed7bed) hB hR hS hA (fun vv h2 H locs hq hEh2 hR hS => ?_) (fun XX ax h2 H locs hq hEh2 hex hR hS => ?_)
  · obtain ⟨r3, rfl, hw⟩ := hq
    have hw := hw hEh2
    have hE := hE.tr hEh2
    refine W.eq (g2 := F0 m 4 ls [.long r3]) rfl ?_
    refine lv_lstore_n hx hb (xb_d D_M_byTable 2 rfl) rfl hl (by decide) rfl (fun ls hl => ?_)
    have hl : lv_has ls 12 [(1, .long r3), (0, .ref x0)] := hl
    refine lv_aload_n hx hb (xb_d D_M_byTable 3 rfl) rfl (lv_at hl 1 rfl) ?_
    have hk1 : xb_k h2 x0 = 9 := hEh2.k hk1
    refine xb_getI (C := R_M) (T := F_M) (N := 97) hx hb 8 15 hts fin_M hown hR hk1 (by decide) rfl (by decide) rfl (hts _ m_6c2d27ad) (fun _ h9 => h9) (xb_d D_M_byTable 4 rfl) ?_
    obtain ⟨v4, ev4⟩ : ∃ x : Int32, x = (xb_i h2 x0 15) := ⟨_, rfl⟩
    have hw := hw v4 ev4
    refine xt_numi (y := v4) ev4.symm ?_
    refine lv_istore_n hx hb (xb_d D_M_byTable 5 rfl) rfl hl (by decide) rfl (fun ls hl => ?_)
    have hl : lv_has ls 12 [(3, .int v4), (1, .long r3), (0, .ref x0)] := hl
    refine lv_aload_n hx hb (xb_d D_M_byTable 6 rfl) rfl (lv_at hl 2 rfl) ?_
    refine lv_bipush (v := 127) hx hb (xb_d D_M_byTable 7 rfl) (by decide) ?_
    refine xb_call (D := D) (A := A) (σ := σ) (h := h2) (d := 2) (mc := 0) (ms := 0) (maxL := 2) (rest := []) (av := [.ref x0, .int 127]) (fun T hT X => by obtain ⟨cb, r1, r2, r3⟩ := xb_recv (ci := 8) hR rfl hk1 (by decide); exact xt_invV X hx hown (hts _ m_ce40dc40) (hts _ m_c3a002b8) (hts _ m_395c99b5) (xt_sigOf (hts _ m_1ea89357)) nm_M_pop (by rw [hT]; exact r1) r2 r3 (g := F0 m 13 ls [.int 127, .ref x0]) rfl (argsL := [.int 127]) (rest := []) rfl rfl (by rw [hb]; exact (xb_d D_M_byTable 8 rfl))) (ok_M_pop l hfl D A σ x0 127 h2 _ hw) (hml.trans hl.1.symm) (by rw [hb]; exact (xb_d D_M_byTable 8 rfl)) (Nat.le_of_ble_eq_true rfl) (Nat.le_of_ble_eq_true rfl) (Nat.le_of_ble_eq_true rfl) (show k + 0 ≤ MC by omega) (show n + 0 ≤ MS by omega) (xt_w1 hB.1 m_1ea89357) (xt_cdOf hB.1 m_1ea89357) (hts _ m_d5ed7bed) hB hR hS hA (fun vv h5 H locs hq hEh5 hR hS => ?_) (fun XX ax h5 H locs hq hEh5 hex hR hS => ?_)
    · obtain ⟨r6, rfl, hw⟩ := hq
      have hw := hw hEh5
      have hE := hE.tr hEh5
      refine W.eq (g2 := F0 m 16 ls [.long r6]) rfl ?_
      refine lv_ldc2 (v := 4294967295) hx hb hown (hts _ m_92d51c6a) (xb_d D_M_byTable 9 rfl) ?_
      refine lv_land hx hb (xb_d D_M_byTable 10 rfl) ?_
      obtain ⟨v7, ev7⟩ : ∃ x : Int64, x = (r6 &&& 4294967295) := ⟨_, rfl⟩
      have hw := hw v7 ev7
      refine xt_numl (y := v7) ev7.symm ?_
      refine lv_lstore hx hb (xb_d D_M_byTable 11 rfl) hl (by decide) rfl (fun ls hl => ?_)
      have hl : lv_has ls 12 [(4, .long v7), (3, .int v4), (1, .long r3), (0, .ref x0)] := hl
      refine lv_aload_n hx hb (xb_d D_M_byTable 12 rfl) rfl (lv_at hl 3 rfl) ?_
      refine lv_iload_n hx hb (xb_d D_M_byTable 13 rfl) rfl (lv_at hl 1 rfl) ?_
      have hk1 : xb_k h5 x0 = 9 := hEh5.k hk1
      refine xb_putI (C := R_M) (T := F_M) (N := 97) (ty := .int) (x := v4) hx hb 8 15 hts fin_M t_M t_M_ok n_M hown hR hS hk1 (by decide) rfl (by decide) rfl (hts _ m_6c2d27ad) (fun _ h9 => h9) rfl (by decide +kernel) rfl rfl (xb_d D_M_byTable 14 rfl) (fun H locs hR hS => ?_)
      obtain ⟨h8, eh8⟩ : ∃ x : xb_H, x = xb_I h5 x0 15 v4 := ⟨_, rfl⟩
      rw [← eh8] at hR
      have hw := hw h8 eh8
      have hE : xb_ext h0 h8 := by rw [eh8]; exact hE
      refine lv_lconst (v := 0) hx hb (xb_d D_M_byTable 15 rfl) (by decide) ?_
      refine lv_lstore hx hb (xb_d D_M_byTable 16 rfl) hl (by decide) rfl (fun ls hl => ?_)
      have hl : lv_has ls 12 [(6, .long 0), (4, .long v7), (3, .int v4), (1, .long r3), (0, .ref x0)] := hl
      refine lv_lconst (v := 0) hx hb (xb_d D_M_byTable 17 rfl) (by decide) ?_
      refine lv_lstore hx hb (xb_d D_M_byTable 18 rfl) hl (by decide) rfl (fun ls hl => ?_)
      have hl : lv_has ls 12 [(8, .long 0), (6, .long 0), (4, .long v7), (3, .int v4), (1, .long r3), (0, .ref x0)] := hl
      obtain ⟨n8, hw⟩ := hw
      exact am_M_byTable_L33 l hfl D A σ MC MS h0 Qr n8 x0 r3 v7 0 0 h8 hw p e s m args below meth c hC H locs ls k n hE (lv_sub hl [5, 4, 2, 1, 0] rfl) hR hS (by omega) (by omega)
    · exact False.elim hq
  · exact False.elim hq

theorem m_2c44277c : (.methodLink "StackHostModel" 342 y_M_variableTypeOf : Cond) ∈ xt_tbl := xt_in (xt_t11 (List.mem_of_getElem? (i := 105) (by decide +kernel))) (by decide +kernel)
theorem m_c17c7356 : (.instanceMethod y_M_variableTypeOf : Cond) ∈ xt_tbl := xt_in (xt_t11 (List.mem_of_getElem? (i := 107) (by decide +kernel))) (by decide +kernel)
theorem m_60ae6cf3 : (.selects "StackHostModel" y_M_variableTypeOf y_M_variableTypeOf : Cond) ∈ xt_tbl := xt_in (xt_v11 (q := (⟨"StackHostModel", "variableTypeOf", "(II)I"⟩, 97)) (List.mem_of_getElem? (i := 2) (by decide +kernel))) (by decide +kernel)
theorem m_f93068de : (.code y_M_variableTypeOf b_M_variableTypeOf 4 (some .int) : Cond) ∈ xt_tbl := xt_in (xt_t11 (List.mem_of_getElem? (i := 108) (by decide +kernel))) (by decide +kernel)
theorem nm_M_variableTypeOf : xt_nm y_M_variableTypeOf 2 := ⟨by decide +kernel, by decide +kernel⟩
set_option maxRecDepth 100000 in
def T_M_changes : List (Nat × Instr × Nat) := [(0, .aload_n 0, 1), (1, .iload_n 1, 1), (2, .iload_n 2, 1), (3, .invokevirtual 342, 3), (6, .pop, 1), (7, .aload_n 0, 1), (8, .invokevirtual 212, 3), (11, .iconst 1, 1), (12, .if_icmp .ne 7, 3), (15, .iconst 1, 1), (16, .goto 4, 3), (19, .iconst 0, 1), (20, .ireturn, 1)]
theorem D_M_changes : ∀ q ∈ T_M_changes, decode b_M_changes q.1 = .ok (q.2.1, q.2.2) := by decide +kernel
def w_M_changes_L20 (Qr : Int32 → xb_H → Prop) (y0 : Int32) (h : xb_H) : Prop :=
    (y0 = 0 ∨ y0 = 1) ∧ Qr y0 h

def w_M_changes (x0 : Nat) (x1 : Int32) (x2 : Int32) (h : xb_H) (Qr : Int32 → xb_H → Prop) : Prop :=
    xb_k h x0 = 9 ∧ w_M_variableTypeOf x0 x1 x2 h (fun (r3 : Int32) (h2 : xb_H) => xb_ext h h2 → w_M_next x0 h2 (fun (r5 : Int32) (h4 : xb_H) => xb_ext h2 h4 → ((¬ r5 = (1 : Int32) → w_M_changes_L20 Qr 0 h4) ∧ (r5 = (1 : Int32) → w_M_changes_L20 Qr 1 h4))))

set_option maxHeartbeats 4000000 in
set_option maxRecDepth 100000 in
theorem am_M_changes_L20 (l : Launch) (hfl : l.flags = pinnedFlags ++ [noTraceFlag]) (D : va_G) (A : Nat → Prop) (σ MC MS : Nat) (h0 : xb_H) (Qr : Int32 → xb_H → Prop) (y0 : Int32) (h : xb_H) (hw : w_M_changes_L20 Qr y0 h) : xb_am l D A σ 9 MC MS h0 (fun v h => ∃ r, v = some (.int r) ∧ Qr r h) (fun _ _ => False) y_M_changes.cls y_M_changes.name b_M_changes 3 ([] : List ExceptionTableEntry) (some .boolean) 20 [] [.int y0] h 0 0 := by
  unfold w_M_changes_L20 at hw
  intro p e s m args below meth c hC H locs ls k n hE hl hR hS hk hn
  obtain ⟨hx, hb, hown, hlocks, htab, hml, hr, hB, hA, hnm⟩ := id hC
  have hts := hB.1.1.at args
  exact xb_zret hx hb hr hlocks (show k ≤ MC by omega) (show n ≤ MS by omega) hw.1 hE hR hS (xb_d D_M_changes 12 rfl) hw.2

set_option maxHeartbeats 4000000 in
set_option maxRecDepth 100000 in
theorem ok_M_changes (l : Launch) (hfl : l.flags = pinnedFlags ++ [noTraceFlag]) (D : va_G) (A : Nat → Prop) (σ : Nat) (x0 : Nat) (x1 : Int32) (x2 : Int32) (h : xb_H) (Qr : Int32 → xb_H → Prop) (hw : w_M_changes x0 x1 x2 h Qr) : xt_Met l y_M_changes [.code y_M_changes b_M_changes 3 (some .boolean)] (xb_rm 9 0 0) (xb_Pc D A σ h [.ref x0, .int x1, .int x2]) (xb_Qc D A h (fun v h => ∃ r, v = some (.int r) ∧ Qr r h) (fun _ _ => False)) 0 0 A := by
  refine xb_ofAm (cc := b_M_changes) (by decide) (Nat.le_of_ble_eq_true rfl) ?_
  unfold w_M_changes at hw
  show xb_am l D A σ 9 0 0 h (fun v h => ∃ r, v = some (.int r) ∧ Qr r h) (fun _ _ => False) y_M_changes.cls y_M_changes.name b_M_changes 3 ([] : List ExceptionTableEntry) (some .boolean) 0 [(0, .ref x0), (1, .int x1), (2, .int x2)] [] h 0 0
  obtain ⟨MC, hMC⟩ : ∃ x, x = 0 := ⟨_, rfl⟩
  obtain ⟨MS, hMS⟩ : ∃ x, x = 0 := ⟨_, rfl⟩
  rw [show xb_am l D A σ 9 0 0 = xb_am l D A σ 9 MC MS by rw [hMC, hMS]]
  obtain ⟨h0, hh0⟩ : ∃ x, x = h := ⟨_, rfl⟩
  rw [show xb_am l D A σ 9 MC MS h = xb_am l D A σ 9 MC MS h0 by rw [hh0]]
  intro p e s m args below meth c hC H locs ls k n hE hl hR hS hk hn
  obtain ⟨hx, hb, hown, hlocks, htab, hml, hr, hB, hA, hnm⟩ := id hC
  have hts := hB.1.1.at args
  refine lv_aload_n hx hb (xb_d D_M_changes 0 rfl) rfl (lv_at hl 0 rfl) ?_
  refine lv_iload_n hx hb (xb_d D_M_changes 1 rfl) rfl (lv_at hl 1 rfl) ?_
  refine lv_iload_n hx hb (xb_d D_M_changes 2 rfl) rfl (lv_at hl 2 rfl) ?_
  obtain ⟨hk1, hw⟩ := hw
  refine xb_call (D := D) (A := A) (σ := σ) (h := h) (d := 8) (mc := 0) (ms := 0) (maxL := 4) (rest := []) (av := [.ref x0, .int x1, .int x2]) (fun T hT X => by obtain ⟨cb, r1, r2, r3⟩ := xb_recv (ci := 8) hR rfl hk1 (by decide); exact xt_invV X hx hown (hts _ m_2c44277c) (hts _ m_c17c7356) (hts _ m_60ae6cf3) (xt_sigOf (hts _ m_f93068de)) nm_M_variableTypeOf (by rw [hT]; exact r1) r2 r3 (g := F0 m 3 ls [.int x2, .int x1, .ref x0]) rfl (argsL := [.int x1, .int x2]) (rest := []) rfl rfl (by rw [hb]; exact (xb_d D_M_changes 3 rfl))) (ok_M_variableTypeOf l hfl D A σ x0 x1 x2 h _ hw) (hml.trans hl.1.symm) (by rw [hb]; exact (xb_d D_M_changes 3 rfl)) (Nat.le_of_ble_eq_true rfl) (Nat.le_of_ble_eq_true rfl) (Nat.le_of_ble_eq_true rfl) (show k + 0 ≤ MC by omega) (show n + 0 ≤ MS by omega) (xt_w1 hB.1 m_f93068de) (xt_cdOf hB.1 m_f93068de) (hts _ m_d5ed7bed) hB hR hS hA (fun vv h2 H locs hq hEh2 hR hS => ?_) (fun XX ax h2 H locs hq hEh2 hex hR hS => ?_)
  · obtain ⟨r3, rfl, hw⟩ := hq
    have hw := hw hEh2
    have hE := hE.tr hEh2
    refine W.eq (g2 := F0 m 6 ls [.int r3]) rfl ?_
    refine lv_pop hx hb (xb_d D_M_changes 4 rfl) rfl ?_
    refine lv_aload_n hx hb (xb_d D_M_changes 5 rfl) rfl (lv_at hl 0 rfl) ?_
    have hk1 : xb_k h2 x0 = 9 := hEh2.k hk1
    refine xb_call (D := D) (A := A) (σ := σ) (h := h2) (d := 3) (mc := 0) (ms := 0) (maxL := 2) (rest := []) (av := [.ref x0]) (fun T hT X => by obtain ⟨cb, r1, r2, r3⟩ := xb_recv (ci := 8) hR rfl hk1 (by decide); exact xt_invV X hx hown (hts _ m_0e978570) (hts _ m_40099f98) (hts _ m_a7dbfd07) (xt_sigOf (hts _ m_0af1ec6a)) nm_M_next (by rw [hT]; exact r1) r2 r3 (g := F0 m 8 ls [.ref x0]) rfl (argsL := []) (rest := []) rfl rfl (by rw [hb]; exact (xb_d D_M_changes 6 rfl))) (ok_M_next l hfl D A σ x0 h2 _ hw) (hml.trans hl.1.symm) (by rw [hb]; exact (xb_d D_M_changes 6 rfl)) (Nat.le_of_ble_eq_true rfl) (Nat.le_of_ble_eq_true rfl) (Nat.le_of_ble_eq_true rfl) (show k + 0 ≤ MC by omega) (show n + 0 ≤ MS by omega) (xt_w1 hB.1 m_0af1ec6a) (xt_cdOf hB.1 m_0af1ec6a) (hts _ m_d5ed7bed) hB hR hS hA (fun vv h4 H locs hq hEh4 hR hS => ?_) (fun XX ax h4 H locs hq hEh4 hex hR hS => ?_)
    · obtain ⟨r5, rfl, hw⟩ := hq
      have hw := hw hEh4
      have hE := hE.tr hEh4
      refine W.eq (g2 := F0 m 11 ls [.int r5]) rfl ?_
      refine lv_iconst (v := 1) hx hb (xb_d D_M_changes 7 rfl) (by decide) ?_
      refine lv_icmp_ne (tgt := 19) hx hb (xb_d D_M_changes 8 rfl) rfl (fun hc6 => ?_) (fun hc6 => ?_)
      · have hw := hw.1 hc6
        refine lv_iconst (v := 0) hx hb (xb_d D_M_changes 11 rfl) (by decide) ?_
        exact am_M_changes_L20 l hfl D A σ MC MS h0 Qr 0 h4 hw p e s m args below meth c hC H locs ls k n hE (lv_sub hl [] rfl) hR hS (by omega) (by omega)
      · have hw := hw.2 hc6
        refine lv_iconst (v := 1) hx hb (xb_d D_M_changes 9 rfl) (by decide) ?_
        refine lv_goto (tgt := 20) hx hb (xb_d D_M_changes 10 rfl) rfl ?_
        exact am_M_changes_L20 l hfl D A σ MC MS h0 Qr 1 h4 hw p e s m args below meth c hC H locs ls k n hE (lv_sub hl [] rfl) hR hS (by omega) (by omega)
    · exact False.elim hq
  · exact False.elim hq

theorem m_e1a5a131 : (.methodLink "StackHostModel" 451 y_M_takeParameters : Cond) ∈ xt_tbl := xt_in (xt_t11 (List.mem_of_getElem? (i := 205) (by decide +kernel))) (by decide +kernel)
theorem m_0ad78cc3 : (.instanceMethod y_M_takeParameters : Cond) ∈ xt_tbl := xt_in (xt_t11 (List.mem_of_getElem? (i := 207) (by decide +kernel))) (by decide +kernel)
theorem m_a45a720b : (.selects "StackHostModel" y_M_takeParameters y_M_takeParameters : Cond) ∈ xt_tbl := xt_in (xt_v12 (q := (⟨"StackHostModel", "takeParameters", "(II)V"⟩, 97)) (List.mem_of_getElem? (i := 6) (by decide +kernel))) (by decide +kernel)
theorem m_38627b0b : (.code y_M_takeParameters b_M_takeParameters 4 none : Cond) ∈ xt_tbl := xt_in (xt_t11 (List.mem_of_getElem? (i := 208) (by decide +kernel))) (by decide +kernel)
theorem m_1d203cc1 : (.methodLink "StackHostModel" 369 y_M_typeOf : Cond) ∈ xt_tbl := xt_in (xt_t11 (List.mem_of_getElem? (i := 129) (by decide +kernel))) (by decide +kernel)
theorem m_0a0483ac : (.instanceMethod y_M_typeOf : Cond) ∈ xt_tbl := xt_in (xt_t11 (List.mem_of_getElem? (i := 131) (by decide +kernel))) (by decide +kernel)
theorem m_42615324 : (.selects "StackHostModel" y_M_typeOf y_M_typeOf : Cond) ∈ xt_tbl := xt_in (xt_v11 (q := (⟨"StackHostModel", "typeOf", "(II)I"⟩, 97)) (List.mem_of_getElem? (i := 8) (by decide +kernel))) (by decide +kernel)
theorem m_44f87caf : (.code y_M_typeOf b_M_typeOf 4 (some .int) : Cond) ∈ xt_tbl := xt_in (xt_t11 (List.mem_of_getElem? (i := 132) (by decide +kernel))) (by decide +kernel)
theorem nm_M_takeParameters : xt_nm y_M_takeParameters 2 := ⟨by decide +kernel, by decide +kernel⟩
theorem nm_M_typeOf : xt_nm y_M_typeOf 2 := ⟨by decide +kernel, by decide +kernel⟩
set_option maxRecDepth 100000 in
def T_M_checkCalls : List (Nat × Instr × Nat) := [(0, .iload_n 2, 1), (1, .bipush 16, 2), (3, .if_icmp .ne 67, 3), (6, .aload_n 0, 1), (7, .invokevirtual 218, 3), (10, .lstore_n 3, 1), (11, .aload_n 0, 1), (12, .lload_n 3, 1), (13, .aload_n 0, 1), (14, .iload_n 1, 1), (15, .iconst 0, 1), (16, .invokevirtual 362, 3), (19, .lcmp, 1), (20, .ifCond .ge 7, 3), (23, .iconst 1, 1), (24, .goto 4, 3), (27, .iconst 0, 1), (28, .bipush 20, 2), (30, .invokevirtual 408, 3), (33, .aload_n 0, 1), (34, .getfield 193, 3), (37, .ifCond .ne 30, 3), (40, .aload_n 0, 1), (41, .iload_n 1, 1), (42, .lload_n 3, 1), (43, .l2i, 1), (44, .invokevirtual 369, 3), (47, .istore 5, 2), (49, .aload_n 0, 1), (50, .iload_n 1, 1), (51, .iload 5, 2), (53, .invokevirtual 451, 3), (56, .aload_n 0, 1), (57, .aload_n 0, 1), (58, .iload_n 1, 1), (59, .iload 5, 2), (61, .invokevirtual 336, 3), (64, .invokevirtual 454, 3), (67, .goto 143, 3), (70, .iload_n 2, 1), (71, .bipush 17, 2), (73, .if_icmp .ne 88, 3), (76, .aload_n 0, 1), (77, .invokevirtual 218, 3), (80, .lstore_n 3, 1), (81, .aload_n 0, 1), (82, .aload_n 0, 1), (83, .iload_n 1, 1), (84, .iconst 1, 1), (85, .invokevirtual 362, 3), (88, .lconst 0, 1), (89, .lcmp, 1), (90, .ifCond .le 7, 3), (93, .iconst 1, 1), (94, .goto 4, 3), (97, .iconst 0, 1), (98, .bipush 20, 2), (100, .invokevirtual 408, 3), (103, .aload_n 0, 1), (104, .lload_n 3, 1), (105, .aload_n 0, 1), (106, .iload_n 1, 1), (107, .iconst 1, 1), (108, .invokevirtual 316, 3), (111, .i2l, 1), (112, .lcmp, 1), (113, .ifCond .ge 7, 3), (116, .iconst 1, 1), (117, .goto 4, 3), (120, .iconst 0, 1), (121, .bipush 20, 2), (123, .invokevirtual 408, 3), (126, .aload_n 0, 1), (127, .bipush 127, 2), (129, .invokevirtual 402, 3), (132, .pop, 1), (133, .aload_n 0, 1), (134, .getfield 193, 3), (137, .ifCond .ne 21, 3), (140, .aload_n 0, 1), (141, .iload_n 1, 1), (142, .lload_n 3, 1), (143, .l2i, 1), (144, .invokevirtual 451, 3), (147, .aload_n 0, 1), (148, .aload_n 0, 1), (149, .iload_n 1, 1), (150, .lload_n 3, 1), (151, .l2i, 1), (152, .invokevirtual 336, 3), (155, .invokevirtual 454, 3), (158, .goto 52, 3), (161, .iload_n 2, 1), (162, .bipush 26, 2), (164, .if_icmp .ne 12, 3), (167, .aload_n 0, 1), (168, .iconst 0, 1), (169, .invokevirtual 402, 3), (172, .pop, 1), (173, .goto 37, 3), (176, .aload_n 0, 1), (177, .bipush 127, 2), (179, .invokevirtual 402, 3), (182, .pop, 1), (183, .aload_n 0, 1), (184, .iconst 0, 1), (185, .invokevirtual 402, 3), (188, .istore_n 3, 1), (189, .aload_n 0, 1), (190, .iload_n 3, 1), (191, .invokevirtual 402, 3), (194, .istore 4, 2), (196, .aload_n 0, 1), (197, .iload_n 3, 1), (198, .ifCond .ne 8, 3), (201, .iload 4, 2), (203, .goto 4, 3), (206, .iload_n 3, 1), (207, .invokevirtual 405, 3), (210, .return_, 1)]
theorem D_M_checkCalls : ∀ q ∈ T_M_checkCalls, decode b_M_checkCalls q.1 = .ok (q.2.1, q.2.2) := by decide +kernel
def w_M_checkCalls_L210 (Qr : xb_H → Prop) (h : xb_H) : Prop :=
    Qr h

def w_M_checkCalls_L207 (Qr : xb_H → Prop) (y0 : Int32) (y1 : Nat) (h : xb_H) : Prop :=
    xb_k h y1 = 9 ∧ w_M_put y1 y0 h (fun (h2 : xb_H) => xb_ext h h2 → w_M_checkCalls_L210 Qr h2)

def w_M_checkCalls_L158 (Qr : xb_H → Prop) (h : xb_H) : Prop :=
    w_M_checkCalls_L210 Qr h

def w_M_checkCalls_L121 (Qr : xb_H → Prop) (x0 : Nat) (x1 : Int32) (x3 : Int64) (y0 : Int32) (y1 : Nat) (h : xb_H) : Prop :=
    xb_k h y1 = 9 ∧ w_M_need y1 y0 20 h (fun (h2 : xb_H) => xb_ext h h2 → xb_k h2 x0 = 9 ∧ w_M_take x0 127 h2 (fun (r6 : Int32) (h5 : xb_H) => xb_ext h2 h5 → ((¬ (xb_i h5 x0 17) = (0 : Int32) → w_M_checkCalls_L158 Qr h5) ∧ ((xb_i h5 x0 17) = (0 : Int32) → w_M_takeParameters x0 x1 (Int64.toInt32 x3) h5 (fun (h8 : xb_H) => xb_ext h5 h8 → w_M_resultOf x0 x1 (Int64.toInt32 x3) h8 (fun (r11 : Int32) (h10 : xb_H) => xb_ext h8 h10 → w_M_putResult x0 r11 h10 (fun (h12 : xb_H) => xb_ext h10 h12 → w_M_checkCalls_L158 Qr h12)))))))

def w_M_checkCalls_L98 (Qr : xb_H → Prop) (x0 : Nat) (x1 : Int32) (x3 : Int64) (y0 : Int32) (y1 : Nat) (h : xb_H) : Prop :=
    xb_k h y1 = 9 ∧ w_M_need y1 y0 20 h (fun (h2 : xb_H) => xb_ext h h2 → xb_k h2 x0 = 9 ∧ w_M_manyOf x0 x1 1 h2 (fun (r6 : Int32) (h5 : xb_H) => xb_ext h2 h5 → (((Int32.toInt64 r6) ≤ x3 → w_M_checkCalls_L121 Qr x0 x1 x3 0 x0 h5) ∧ (¬ (Int32.toInt64 r6) ≤ x3 → w_M_checkCalls_L121 Qr x0 x1 x3 1 x0 h5))))

def w_M_checkCalls_L67 (Qr : xb_H → Prop) (h : xb_H) : Prop :=
    w_M_checkCalls_L210 Qr h

def w_M_checkCalls_L28 (Qr : xb_H → Prop) (x0 : Nat) (x1 : Int32) (x3 : Int64) (y0 : Int32) (y1 : Nat) (h : xb_H) : Prop :=
    xb_k h y1 = 9 ∧ w_M_need y1 y0 20 h (fun (h2 : xb_H) => xb_ext h h2 → xb_k h2 x0 = 9 ∧ ((¬ (xb_i h2 x0 17) = (0 : Int32) → w_M_checkCalls_L67 Qr h2) ∧ ((xb_i h2 x0 17) = (0 : Int32) → w_M_typeOf x0 x1 (Int64.toInt32 x3) h2 (fun (r7 : Int32) (h6 : xb_H) => xb_ext h2 h6 → w_M_takeParameters x0 x1 r7 h6 (fun (h8 : xb_H) => xb_ext h6 h8 → w_M_resultOf x0 x1 r7 h8 (fun (r11 : Int32) (h10 : xb_H) => xb_ext h8 h10 → w_M_putResult x0 r11 h10 (fun (h12 : xb_H) => xb_ext h10 h12 → w_M_checkCalls_L67 Qr h12)))))))

def w_M_checkCalls (x0 : Nat) (x1 : Int32) (x2 : Int32) (h : xb_H) (Qr : xb_H → Prop) : Prop :=
    ((¬ x2 = (16 : Int32) → ((¬ x2 = (17 : Int32) → ((¬ x2 = (26 : Int32) → xb_k h x0 = 9 ∧ w_M_take x0 127 h (fun (r6 : Int32) (h5 : xb_H) => xb_ext h h5 → w_M_take x0 0 h5 (fun (r8 : Int32) (h7 : xb_H) => xb_ext h5 h7 → w_M_take x0 r8 h7 (fun (r10 : Int32) (h9 : xb_H) => xb_ext h7 h9 → ((¬ r8 = (0 : Int32) → w_M_checkCalls_L207 Qr r8 x0 h9) ∧ (r8 = (0 : Int32) → w_M_checkCalls_L207 Qr r10 x0 h9)))))) ∧ (x2 = (26 : Int32) → xb_k h x0 = 9 ∧ w_M_take x0 0 h (fun (r14 : Int32) (h13 : xb_H) => xb_ext h h13 → w_M_checkCalls_L210 Qr h13)))) ∧ (x2 = (17 : Int32) → xb_k h x0 = 9 ∧ w_M_count x0 h (fun (r17 : Int64) (h16 : xb_H) => xb_ext h h16 → w_M_total x0 x1 1 h16 (fun (r19 : Int64) (h18 : xb_H) => xb_ext h16 h18 → ((r19 ≤ (0 : Int64) → w_M_checkCalls_L98 Qr x0 x1 r17 0 x0 h18) ∧ (¬ r19 ≤ (0 : Int64) → w_M_checkCalls_L98 Qr x0 x1 r17 1 x0 h18))))))) ∧ (x2 = (16 : Int32) → xb_k h x0 = 9 ∧ w_M_count x0 h (fun (r23 : Int64) (h22 : xb_H) => xb_ext h h22 → w_M_total x0 x1 0 h22 (fun (r25 : Int64) (h24 : xb_H) => xb_ext h22 h24 → ((r25 ≤ r23 → w_M_checkCalls_L28 Qr x0 x1 r23 0 x0 h24) ∧ (¬ r25 ≤ r23 → w_M_checkCalls_L28 Qr x0 x1 r23 1 x0 h24))))))

set_option maxHeartbeats 4000000 in
set_option maxRecDepth 100000 in
theorem am_M_checkCalls_L210 (l : Launch) (hfl : l.flags = pinnedFlags ++ [noTraceFlag]) (D : va_G) (A : Nat → Prop) (σ MC MS : Nat) (h0 : xb_H) (Qr : xb_H → Prop) (h : xb_H) (hw : w_M_checkCalls_L210 Qr h) : xb_am l D A σ 9 MC MS h0 (fun v h => v = none ∧ Qr h) (fun _ _ => False) y_M_checkCalls.cls y_M_checkCalls.name b_M_checkCalls 6 ([] : List ExceptionTableEntry) none 210 [] [] h 0 0 := by
  unfold w_M_checkCalls_L210 at hw
  intro p e s m args below meth c hC H locs ls k n hE hl hR hS hk hn
  obtain ⟨hx, hb, hown, hlocks, htab, hml, hr, hB, hA, hnm⟩ := id hC
  have hts := hB.1.1.at args
  exact xb_vret hx hb hr hlocks (show k ≤ MC by omega) (show n ≤ MS by omega) hE hR hS (xb_d D_M_checkCalls 119 rfl) hw

set_option maxHeartbeats 4000000 in
set_option maxRecDepth 100000 in
theorem am_M_checkCalls_L207 (l : Launch) (hfl : l.flags = pinnedFlags ++ [noTraceFlag]) (D : va_G) (A : Nat → Prop) (σ MC MS : Nat) (h0 : xb_H) (Qr : xb_H → Prop) (y0 : Int32) (y1 : Nat) (h : xb_H) (hw : w_M_checkCalls_L207 Qr y0 y1 h) : xb_am l D A σ 9 MC MS h0 (fun v h => v = none ∧ Qr h) (fun _ _ => False) y_M_checkCalls.cls y_M_checkCalls.name b_M_checkCalls 6 ([] : List ExceptionTableEntry) none 207 [] [.int y0, .ref y1] h 0 0 := by
  unfold w_M_checkCalls_L207 at hw
  intro p e s m args below meth c hC H locs ls k n hE hl hR hS hk hn
  obtain ⟨hx, hb, hown, hlocks, htab, hml, hr, hB, hA, hnm⟩ := id hC
  have hts := hB.1.1.at args
  obtain ⟨hk1, hw⟩ := hw
  refine xb_call (D := D) (A := A) (σ := σ) (h := h) (d := 2) (mc := 0) (ms := 0) (maxL := 2) (rest := []) (av := [.ref y1, .int y0]) (fun T hT X => by obtain ⟨cb, r1, r2, r3⟩ := xb_recv (ci := 8) hR rfl hk1 (by decide); exact xt_invV X hx hown (hts _ m_3308f884) (hts _ m_052429f9) (hts _ m_8c0b8095) (xt_sigOf (hts _ m_98c8d9b3)) nm_M_put (by rw [hT]; exact r1) r2 r3 (g := F0 m 207 ls [.int y0, .ref y1]) rfl (argsL := [.int y0]) (rest := []) rfl rfl (by rw [hb]; exact (xb_d D_M_checkCalls 118 rfl))) (ok_M_put l hfl D A σ y1 y0 h _ hw) (hml.trans hl.1.symm) (by rw [hb]; exact (xb_d D_M_checkCalls 118 rfl)) (Nat.le_of_ble_eq_true rfl) (Nat.le_of_ble_eq_true rfl) (Nat.le_of_ble_eq_true rfl) (show k + 0 ≤ MC by omega) (show n + 0 ≤ MS by omega) (xt_w1 hB.1 m_98c8d9b3) (xt_cdOf hB.1 m_98c8d9b3) (hts _ m_d5ed7bed) hB hR hS hA (fun vv h2 H locs hq hEh2 hR hS => ?_) (fun XX ax h2 H locs hq hEh2 hex hR hS => ?_)
  · obtain ⟨rfl, hw⟩ := hq
    have hw := hw hEh2
    have hE := hE.tr hEh2
    refine W.eq (g2 := F0 m 210 ls []) rfl ?_
    exact am_M_checkCalls_L210 l hfl D A σ MC MS h0 Qr h2 hw p e s m args below meth c hC H locs ls k n hE (lv_sub hl [] rfl) hR hS (by omega) (by omega)
  · exact False.elim hq

set_option maxHeartbeats 4000000 in
set_option maxRecDepth 100000 in
theorem am_M_checkCalls_L158 (l : Launch) (hfl : l.flags = pinnedFlags ++ [noTraceFlag]) (D : va_G) (A : Nat → Prop) (σ MC MS : Nat) (h0 : xb_H) (Qr : xb_H → Prop) (h : xb_H) (hw : w_M_checkCalls_L158 Qr h) : xb_am l D A σ 9 MC MS h0 (fun v h => v = none ∧ Qr h) (fun _ _ => False) y_M_checkCalls.cls y_M_checkCalls.name b_M_checkCalls 6 ([] : List ExceptionTableEntry) none 158 [] [] h 0 0 := by
  unfold w_M_checkCalls_L158 at hw
  intro p e s m args below meth c hC H locs ls k n hE hl hR hS hk hn
  obtain ⟨hx, hb, hown, hlocks, htab, hml, hr, hB, hA, hnm⟩ := id hC
  have hts := hB.1.1.at args
  refine lv_goto (tgt := 210) hx hb (xb_d D_M_checkCalls 91 rfl) rfl ?_
  exact am_M_checkCalls_L210 l hfl D A σ MC MS h0 Qr h hw p e s m args below meth c hC H locs ls k n hE (lv_sub hl [] rfl) hR hS (by omega) (by omega)

set_option maxHeartbeats 4000000 in
set_option maxRecDepth 100000 in
theorem am_M_checkCalls_L121 (l : Launch) (hfl : l.flags = pinnedFlags ++ [noTraceFlag]) (D : va_G) (A : Nat → Prop) (σ MC MS : Nat) (h0 : xb_H) (Qr : xb_H → Prop) (x0 : Nat) (x1 : Int32) (x3 : Int64) (y0 : Int32) (y1 : Nat) (h : xb_H) (hw : w_M_checkCalls_L121 Qr x0 x1 x3 y0 y1 h) : xb_am l D A σ 9 MC MS h0 (fun v h => v = none ∧ Qr h) (fun _ _ => False) y_M_checkCalls.cls y_M_checkCalls.name b_M_checkCalls 6 ([] : List ExceptionTableEntry) none 121 [(0, .ref x0), (1, .int x1), (3, .long x3)] [.int y0, .ref y1] h 0 0 := by
  unfold w_M_checkCalls_L121 at hw
  intro p e s m args below meth c hC H locs ls k n hE hl hR hS hk hn
  obtain ⟨hx, hb, hown, hlocks, htab, hml, hr, hB, hA, hnm⟩ := id hC
  have hts := hB.1.1.at args
  refine lv_bipush (v := 20) hx hb (xb_d D_M_checkCalls 70 rfl) (by decide) ?_
  obtain ⟨hk1, hw⟩ := hw
  refine xb_call (D := D) (A := A) (σ := σ) (h := h) (d := 3) (mc := 0) (ms := 0) (maxL := 3) (rest := []) (av := [.ref y1, .int y0, .int 20]) (fun T hT X => by obtain ⟨cb, r1, r2, r3⟩ := xb_recv (ci := 8) hR rfl hk1 (by decide); exact xt_invV X hx hown (hts _ m_3b351fe6) (hts _ m_c9ff1909) (hts _ m_4d34701a) (xt_sigOf (hts _ m_c5aab6b8)) nm_M_need (by rw [hT]; exact r1) r2 r3 (g := F0 m 123 ls [.int 20, .int y0, .ref y1]) rfl (argsL := [.int y0, .int 20]) (rest := []) rfl rfl (by rw [hb]; exact (xb_d D_M_checkCalls 71 rfl))) (ok_M_need l hfl D A σ y1 y0 20 h _ hw) (hml.trans hl.1.symm) (by rw [hb]; exact (xb_d D_M_checkCalls 71 rfl)) (Nat.le_of_ble_eq_true rfl) (Nat.le_of_ble_eq_true rfl) (Nat.le_of_ble_eq_true rfl) (show k + 0 ≤ MC by omega) (show n + 0 ≤ MS by omega) (xt_w1 hB.1 m_c5aab6b8) (xt_cdOf hB.1 m_c5aab6b8) (hts _ m_d5ed7bed) hB hR hS hA (fun vv h2 H locs hq hEh2 hR hS => ?_) (fun XX ax h2 H locs hq hEh2 hex hR hS => ?_)
  · obtain ⟨rfl, hw⟩ := hq
    have hw := hw hEh2
    have hE := hE.tr hEh2
    refine W.eq (g2 := F0 m 126 ls []) rfl ?_
    refine lv_aload_n hx hb (xb_d D_M_checkCalls 72 rfl) rfl (lv_at hl 0 rfl) ?_
    refine lv_bipush (v := 127) hx hb (xb_d D_M_checkCalls 73 rfl) (by decide) ?_
    obtain ⟨hk4, hw⟩ := hw
    refine xb_call (D := D) (A := A) (σ := σ) (h := h2) (d := 3) (mc := 0) (ms := 0) (maxL := 3) (rest := []) (av := [.ref x0, .int 127]) (fun T hT X => by obtain ⟨cb, r1, r2, r3⟩ := xb_recv (ci := 8) hR rfl hk4 (by decide); exact xt_invV X hx hown (hts _ m_4290bf91) (hts _ m_641dba55) (hts _ m_286bb193) (xt_sigOf (hts _ m_8ef3c792)) nm_M_take (by rw [hT]; exact r1) r2 r3 (g := F0 m 129 ls [.int 127, .ref x0]) rfl (argsL := [.int 127]) (rest := []) rfl rfl (by rw [hb]; exact (xb_d D_M_checkCalls 74 rfl))) (ok_M_take l hfl D A σ x0 127 h2 _ hw) (hml.trans hl.1.symm) (by rw [hb]; exact (xb_d D_M_checkCalls 74 rfl)) (Nat.le_of_ble_eq_true rfl) (Nat.le_of_ble_eq_true rfl) (Nat.le_of_ble_eq_true rfl) (show k + 0 ≤ MC by omega) (show n + 0 ≤ MS by omega) (xt_w1 hB.1 m_8ef3c792) (xt_cdOf hB.1 m_8ef3c792) (hts _ m_d5ed7bed) hB hR hS hA (fun vv h5 H locs hq hEh5 hR hS => ?_) (fun XX ax h5 H locs hq hEh5 hex hR hS => ?_)
    · obtain ⟨r6, rfl, hw⟩ := hq
      have hw := hw hEh5
      have hE := hE.tr hEh5
      refine W.eq (g2 := F0 m 132 ls [.int r6]) rfl ?_
      refine lv_pop hx hb (xb_d D_M_checkCalls 75 rfl) rfl ?_
      refine lv_aload_n hx hb (xb_d D_M_checkCalls 76 rfl) rfl (lv_at hl 0 rfl) ?_
      have hk4 : xb_k h5 x0 = 9 := hEh5.k hk4
      refine xb_getI (C := R_M) (T := F_M) (N := 97) hx hb 8 17 hts fin_M hown hR hk4 (by decide) rfl (by decide) rfl (hts _ m_ff69da61) (fun _ h9 => h9) (xb_d D_M_checkCalls 77 rfl) ?_
      refine lv_if_ne (tgt := 158) hx hb (xb_d D_M_checkCalls 78 rfl) rfl (fun hc7 => ?_) (fun hc7 => ?_)
      · have hw := hw.1 hc7
        exact am_M_checkCalls_L158 l hfl D A σ MC MS h0 Qr h5 hw p e s m args below meth c hC H locs ls k n hE (lv_sub hl [] rfl) hR hS (by omega) (by omega)
      · have hw := hw.2 hc7
        refine lv_aload_n hx hb (xb_d D_M_checkCalls 79 rfl) rfl (lv_at hl 0 rfl) ?_
        refine lv_iload_n hx hb (xb_d D_M_checkCalls 80 rfl) rfl (lv_at hl 1 rfl) ?_
        refine lv_lload_n hx hb (xb_d D_M_checkCalls 81 rfl) rfl (lv_at hl 2 rfl) ?_
        refine lv_l2i hx hb (xb_d D_M_checkCalls 82 rfl) rfl ?_
        refine xb_call (D := D) (A := A) (σ := σ) (h := h5) (d := 7) (mc := 0) (ms := 0) (maxL := 4) (rest := []) (av := [.ref x0, .int x1, .int (Int64.toInt32 x3)]) (fun T hT X => by obtain ⟨cb, r1, r2, r3⟩ := xb_recv (ci := 8) hR rfl hk4 (by decide); exact xt_invV X hx hown (hts _ m_e1a5a131) (hts _ m_0ad78cc3) (hts _ m_a45a720b) (xt_sigOf (hts _ m_38627b0b)) nm_M_takeParameters (by rw [hT]; exact r1) r2 r3 (g := F0 m 144 ls [.int (Int64.toInt32 x3), .int x1, .ref x0]) rfl (argsL := [.int x1, .int (Int64.toInt32 x3)]) (rest := []) rfl rfl (by rw [hb]; exact (xb_d D_M_checkCalls 83 rfl))) (ok_M_takeParameters l hfl D A σ x0 x1 (Int64.toInt32 x3) h5 _ hw) (hml.trans hl.1.symm) (by rw [hb]; exact (xb_d D_M_checkCalls 83 rfl)) (Nat.le_of_ble_eq_true rfl) (Nat.le_of_ble_eq_true rfl) (Nat.le_of_ble_eq_true rfl) (show k + 0 ≤ MC by omega) (show n + 0 ≤ MS by omega) (xt_w1 hB.1 m_38627b0b) (xt_cdOf hB.1 m_38627b0b) (hts _ m_d5ed7bed) hB hR hS hA (fun vv h8 H locs hq hEh8 hR hS => ?_) (fun XX ax h8 H locs hq hEh8 hex hR hS => ?_)
        · obtain ⟨rfl, hw⟩ := hq
          have hw := hw hEh8
          have hE := hE.tr hEh8
          refine W.eq (g2 := F0 m 147 ls []) rfl ?_
          refine lv_aload_n hx hb (xb_d D_M_checkCalls 84 rfl) rfl (lv_at hl 0 rfl) ?_
          refine lv_aload_n hx hb (xb_d D_M_checkCalls 85 rfl) rfl (lv_at hl 0 rfl) ?_
          refine lv_iload_n hx hb (xb_d D_M_checkCalls 86 rfl) rfl (lv_at hl 1 rfl) ?_
          refine lv_lload_n hx hb (xb_d D_M_checkCalls 87 rfl) rfl (lv_at hl 2 rfl) ?_
          refine lv_l2i hx hb (xb_d D_M_checkCalls 88 rfl) rfl ?_
          have hk4 : xb_k h8 x0 = 9 := hEh8.k hk4
          refine xb_call (D := D) (A := A) (σ := σ) (h := h8) (d := 6) (mc := 0) (ms := 0) (maxL := 4) (rest := [.ref x0]) (av := [.ref x0, .int x1, .int (Int64.toInt32 x3)]) (fun T hT X => by obtain ⟨cb, r1, r2, r3⟩ := xb_recv (ci := 8) hR rfl hk4 (by decide); exact xt_invV X hx hown (hts _ m_bd023100) (hts _ m_d08a9c75) (hts _ m_9ac7cfcb) (xt_sigOf (hts _ m_9dee8e5c)) nm_M_resultOf (by rw [hT]; exact r1) r2 r3 (g := F0 m 152 ls [.int (Int64.toInt32 x3), .int x1, .ref x0, .ref x0]) rfl (argsL := [.int x1, .int (Int64.toInt32 x3)]) (rest := [.ref x0]) rfl rfl (by rw [hb]; exact (xb_d D_M_checkCalls 89 rfl))) (ok_M_resultOf l hfl D A σ x0 x1 (Int64.toInt32 x3) h8 _ hw) (hml.trans hl.1.symm) (by rw [hb]; exact (xb_d D_M_checkCalls 89 rfl)) (Nat.le_of_ble_eq_true rfl) (Nat.le_of_ble_eq_true rfl) (Nat.le_of_ble_eq_true rfl) (show k + 0 ≤ MC by omega) (show n + 0 ≤ MS by omega) (xt_w1 hB.1 m_9dee8e5c) (xt_cdOf hB.1 m_9dee8e5c) (hts _ m_d5ed7bed) hB hR hS hA (fun vv h10 H locs hq hEh10 hR hS => ?_) (fun XX ax h10 H locs hq hEh10 hex hR hS => ?_)
          · obtain ⟨r11, rfl, hw⟩ := hq
            have hw := hw hEh10
            have hE := hE.tr hEh10
            refine W.eq (g2 := F0 m 155 ls [.int r11, .ref x0]) rfl ?_
            have hk4 : xb_k h10 x0 = 9 := hEh10.k hk4
            refine xb_call (D := D) (A := A) (σ := σ) (h := h10) (d := 3) (mc := 0) (ms := 0) (maxL := 2) (rest := []) (av := [.ref x0, .int r11]) (fun T hT X => by obtain ⟨cb, r1, r2, r3⟩ := xb_recv (ci := 8) hR rfl hk4 (by decide); exact xt_invV X hx hown (hts _ m_62eb1e15) (hts _ m_3d82cebb) (hts _ m_d25c631d) (xt_sigOf (hts _ m_4191cbea)) nm_M_putResult (by rw [hT]; exact r1) r2 r3 (g := F0 m 155 ls [.int r11, .ref x0]) rfl (argsL := [.int r11]) (rest := []) rfl rfl (by rw [hb]; exact (xb_d D_M_checkCalls 90 rfl))) (ok_M_putResult l hfl D A σ x0 r11 h10 _ hw) (hml.trans hl.1.symm) (by rw [hb]; exact (xb_d D_M_checkCalls 90 rfl)) (Nat.le_of_ble_eq_true rfl) (Nat.le_of_ble_eq_true rfl) (Nat.le_of_ble_eq_true rfl) (show k + 0 ≤ MC by omega) (show n + 0 ≤ MS by omega) (xt_w1 hB.1 m_4191cbea) (xt_cdOf hB.1 m_4191cbea) (hts _ m_d5ed7bed) hB hR hS hA (fun vv h12 H locs hq hEh12 hR hS => ?_) (fun XX ax h12 H locs hq hEh12 hex hR hS => ?_)
            · obtain ⟨rfl, hw⟩ := hq
              have hw := hw hEh12
              have hE := hE.tr hEh12
              refine W.eq (g2 := F0 m 158 ls []) rfl ?_
              exact am_M_checkCalls_L158 l hfl D A σ MC MS h0 Qr h12 hw p e s m args below meth c hC H locs ls k n hE (lv_sub hl [] rfl) hR hS (by omega) (by omega)
            · exact False.elim hq
          · exact False.elim hq
        · exact False.elim hq
    · exact False.elim hq
  · exact False.elim hq

set_option maxHeartbeats 4000000 in
set_option maxRecDepth 100000 in
theorem am_M_checkCalls_L98 (l : Launch) (hfl : l.flags = pinnedFlags ++ [noTraceFlag]) (D : va_G) (A : Nat → Prop) (σ MC MS : Nat) (h0 : xb_H) (Qr : xb_H → Prop) (x0 : Nat) (x1 : Int32) (x3 : Int64) (y0 : Int32) (y1 : Nat) (h : xb_H) (hw : w_M_checkCalls_L98 Qr x0 x1 x3 y0 y1 h) : xb_am l D A σ 9 MC MS h0 (fun v h => v = none ∧ Qr h) (fun _ _ => False) y_M_checkCalls.cls y_M_checkCalls.name b_M_checkCalls 6 ([] : List ExceptionTableEntry) none 98 [(0, .ref x0), (1, .int x1), (3, .long x3)] [.int y0, .ref y1] h 0 0 := by
  unfold w_M_checkCalls_L98 at hw
  intro p e s m args below meth c hC H locs ls k n hE hl hR hS hk hn
  obtain ⟨hx, hb, hown, hlocks, htab, hml, hr, hB, hA, hnm⟩ := id hC
  have hts := hB.1.1.at args
  refine lv_bipush (v := 20) hx hb (xb_d D_M_checkCalls 56 rfl) (by decide) ?_
  obtain ⟨hk1, hw⟩ := hw
  refine xb_call (D := D) (A := A) (σ := σ) (h := h) (d := 3) (mc := 0) (ms := 0) (maxL := 3) (rest := []) (av := [.ref y1, .int y0, .int 20]) (fun T hT X => by obtain ⟨cb, r1, r2, r3⟩ := xb_recv (ci := 8) hR rfl hk1 (by decide); exact xt_invV X hx hown (hts _ m_3b351fe6) (hts _ m_c9ff1909) (hts _ m_4d34701a) (xt_sigOf (hts _ m_c5aab6b8)) nm_M_need (by rw [hT]; exact r1) r2 r3 (g := F0 m 100 ls [.int 20, .int y0, .ref y1]) rfl (argsL := [.int y0, .int 20]) (rest := []) rfl rfl (by rw [hb]; exact (xb_d D_M_checkCalls 57 rfl))) (ok_M_need l hfl D A σ y1 y0 20 h _ hw) (hml.trans hl.1.symm) (by rw [hb]; exact (xb_d D_M_checkCalls 57 rfl)) (Nat.le_of_ble_eq_true rfl) (Nat.le_of_ble_eq_true rfl) (Nat.le_of_ble_eq_true rfl) (show k + 0 ≤ MC by omega) (show n + 0 ≤ MS by omega) (xt_w1 hB.1 m_c5aab6b8) (xt_cdOf hB.1 m_c5aab6b8) (hts _ m_d5ed7bed) hB hR hS hA (fun vv h2 H locs hq hEh2 hR hS => ?_) (fun XX ax h2 H locs hq hEh2 hex hR hS => ?_)
  · obtain ⟨rfl, hw⟩ := hq
    have hw := hw hEh2
    have hE := hE.tr hEh2
    refine W.eq (g2 := F0 m 103 ls []) rfl ?_
    refine lv_aload_n hx hb (xb_d D_M_checkCalls 58 rfl) rfl (lv_at hl 0 rfl) ?_
    refine lv_lload_n hx hb (xb_d D_M_checkCalls 59 rfl) rfl (lv_at hl 2 rfl) ?_
    refine lv_aload_n hx hb (xb_d D_M_checkCalls 60 rfl) rfl (lv_at hl 0 rfl) ?_
    refine lv_iload_n hx hb (xb_d D_M_checkCalls 61 rfl) rfl (lv_at hl 1 rfl) ?_
    refine lv_iconst (v := 1) hx hb (xb_d D_M_checkCalls 62 rfl) (by decide) ?_
    obtain ⟨hk4, hw⟩ := hw
    refine xb_call (D := D) (A := A) (σ := σ) (h := h2) (d := 2) (mc := 0) (ms := 0) (maxL := 3) (rest := [.long x3, .ref x0]) (av := [.ref x0, .int x1, .int 1]) (fun T hT X => by obtain ⟨cb, r1, r2, r3⟩ := xb_recv (ci := 8) hR rfl hk4 (by decide); exact xt_invV X hx hown (hts _ m_b47f62c2) (hts _ m_9f071faf) (hts _ m_e1bb5c84) (xt_sigOf (hts _ m_3a6212d6)) nm_M_manyOf (by rw [hT]; exact r1) r2 r3 (g := F0 m 108 ls [.int 1, .int x1, .ref x0, .long x3, .ref x0]) rfl (argsL := [.int x1, .int 1]) (rest := [.long x3, .ref x0]) rfl rfl (by rw [hb]; exact (xb_d D_M_checkCalls 63 rfl))) (ok_M_manyOf l hfl D A σ x0 x1 1 h2 _ hw) (hml.trans hl.1.symm) (by rw [hb]; exact (xb_d D_M_checkCalls 63 rfl)) (Nat.le_of_ble_eq_true rfl) (Nat.le_of_ble_eq_true rfl) (Nat.le_of_ble_eq_true rfl) (show k + 0 ≤ MC by omega) (show n + 0 ≤ MS by omega) (xt_w1 hB.1 m_3a6212d6) (xt_cdOf hB.1 m_3a6212d6) (hts _ m_d5ed7bed) hB hR hS hA (fun vv h5 H locs hq hEh5 hR hS => ?_) (fun XX ax h5 H locs hq hEh5 hex hR hS => ?_)
    · obtain ⟨r6, rfl, hw⟩ := hq
      have hw := hw hEh5
      have hE := hE.tr hEh5
      refine W.eq (g2 := F0 m 111 ls [.int r6, .long x3, .ref x0]) rfl ?_
      refine lv_i2l hx hb (xb_d D_M_checkCalls 64 rfl) rfl ?_
      refine xb_lc_ge (tgt := 120) hx hb (xb_d D_M_checkCalls 65 rfl) (xb_d D_M_checkCalls 66 rfl) rfl (fun hc7 => ?_) (fun hc7 => ?_)
      · have hw := hw.1 hc7
        refine lv_iconst (v := 0) hx hb (xb_d D_M_checkCalls 69 rfl) (by decide) ?_
        exact am_M_checkCalls_L121 l hfl D A σ MC MS h0 Qr x0 x1 x3 0 x0 h5 hw p e s m args below meth c hC H locs ls k n hE (lv_sub hl [0, 1, 2] rfl) hR hS (by omega) (by omega)
      · have hw := hw.2 hc7
        refine lv_iconst (v := 1) hx hb (xb_d D_M_checkCalls 67 rfl) (by decide) ?_
        refine lv_goto (tgt := 121) hx hb (xb_d D_M_checkCalls 68 rfl) rfl ?_
        exact am_M_checkCalls_L121 l hfl D A σ MC MS h0 Qr x0 x1 x3 1 x0 h5 hw p e s m args below meth c hC H locs ls k n hE (lv_sub hl [0, 1, 2] rfl) hR hS (by omega) (by omega)
    · exact False.elim hq
  · exact False.elim hq

set_option maxHeartbeats 4000000 in
set_option maxRecDepth 100000 in
theorem am_M_checkCalls_L67 (l : Launch) (hfl : l.flags = pinnedFlags ++ [noTraceFlag]) (D : va_G) (A : Nat → Prop) (σ MC MS : Nat) (h0 : xb_H) (Qr : xb_H → Prop) (h : xb_H) (hw : w_M_checkCalls_L67 Qr h) : xb_am l D A σ 9 MC MS h0 (fun v h => v = none ∧ Qr h) (fun _ _ => False) y_M_checkCalls.cls y_M_checkCalls.name b_M_checkCalls 6 ([] : List ExceptionTableEntry) none 67 [] [] h 0 0 := by
  unfold w_M_checkCalls_L67 at hw
  intro p e s m args below meth c hC H locs ls k n hE hl hR hS hk hn
  obtain ⟨hx, hb, hown, hlocks, htab, hml, hr, hB, hA, hnm⟩ := id hC
  have hts := hB.1.1.at args
  refine lv_goto (tgt := 210) hx hb (xb_d D_M_checkCalls 38 rfl) rfl ?_
  exact am_M_checkCalls_L210 l hfl D A σ MC MS h0 Qr h hw p e s m args below meth c hC H locs ls k n hE (lv_sub hl [] rfl) hR hS (by omega) (by omega)

set_option maxHeartbeats 4000000 in
set_option maxRecDepth 100000 in
theorem am_M_checkCalls_L28 (l : Launch) (hfl : l.flags = pinnedFlags ++ [noTraceFlag]) (D : va_G) (A : Nat → Prop) (σ MC MS : Nat) (h0 : xb_H) (Qr : xb_H → Prop) (x0 : Nat) (x1 : Int32) (x3 : Int64) (y0 : Int32) (y1 : Nat) (h : xb_H) (hw : w_M_checkCalls_L28 Qr x0 x1 x3 y0 y1 h) : xb_am l D A σ 9 MC MS h0 (fun v h => v = none ∧ Qr h) (fun _ _ => False) y_M_checkCalls.cls y_M_checkCalls.name b_M_checkCalls 6 ([] : List ExceptionTableEntry) none 28 [(0, .ref x0), (1, .int x1), (3, .long x3)] [.int y0, .ref y1] h 0 0 := by
  unfold w_M_checkCalls_L28 at hw
  intro p e s m args below meth c hC H locs ls k n hE hl hR hS hk hn
  obtain ⟨hx, hb, hown, hlocks, htab, hml, hr, hB, hA, hnm⟩ := id hC
  have hts := hB.1.1.at args
  refine lv_bipush (v := 20) hx hb (xb_d D_M_checkCalls 17 rfl) (by decide) ?_
  obtain ⟨hk1, hw⟩ := hw
  refine xb_call (D := D) (A := A) (σ := σ) (h := h) (d := 3) (mc := 0) (ms := 0) (maxL := 3) (rest := []) (av := [.ref y1, .int y0, .int 20]) (fun T hT X => by obtain ⟨cb, r1, r2, r3⟩ := xb_recv (ci := 8) hR rfl hk1 (by decide); exact xt_invV X hx hown (hts _ m_3b351fe6) (hts _ m_c9ff1909) (hts _ m_4d34701a) (xt_sigOf (hts _ m_c5aab6b8)) nm_M_need (by rw [hT]; exact r1) r2 r3 (g := F0 m 30 ls [.int 20, .int y0, .ref y1]) rfl (argsL := [.int y0, .int 20]) (rest := []) rfl rfl (by rw [hb]; exact (xb_d D_M_checkCalls 18 rfl))) (ok_M_need l hfl D A σ y1 y0 20 h _ hw) (hml.trans hl.1.symm) (by rw [hb]; exact (xb_d D_M_checkCalls 18 rfl)) (Nat.le_of_ble_eq_true rfl) (Nat.le_of_ble_eq_true rfl) (Nat.le_of_ble_eq_true rfl) (show k + 0 ≤ MC by omega) (show n + 0 ≤ MS by omega) (xt_w1 hB.1 m_c5aab6b8) (xt_cdOf hB.1 m_c5aab6b8) (hts _ m_d5ed7bed) hB hR hS hA (fun vv h2 H locs hq hEh2 hR hS => ?_) (fun XX ax h2 H locs hq hEh2 hex hR hS => ?_)
  · obtain ⟨rfl, hw⟩ := hq
    have hw := hw hEh2
    have hE := hE.tr hEh2
    refine W.eq (g2 := F0 m 33 ls []) rfl ?_
    refine lv_aload_n hx hb (xb_d D_M_checkCalls 19 rfl) rfl (lv_at hl 0 rfl) ?_
    obtain ⟨hk4, hw⟩ := hw
    refine xb_getI (C := R_M) (T := F_M) (N := 97) hx hb 8 17 hts fin_M hown hR hk4 (by decide) rfl (by decide) rfl (hts _ m_ff69da61) (fun _ h9 => h9) (xb_d D_M_checkCalls 20 rfl) ?_
    refine lv_if_ne (tgt := 67) hx hb (xb_d D_M_checkCalls 21 rfl) rfl (fun hc5 => ?_) (fun hc5 => ?_)
    · have hw := hw.1 hc5
      exact am_M_checkCalls_L67 l hfl D A σ MC MS h0 Qr h2 hw p e s m args below meth c hC H locs ls k n hE (lv_sub hl [] rfl) hR hS (by omega) (by omega)
    · have hw := hw.2 hc5
      refine lv_aload_n hx hb (xb_d D_M_checkCalls 22 rfl) rfl (lv_at hl 0 rfl) ?_
      refine lv_iload_n hx hb (xb_d D_M_checkCalls 23 rfl) rfl (lv_at hl 1 rfl) ?_
      refine lv_lload_n hx hb (xb_d D_M_checkCalls 24 rfl) rfl (lv_at hl 2 rfl) ?_
      refine lv_l2i hx hb (xb_d D_M_checkCalls 25 rfl) rfl ?_
      refine xb_call (D := D) (A := A) (σ := σ) (h := h2) (d := 8) (mc := 0) (ms := 0) (maxL := 4) (rest := []) (av := [.ref x0, .int x1, .int (Int64.toInt32 x3)]) (fun T hT X => by obtain ⟨cb, r1, r2, r3⟩ := xb_recv (ci := 8) hR rfl hk4 (by decide); exact xt_invV X hx hown (hts _ m_1d203cc1) (hts _ m_0a0483ac) (hts _ m_42615324) (xt_sigOf (hts _ m_44f87caf)) nm_M_typeOf (by rw [hT]; exact r1) r2 r3 (g := F0 m 44 ls [.int (Int64.toInt32 x3), .int x1, .ref x0]) rfl (argsL := [.int x1, .int (Int64.toInt32 x3)]) (rest := []) rfl rfl (by rw [hb]; exact (xb_d D_M_checkCalls 26 rfl))) (ok_M_typeOf l hfl D A σ x0 x1 (Int64.toInt32 x3) h2 _ hw) (hml.trans hl.1.symm) (by rw [hb]; exact (xb_d D_M_checkCalls 26 rfl)) (Nat.le_of_ble_eq_true rfl) (Nat.le_of_ble_eq_true rfl) (Nat.le_of_ble_eq_true rfl) (show k + 0 ≤ MC by omega) (show n + 0 ≤ MS by omega) (xt_w1 hB.1 m_44f87caf) (xt_cdOf hB.1 m_44f87caf) (hts _ m_d5ed7bed) hB hR hS hA (fun vv h6 H locs hq hEh6 hR hS => ?_) (fun XX ax h6 H locs hq hEh6 hex hR hS => ?_)
      · obtain ⟨r7, rfl, hw⟩ := hq
        have hw := hw hEh6
        have hE := hE.tr hEh6
        refine W.eq (g2 := F0 m 47 ls [.int r7]) rfl ?_
        refine lv_istore hx hb (xb_d D_M_checkCalls 27 rfl) hl (by decide) rfl (fun ls hl => ?_)
        have hl : lv_has ls 6 [(5, .int r7), (0, .ref x0), (1, .int x1), (3, .long x3)] := hl
        refine lv_aload_n hx hb (xb_d D_M_checkCalls 28 rfl) rfl (lv_at hl 1 rfl) ?_
        refine lv_iload_n hx hb (xb_d D_M_checkCalls 29 rfl) rfl (lv_at hl 2 rfl) ?_
        refine lv_iload hx hb (xb_d D_M_checkCalls 30 rfl) (lv_at hl 0 rfl) ?_
        have hk4 : xb_k h6 x0 = 9 := hEh6.k hk4
        refine xb_call (D := D) (A := A) (σ := σ) (h := h6) (d := 7) (mc := 0) (ms := 0) (maxL := 4) (rest := []) (av := [.ref x0, .int x1, .int r7]) (fun T hT X => by obtain ⟨cb, r1, r2, r3⟩ := xb_recv (ci := 8) hR rfl hk4 (by decide); exact xt_invV X hx hown (hts _ m_e1a5a131) (hts _ m_0ad78cc3) (hts _ m_a45a720b) (xt_sigOf (hts _ m_38627b0b)) nm_M_takeParameters (by rw [hT]; exact r1) r2 r3 (g := F0 m 53 ls [.int r7, .int x1, .ref x0]) rfl (argsL := [.int x1, .int r7]) (rest := []) rfl rfl (by rw [hb]; exact (xb_d D_M_checkCalls 31 rfl))) (ok_M_takeParameters l hfl D A σ x0 x1 r7 h6 _ hw) (hml.trans hl.1.symm) (by rw [hb]; exact (xb_d D_M_checkCalls 31 rfl)) (Nat.le_of_ble_eq_true rfl) (Nat.le_of_ble_eq_true rfl) (Nat.le_of_ble_eq_true rfl) (show k + 0 ≤ MC by omega) (show n + 0 ≤ MS by omega) (xt_w1 hB.1 m_38627b0b) (xt_cdOf hB.1 m_38627b0b) (hts _ m_d5ed7bed) hB hR hS hA (fun vv h8 H locs hq hEh8 hR hS => ?_) (fun XX ax h8 H locs hq hEh8 hex hR hS => ?_)
        · obtain ⟨rfl, hw⟩ := hq
          have hw := hw hEh8
          have hE := hE.tr hEh8
          refine W.eq (g2 := F0 m 56 ls []) rfl ?_
          refine lv_aload_n hx hb (xb_d D_M_checkCalls 32 rfl) rfl (lv_at hl 1 rfl) ?_
          refine lv_aload_n hx hb (xb_d D_M_checkCalls 33 rfl) rfl (lv_at hl 1 rfl) ?_
          refine lv_iload_n hx hb (xb_d D_M_checkCalls 34 rfl) rfl (lv_at hl 2 rfl) ?_
          refine lv_iload hx hb (xb_d D_M_checkCalls 35 rfl) (lv_at hl 0 rfl) ?_
          have hk4 : xb_k h8 x0 = 9 := hEh8.k hk4
          refine xb_call (D := D) (A := A) (σ := σ) (h := h8) (d := 6) (mc := 0) (ms := 0) (maxL := 4) (rest := [.ref x0]) (av := [.ref x0, .int x1, .int r7]) (fun T hT X => by obtain ⟨cb, r1, r2, r3⟩ := xb_recv (ci := 8) hR rfl hk4 (by decide); exact xt_invV X hx hown (hts _ m_bd023100) (hts _ m_d08a9c75) (hts _ m_9ac7cfcb) (xt_sigOf (hts _ m_9dee8e5c)) nm_M_resultOf (by rw [hT]; exact r1) r2 r3 (g := F0 m 61 ls [.int r7, .int x1, .ref x0, .ref x0]) rfl (argsL := [.int x1, .int r7]) (rest := [.ref x0]) rfl rfl (by rw [hb]; exact (xb_d D_M_checkCalls 36 rfl))) (ok_M_resultOf l hfl D A σ x0 x1 r7 h8 _ hw) (hml.trans hl.1.symm) (by rw [hb]; exact (xb_d D_M_checkCalls 36 rfl)) (Nat.le_of_ble_eq_true rfl) (Nat.le_of_ble_eq_true rfl) (Nat.le_of_ble_eq_true rfl) (show k + 0 ≤ MC by omega) (show n + 0 ≤ MS by omega) (xt_w1 hB.1 m_9dee8e5c) (xt_cdOf hB.1 m_9dee8e5c) (hts _ m_d5ed7bed) hB hR hS hA (fun vv h10 H locs hq hEh10 hR hS => ?_) (fun XX ax h10 H locs hq hEh10 hex hR hS => ?_)
          · obtain ⟨r11, rfl, hw⟩ := hq
            have hw := hw hEh10
            have hE := hE.tr hEh10
            refine W.eq (g2 := F0 m 64 ls [.int r11, .ref x0]) rfl ?_
            have hk4 : xb_k h10 x0 = 9 := hEh10.k hk4
            refine xb_call (D := D) (A := A) (σ := σ) (h := h10) (d := 3) (mc := 0) (ms := 0) (maxL := 2) (rest := []) (av := [.ref x0, .int r11]) (fun T hT X => by obtain ⟨cb, r1, r2, r3⟩ := xb_recv (ci := 8) hR rfl hk4 (by decide); exact xt_invV X hx hown (hts _ m_62eb1e15) (hts _ m_3d82cebb) (hts _ m_d25c631d) (xt_sigOf (hts _ m_4191cbea)) nm_M_putResult (by rw [hT]; exact r1) r2 r3 (g := F0 m 64 ls [.int r11, .ref x0]) rfl (argsL := [.int r11]) (rest := []) rfl rfl (by rw [hb]; exact (xb_d D_M_checkCalls 37 rfl))) (ok_M_putResult l hfl D A σ x0 r11 h10 _ hw) (hml.trans hl.1.symm) (by rw [hb]; exact (xb_d D_M_checkCalls 37 rfl)) (Nat.le_of_ble_eq_true rfl) (Nat.le_of_ble_eq_true rfl) (Nat.le_of_ble_eq_true rfl) (show k + 0 ≤ MC by omega) (show n + 0 ≤ MS by omega) (xt_w1 hB.1 m_4191cbea) (xt_cdOf hB.1 m_4191cbea) (hts _ m_d5ed7bed) hB hR hS hA (fun vv h12 H locs hq hEh12 hR hS => ?_) (fun XX ax h12 H locs hq hEh12 hex hR hS => ?_)
            · obtain ⟨rfl, hw⟩ := hq
              have hw := hw hEh12
              have hE := hE.tr hEh12
              refine W.eq (g2 := F0 m 67 ls []) rfl ?_
              exact am_M_checkCalls_L67 l hfl D A σ MC MS h0 Qr h12 hw p e s m args below meth c hC H locs ls k n hE (lv_sub hl [] rfl) hR hS (by omega) (by omega)
            · exact False.elim hq
          · exact False.elim hq
        · exact False.elim hq
      · exact False.elim hq
  · exact False.elim hq

set_option maxHeartbeats 4000000 in
set_option maxRecDepth 100000 in
theorem ok_M_checkCalls (l : Launch) (hfl : l.flags = pinnedFlags ++ [noTraceFlag]) (D : va_G) (A : Nat → Prop) (σ : Nat) (x0 : Nat) (x1 : Int32) (x2 : Int32) (h : xb_H) (Qr : xb_H → Prop) (hw : w_M_checkCalls x0 x1 x2 h Qr) : xt_Met l y_M_checkCalls [.code y_M_checkCalls b_M_checkCalls 6 none] (xb_rm 9 0 0) (xb_Pc D A σ h [.ref x0, .int x1, .int x2]) (xb_Qc D A h (fun v h => v = none ∧ Qr h) (fun _ _ => False)) 0 0 A := by
  refine xb_ofAm (cc := b_M_checkCalls) (by decide) (Nat.le_of_ble_eq_true rfl) ?_
  unfold w_M_checkCalls at hw
  show xb_am l D A σ 9 0 0 h (fun v h => v = none ∧ Qr h) (fun _ _ => False) y_M_checkCalls.cls y_M_checkCalls.name b_M_checkCalls 6 ([] : List ExceptionTableEntry) none 0 [(0, .ref x0), (1, .int x1), (2, .int x2)] [] h 0 0
  obtain ⟨MC, hMC⟩ : ∃ x, x = 0 := ⟨_, rfl⟩
  obtain ⟨MS, hMS⟩ : ∃ x, x = 0 := ⟨_, rfl⟩
  rw [show xb_am l D A σ 9 0 0 = xb_am l D A σ 9 MC MS by rw [hMC, hMS]]
  obtain ⟨h0, hh0⟩ : ∃ x, x = h := ⟨_, rfl⟩
  rw [show xb_am l D A σ 9 MC MS h = xb_am l D A σ 9 MC MS h0 by rw [hh0]]
  intro p e s m args below meth c hC H locs ls k n hE hl hR hS hk hn
  obtain ⟨hx, hb, hown, hlocks, htab, hml, hr, hB, hA, hnm⟩ := id hC
  have hts := hB.1.1.at args
  refine lv_iload_n hx hb (xb_d D_M_checkCalls 0 rfl) rfl (lv_at hl 2 rfl) ?_
  refine lv_bipush (v := 16) hx hb (xb_d D_M_checkCalls 1 rfl) (by decide) ?_
  refine lv_icmp_ne (tgt := 70) hx hb (xb_d D_M_checkCalls 2 rfl) rfl (fun hc1 => ?_) (fun hc1 => ?_)
  · have hw := hw.1 hc1
    refine lv_iload_n hx hb (xb_d D_M_checkCalls 39 rfl) rfl (lv_at hl 2 rfl) ?_
    refine lv_bipush (v := 17) hx hb (xb_d D_M_checkCalls 40 rfl) (by decide) ?_
    refine lv_icmp_ne (tgt := 161) hx hb (xb_d D_M_checkCalls 41 rfl) rfl (fun hc2 => ?_) (fun hc2 => ?_)
    · have hw := hw.1 hc2
      refine lv_iload_n hx hb (xb_d D_M_checkCalls 92 rfl) rfl (lv_at hl 2 rfl) ?_
      refine lv_bipush (v := 26) hx hb (xb_d D_M_checkCalls 93 rfl) (by decide) ?_
      refine lv_icmp_ne (tgt := 176) hx hb (xb_d D_M_checkCalls 94 rfl) rfl (fun hc3 => ?_) (fun hc3 => ?_)
      · have hw := hw.1 hc3
        refine lv_aload_n hx hb (xb_d D_M_checkCalls 100 rfl) rfl (lv_at hl 0 rfl) ?_
        refine lv_bipush (v := 127) hx hb (xb_d D_M_checkCalls 101 rfl) (by decide) ?_
        obtain ⟨hk4, hw⟩ := hw
        refine xb_call (D := D) (A := A) (σ := σ) (h := h) (d := 3) (mc := 0) (ms := 0) (maxL := 3) (rest := []) (av := [.ref x0, .int 127]) (fun T hT X => by obtain ⟨cb, r1, r2, r3⟩ := xb_recv (ci := 8) hR rfl hk4 (by decide); exact xt_invV X hx hown (hts _ m_4290bf91) (hts _ m_641dba55) (hts _ m_286bb193) (xt_sigOf (hts _ m_8ef3c792)) nm_M_take (by rw [hT]; exact r1) r2 r3 (g := F0 m 179 ls [.int 127, .ref x0]) rfl (argsL := [.int 127]) (rest := []) rfl rfl (by rw [hb]; exact (xb_d D_M_checkCalls 102 rfl))) (ok_M_take l hfl D A σ x0 127 h _ hw) (hml.trans hl.1.symm) (by rw [hb]; exact (xb_d D_M_checkCalls 102 rfl)) (Nat.le_of_ble_eq_true rfl) (Nat.le_of_ble_eq_true rfl) (Nat.le_of_ble_eq_true rfl) (show k + 0 ≤ MC by omega) (show n + 0 ≤ MS by omega) (xt_w1 hB.1 m_8ef3c792) (xt_cdOf hB.1 m_8ef3c792) (hts _ m_d5ed7bed) hB hR hS hA (fun vv h5 H locs hq hEh5 hR hS => ?_) (fun XX ax h5 H locs hq hEh5 hex hR hS => ?_)
        · obtain ⟨r6, rfl, hw⟩ := hq
          have hw := hw hEh5
          have hE := hE.tr hEh5
          refine W.eq (g2 := F0 m 182 ls [.int r6]) rfl ?_
          refine lv_pop hx hb (xb_d D_M_checkCalls 103 rfl) rfl ?_
          refine lv_aload_n hx hb (xb_d D_M_checkCalls 104 rfl) rfl (lv_at hl 0 rfl) ?_
          refine lv_iconst (v := 0) hx hb (xb_d D_M_checkCalls 105 rfl) (by decide) ?_
          have hk4 : xb_k h5 x0 = 9 := hEh5.k hk4
          refine xb_call (D := D) (A := A) (σ := σ) (h := h5) (d := 3) (mc := 0) (ms := 0) (maxL := 3) (rest := []) (av := [.ref x0, .int 0]) (fun T hT X => by obtain ⟨cb, r1, r2, r3⟩ := xb_recv (ci := 8) hR rfl hk4 (by decide); exact xt_invV X hx hown (hts _ m_4290bf91) (hts _ m_641dba55) (hts _ m_286bb193) (xt_sigOf (hts _ m_8ef3c792)) nm_M_take (by rw [hT]; exact r1) r2 r3 (g := F0 m 185 ls [.int 0, .ref x0]) rfl (argsL := [.int 0]) (rest := []) rfl rfl (by rw [hb]; exact (xb_d D_M_checkCalls 106 rfl))) (ok_M_take l hfl D A σ x0 0 h5 _ hw) (hml.trans hl.1.symm) (by rw [hb]; exact (xb_d D_M_checkCalls 106 rfl)) (Nat.le_of_ble_eq_true rfl) (Nat.le_of_ble_eq_true rfl) (Nat.le_of_ble_eq_true rfl) (show k + 0 ≤ MC by omega) (show n + 0 ≤ MS by omega) (xt_w1 hB.1 m_8ef3c792) (xt_cdOf hB.1 m_8ef3c792) (hts _ m_d5ed7bed) hB hR hS hA (fun vv h7 H locs hq hEh7 hR hS => ?_) (fun XX ax h7 H locs hq hEh7 hex hR hS => ?_)
          · obtain ⟨r8, rfl, hw⟩ := hq
            have hw := hw hEh7
            have hE := hE.tr hEh7
            refine W.eq (g2 := F0 m 188 ls [.int r8]) rfl ?_
            refine lv_istore_n hx hb (xb_d D_M_checkCalls 107 rfl) rfl hl (by decide) rfl (fun ls hl => ?_)
            have hl : lv_has ls 6 [(3, .int r8), (0, .ref x0), (1, .int x1), (2, .int x2)] := hl
            refine lv_aload_n hx hb (xb_d D_M_checkCalls 108 rfl) rfl (lv_at hl 1 rfl) ?_
            refine lv_iload_n hx hb (xb_d D_M_checkCalls 109 rfl) rfl (lv_at hl 0 rfl) ?_
            have hk4 : xb_k h7 x0 = 9 := hEh7.k hk4
            refine xb_call (D := D) (A := A) (σ := σ) (h := h7) (d := 3) (mc := 0) (ms := 0) (maxL := 3) (rest := []) (av := [.ref x0, .int r8]) (fun T hT X => by obtain ⟨cb, r1, r2, r3⟩ := xb_recv (ci := 8) hR rfl hk4 (by decide); exact xt_invV X hx hown (hts _ m_4290bf91) (hts _ m_641dba55) (hts _ m_286bb193) (xt_sigOf (hts _ m_8ef3c792)) nm_M_take (by rw [hT]; exact r1) r2 r3 (g := F0 m 191 ls [.int r8, .ref x0]) rfl (argsL := [.int r8]) (rest := []) rfl rfl (by rw [hb]; exact (xb_d D_M_checkCalls 110 rfl))) (ok_M_take l hfl D A σ x0 r8 h7 _ hw) (hml.trans hl.1.symm) (by rw [hb]; exact (xb_d D_M_checkCalls 110 rfl)) (Nat.le_of_ble_eq_true rfl) (Nat.le_of_ble_eq_true rfl) (Nat.le_of_ble_eq_true rfl) (show k + 0 ≤ MC by omega) (show n + 0 ≤ MS by omega) (xt_w1 hB.1 m_8ef3c792) (xt_cdOf hB.1 m_8ef3c792) (hts _ m_d5ed7bed) hB hR hS hA (fun vv h9 H locs hq hEh9 hR hS => ?_) (fun XX ax h9 H locs hq hEh9 hex hR hS => ?_)
            · obtain ⟨r10, rfl, hw⟩ := hq
              have hw := hw hEh9
              have hE := hE.tr hEh9
              refine W.eq (g2 := F0 m 194 ls [.int r10]) rfl ?_
              refine lv_istore hx hb (xb_d D_M_checkCalls 111 rfl) hl (by decide) rfl (fun ls hl => ?_)
              have hl : lv_has ls 6 [(4, .int r10), (3, .int r8), (0, .ref x0), (1, .int x1), (2, .int x2)] := hl
              refine lv_aload_n hx hb (xb_d D_M_checkCalls 112 rfl) rfl (lv_at hl 2 rfl) ?_
              refine lv_iload_n hx hb (xb_d D_M_checkCalls 113 rfl) rfl (lv_at hl 1 rfl) ?_
              refine lv_if_ne (tgt := 206) hx hb (xb_d D_M_checkCalls 114 rfl) rfl (fun hc11 => ?_) (fun hc11 => ?_)
              · have hw := hw.1 hc11
                refine lv_iload_n hx hb (xb_d D_M_checkCalls 117 rfl) rfl (lv_at hl 1 rfl) ?_
                exact am_M_checkCalls_L207 l hfl D A σ MC MS h0 Qr r8 x0 h9 hw p e s m args below meth c hC H locs ls k n hE (lv_sub hl [] rfl) hR hS (by omega) (by omega)
              · have hw := hw.2 hc11
                refine lv_iload hx hb (xb_d D_M_checkCalls 115 rfl) (lv_at hl 0 rfl) ?_
                refine lv_goto (tgt := 207) hx hb (xb_d D_M_checkCalls 116 rfl) rfl ?_
                exact am_M_checkCalls_L207 l hfl D A σ MC MS h0 Qr r10 x0 h9 hw p e s m args below meth c hC H locs ls k n hE (lv_sub hl [] rfl) hR hS (by omega) (by omega)
            · exact False.elim hq
          · exact False.elim hq
        · exact False.elim hq
      · have hw := hw.2 hc3
        refine lv_aload_n hx hb (xb_d D_M_checkCalls 95 rfl) rfl (lv_at hl 0 rfl) ?_
        refine lv_iconst (v := 0) hx hb (xb_d D_M_checkCalls 96 rfl) (by decide) ?_
        obtain ⟨hk12, hw⟩ := hw
        refine xb_call (D := D) (A := A) (σ := σ) (h := h) (d := 3) (mc := 0) (ms := 0) (maxL := 3) (rest := []) (av := [.ref x0, .int 0]) (fun T hT X => by obtain ⟨cb, r1, r2, r3⟩ := xb_recv (ci := 8) hR rfl hk12 (by decide); exact xt_invV X hx hown (hts _ m_4290bf91) (hts _ m_641dba55) (hts _ m_286bb193) (xt_sigOf (hts _ m_8ef3c792)) nm_M_take (by rw [hT]; exact r1) r2 r3 (g := F0 m 169 ls [.int 0, .ref x0]) rfl (argsL := [.int 0]) (rest := []) rfl rfl (by rw [hb]; exact (xb_d D_M_checkCalls 97 rfl))) (ok_M_take l hfl D A σ x0 0 h _ hw) (hml.trans hl.1.symm) (by rw [hb]; exact (xb_d D_M_checkCalls 97 rfl)) (Nat.le_of_ble_eq_true rfl) (Nat.le_of_ble_eq_true rfl) (Nat.le_of_ble_eq_true rfl) (show k + 0 ≤ MC by omega) (show n + 0 ≤ MS by omega) (xt_w1 hB.1 m_8ef3c792) (xt_cdOf hB.1 m_8ef3c792) (hts _ m_d5ed7bed) hB hR hS hA (fun vv h13 H locs hq hEh13 hR hS => ?_) (fun XX ax h13 H locs hq hEh13 hex hR hS => ?_)
        · obtain ⟨r14, rfl, hw⟩ := hq
          have hw := hw hEh13
          have hE := hE.tr hEh13
          refine W.eq (g2 := F0 m 172 ls [.int r14]) rfl ?_
          refine lv_pop hx hb (xb_d D_M_checkCalls 98 rfl) rfl ?_
          refine lv_goto (tgt := 210) hx hb (xb_d D_M_checkCalls 99 rfl) rfl ?_
          exact am_M_checkCalls_L210 l hfl D A σ MC MS h0 Qr h13 hw p e s m args below meth c hC H locs ls k n hE (lv_sub hl [] rfl) hR hS (by omega) (by omega)
        · exact False.elim hq
    · have hw := hw.2 hc2
      refine lv_aload_n hx hb (xb_d D_M_checkCalls 42 rfl) rfl (lv_at hl 0 rfl) ?_
      obtain ⟨hk15, hw⟩ := hw
      refine xb_call (D := D) (A := A) (σ := σ) (h := h) (d := 4) (mc := 0) (ms := 0) (maxL := 5) (rest := []) (av := [.ref x0]) (fun T hT X => by obtain ⟨cb, r1, r2, r3⟩ := xb_recv (ci := 8) hR rfl hk15 (by decide); exact xt_invV X hx hown (hts _ m_e991293f) (hts _ m_385a74b3) (hts _ m_c9fbcd02) (xt_sigOf (hts _ m_1f53f210)) nm_M_count (by rw [hT]; exact r1) r2 r3 (g := F0 m 77 ls [.ref x0]) rfl (argsL := []) (rest := []) rfl rfl (by rw [hb]; exact (xb_d D_M_checkCalls 43 rfl))) (ok_M_count l hfl D A σ x0 h _ hw) (hml.trans hl.1.symm) (by rw [hb]; exact (xb_d D_M_checkCalls 43 rfl)) (Nat.le_of_ble_eq_true rfl) (Nat.le_of_ble_eq_true rfl) (Nat.le_of_ble_eq_true rfl) (show k + 0 ≤ MC by omega) (show n + 0 ≤ MS by omega) (xt_w1 hB.1 m_1f53f210) (xt_cdOf hB.1 m_1f53f210) (hts _ m_d5ed7bed) hB hR hS hA (fun vv h16 H locs hq hEh16 hR hS => ?_) (fun XX ax h16 H locs hq hEh16 hex hR hS => ?_)
      · obtain ⟨r17, rfl, hw⟩ := hq
        have hw := hw hEh16
        have hE := hE.tr hEh16
        refine W.eq (g2 := F0 m 80 ls [.long r17]) rfl ?_
        refine lv_lstore_n hx hb (xb_d D_M_checkCalls 44 rfl) rfl hl (by decide) rfl (fun ls hl => ?_)
        have hl : lv_has ls 6 [(3, .long r17), (0, .ref x0), (1, .int x1), (2, .int x2)] := hl
        refine lv_aload_n hx hb (xb_d D_M_checkCalls 45 rfl) rfl (lv_at hl 1 rfl) ?_
        refine lv_aload_n hx hb (xb_d D_M_checkCalls 46 rfl) rfl (lv_at hl 1 rfl) ?_
        refine lv_iload_n hx hb (xb_d D_M_checkCalls 47 rfl) rfl (lv_at hl 2 rfl) ?_
        refine lv_iconst (v := 1) hx hb (xb_d D_M_checkCalls 48 rfl) (by decide) ?_
        have hk15 : xb_k h16 x0 = 9 := hEh16.k hk15
        refine xb_call (D := D) (A := A) (σ := σ) (h := h16) (d := 3) (mc := 0) (ms := 0) (maxL := 3) (rest := [.ref x0]) (av := [.ref x0, .int x1, .int 1]) (fun T hT X => by obtain ⟨cb, r1, r2, r3⟩ := xb_recv (ci := 8) hR rfl hk15 (by decide); exact xt_invV X hx hown (hts _ m_940fb65e) (hts _ m_342c0f16) (hts _ m_c0324d76) (xt_sigOf (hts _ m_feaaa075)) nm_M_total (by rw [hT]; exact r1) r2 r3 (g := F0 m 85 ls [.int 1, .int x1, .ref x0, .ref x0]) rfl (argsL := [.int x1, .int 1]) (rest := [.ref x0]) rfl rfl (by rw [hb]; exact (xb_d D_M_checkCalls 49 rfl))) (ok_M_total l hfl D A σ x0 x1 1 h16 _ hw) (hml.trans hl.1.symm) (by rw [hb]; exact (xb_d D_M_checkCalls 49 rfl)) (Nat.le_of_ble_eq_true rfl) (Nat.le_of_ble_eq_true rfl) (Nat.le_of_ble_eq_true rfl) (show k + 0 ≤ MC by omega) (show n + 0 ≤ MS by omega) (xt_w1 hB.1 m_feaaa075) (xt_cdOf hB.1 m_feaaa075) (hts _ m_d5ed7bed) hB hR hS hA (fun vv h18 H locs hq hEh18 hR hS => ?_) (fun XX ax h18 H locs hq hEh18 hex hR hS => ?_)
        · obtain ⟨r19, rfl, hw⟩ := hq
          have hw := hw hEh18
          have hE := hE.tr hEh18
          refine W.eq (g2 := F0 m 88 ls [.long r19, .ref x0]) rfl ?_
          refine lv_lconst (v := 0) hx hb (xb_d D_M_checkCalls 50 rfl) (by decide) ?_
          refine xb_lc_le (tgt := 97) hx hb (xb_d D_M_checkCalls 51 rfl) (xb_d D_M_checkCalls 52 rfl) rfl (fun hc20 => ?_) (fun hc20 => ?_)
          · have hw := hw.1 hc20
            refine lv_iconst (v := 0) hx hb (xb_d D_M_checkCalls 55 rfl) (by decide) ?_
            exact am_M_checkCalls_L98 l hfl D A σ MC MS h0 Qr x0 x1 r17 0 x0 h18 hw p e s m args below meth c hC H locs ls k n hE (lv_sub hl [1, 2, 0] rfl) hR hS (by omega) (by omega)
          · have hw := hw.2 hc20
            refine lv_iconst (v := 1) hx hb (xb_d D_M_checkCalls 53 rfl) (by decide) ?_
            refine lv_goto (tgt := 98) hx hb (xb_d D_M_checkCalls 54 rfl) rfl ?_
            exact am_M_checkCalls_L98 l hfl D A σ MC MS h0 Qr x0 x1 r17 1 x0 h18 hw p e s m args below meth c hC H locs ls k n hE (lv_sub hl [1, 2, 0] rfl) hR hS (by omega) (by omega)
        · exact False.elim hq
      · exact False.elim hq
  · have hw := hw.2 hc1
    refine lv_aload_n hx hb (xb_d D_M_checkCalls 3 rfl) rfl (lv_at hl 0 rfl) ?_
    obtain ⟨hk21, hw⟩ := hw
    refine xb_call (D := D) (A := A) (σ := σ) (h := h) (d := 4) (mc := 0) (ms := 0) (maxL := 5) (rest := []) (av := [.ref x0]) (fun T hT X => by obtain ⟨cb, r1, r2, r3⟩ := xb_recv (ci := 8) hR rfl hk21 (by decide); exact xt_invV X hx hown (hts _ m_e991293f) (hts _ m_385a74b3) (hts _ m_c9fbcd02) (xt_sigOf (hts _ m_1f53f210)) nm_M_count (by rw [hT]; exact r1) r2 r3 (g := F0 m 7 ls [.ref x0]) rfl (argsL := []) (rest := []) rfl rfl (by rw [hb]; exact (xb_d D_M_checkCalls 4 rfl))) (ok_M_count l hfl D A σ x0 h _ hw) (hml.trans hl.1.symm) (by rw [hb]; exact (xb_d D_M_checkCalls 4 rfl)) (Nat.le_of_ble_eq_true rfl) (Nat.le_of_ble_eq_true rfl) (Nat.le_of_ble_eq_true rfl) (show k + 0 ≤ MC by omega) (show n + 0 ≤ MS by omega) (xt_w1 hB.1 m_1f53f210) (xt_cdOf hB.1 m_1f53f210) (hts _ m_d5ed7bed) hB hR hS hA (fun vv h22 H locs hq hEh22 hR hS => ?_) (fun XX ax h22 H locs hq hEh22 hex hR hS => ?_)
    · obtain ⟨r23, rfl, hw⟩ := hq
      have hw := hw hEh22
      have hE := hE.tr hEh22
      refine W.eq (g2 := F0 m 10 ls [.long r23]) rfl ?_
      refine lv_lstore_n hx hb (xb_d D_M_checkCalls 5 rfl) rfl hl (by decide) rfl (fun ls hl => ?_)
      have hl : lv_has ls 6 [(3, .long r23), (0, .ref x0), (1, .int x1), (2, .int x2)] := hl
      refine lv_aload_n hx hb (xb_d D_M_checkCalls 6 rfl) rfl (lv_at hl 1 rfl) ?_
      refine lv_lload_n hx hb (xb_d D_M_checkCalls 7 rfl) rfl (lv_at hl 0 rfl) ?_
      refine lv_aload_n hx hb (xb_d D_M_checkCalls 8 rfl) rfl (lv_at hl 1 rfl) ?_
      refine lv_iload_n hx hb (xb_d D_M_checkCalls 9 rfl) rfl (lv_at hl 2 rfl) ?_
      refine lv_iconst (v := 0) hx hb (xb_d D_M_checkCalls 10 rfl) (by decide) ?_
      have hk21 : xb_k h22 x0 = 9 := hEh22.k hk21
      refine xb_call (D := D) (A := A) (σ := σ) (h := h22) (d := 3) (mc := 0) (ms := 0) (maxL := 3) (rest := [.long r23, .ref x0]) (av := [.ref x0, .int x1, .int 0]) (fun T hT X => by obtain ⟨cb, r1, r2, r3⟩ := xb_recv (ci := 8) hR rfl hk21 (by decide); exact xt_invV X hx hown (hts _ m_940fb65e) (hts _ m_342c0f16) (hts _ m_c0324d76) (xt_sigOf (hts _ m_feaaa075)) nm_M_total (by rw [hT]; exact r1) r2 r3 (g := F0 m 16 ls [.int 0, .int x1, .ref x0, .long r23, .ref x0]) rfl (argsL := [.int x1, .int 0]) (rest := [.long r23, .ref x0]) rfl rfl (by rw [hb]; exact (xb_d D_M_checkCalls 11 rfl))) (ok_M_total l hfl D A σ x0 x1 0 h22 _ hw) (hml.trans hl.1.symm) (by rw [hb]; exact (xb_d D_M_checkCalls 11 rfl)) (Nat.le_of_ble_eq_true rfl) (Nat.le_of_ble_eq_true rfl) (Nat.le_of_ble_eq_true rfl) (show k + 0 ≤ MC by omega) (show n + 0 ≤ MS by omega) (xt_w1 hB.1 m_feaaa075) (xt_cdOf hB.1 m_feaaa075) (hts _ m_d5ed7bed) hB hR hS hA (fun vv h24 H locs hq hEh24 hR hS => ?_) (fun XX ax h24 H locs hq hEh24 hex hR hS => ?_)
      · obtain ⟨r25, rfl, hw⟩ := hq
        have hw := hw hEh24
        have hE := hE.tr hEh24
        refine W.eq (g2 := F0 m 19 ls [.long r25, .long r23, .ref x0]) rfl ?_
        refine xb_lc_ge (tgt := 27) hx hb (xb_d D_M_checkCalls 12 rfl) (xb_d D_M_checkCalls 13 rfl) rfl (fun hc26 => ?_) (fun hc26 => ?_)
        · have hw := hw.1 hc26
          refine lv_iconst (v := 0) hx hb (xb_d D_M_checkCalls 16 rfl) (by decide) ?_
          exact am_M_checkCalls_L28 l hfl D A σ MC MS h0 Qr x0 x1 r23 0 x0 h24 hw p e s m args below meth c hC H locs ls k n hE (lv_sub hl [1, 2, 0] rfl) hR hS (by omega) (by omega)
        · have hw := hw.2 hc26
          refine lv_iconst (v := 1) hx hb (xb_d D_M_checkCalls 14 rfl) (by decide) ?_
          refine lv_goto (tgt := 28) hx hb (xb_d D_M_checkCalls 15 rfl) rfl ?_
          exact am_M_checkCalls_L28 l hfl D A σ MC MS h0 Qr x0 x1 r23 1 x0 h24 hw p e s m args below meth c hC H locs ls k n hE (lv_sub hl [1, 2, 0] rfl) hR hS (by omega) (by omega)
      · exact False.elim hq
    · exact False.elim hq

set_option maxRecDepth 100000 in
def T_M_checkStart : List (Nat × Instr × Nat) := [(0, .aload_n 0, 1), (1, .iload_n 1, 1), (2, .bipush 8, 2), (4, .invokevirtual 316, 3), (7, .ifCond .ne 4, 3), (10, .return_, 1), (11, .aload_n 0, 1), (12, .iload_n 1, 1), (13, .bipush 8, 2), (15, .iconst 0, 1), (16, .invokevirtual 320, 3), (19, .istore_n 2, 1), (20, .aload_n 0, 1), (21, .iload_n 1, 1), (22, .iload_n 2, 1), (23, .invokevirtual 324, 3), (26, .aload_n 0, 1), (27, .invokevirtual 218, 3), (30, .lstore_n 3, 1), (31, .lload_n 3, 1), (32, .aload_n 0, 1), (33, .iload_n 1, 1), (34, .iconst 0, 1), (35, .invokevirtual 362, 3), (38, .lcmp, 1), (39, .ifCond .lt 13, 3), (42, .aload_n 0, 1), (43, .bipush 20, 2), (45, .iload_n 2, 1), (46, .invokevirtual 208, 3), (49, .goto 53, 3), (52, .aload_n 0, 1), (53, .iload_n 1, 1), (54, .lload_n 3, 1), (55, .l2i, 1), (56, .invokevirtual 369, 3), (59, .istore 5, 2), (61, .aload_n 0, 1), (62, .iload_n 1, 1), (63, .iload 5, 2), (65, .invokevirtual 333, 3), (68, .ifCond .ne 19, 3), (71, .aload_n 0, 1), (72, .iload_n 1, 1), (73, .iload 5, 2), (75, .invokevirtual 336, 3), (78, .bipush 64, 2), (80, .if_icmp .ne 7, 3), (83, .iconst 1, 1), (84, .goto 4, 3), (87, .iconst 0, 1), (88, .istore 6, 2), (90, .iload 6, 2), (92, .ifCond .ne 10, 3), (95, .aload_n 0, 1), (96, .bipush 21, 2), (98, .iload_n 2, 1), (99, .invokevirtual 208, 3), (102, .return_, 1)]
theorem D_M_checkStart : ∀ q ∈ T_M_checkStart, decode b_M_checkStart q.1 = .ok (q.2.1, q.2.2) := by decide +kernel
def w_M_checkStart_L102 (Qr : xb_H → Prop) (h : xb_H) : Prop :=
    Qr h

def w_M_checkStart_L88 (Qr : xb_H → Prop) (x0 : Nat) (x2 : Int32) (y0 : Int32) (h : xb_H) : Prop :=
    ((¬ y0 = (0 : Int32) → w_M_checkStart_L102 Qr h) ∧ (y0 = (0 : Int32) → xb_k h x0 = 9 ∧ w_M_fail x0 21 x2 h (fun (h3 : xb_H) => xb_ext h h3 → w_M_checkStart_L102 Qr h3)))

def w_M_checkStart_L87 (Qr : xb_H → Prop) (x0 : Nat) (x2 : Int32) (h : xb_H) : Prop :=
    w_M_checkStart_L88 Qr x0 x2 0 h

def w_M_checkStart (x0 : Nat) (x1 : Int32) (h : xb_H) (Qr : xb_H → Prop) : Prop :=
    xb_k h x0 = 9 ∧ w_M_manyOf x0 x1 8 h (fun (r3 : Int32) (h2 : xb_H) => xb_ext h h2 → ((¬ r3 = (0 : Int32) → w_M_placeOf x0 x1 8 0 h2 (fun (r6 : Int32) (h5 : xb_H) => xb_ext h2 h5 → w_M_go x0 x1 r6 h5 (fun (h7 : xb_H) => xb_ext h5 h7 → w_M_count x0 h7 (fun (r10 : Int64) (h9 : xb_H) => xb_ext h7 h9 → w_M_total x0 x1 0 h9 (fun (r12 : Int64) (h11 : xb_H) => xb_ext h9 h11 → ((r10 < r12 → w_M_typeOf x0 x1 (Int64.toInt32 r10) h11 (fun (r15 : Int32) (h14 : xb_H) => xb_ext h11 h14 → w_M_parameters x0 x1 r15 h14 (fun (r17 : Int32) (h16 : xb_H) => xb_ext h14 h16 → ((¬ r17 = (0 : Int32) → w_M_checkStart_L87 Qr x0 r6 h16) ∧ (r17 = (0 : Int32) → w_M_resultOf x0 x1 r15 h16 (fun (r20 : Int32) (h19 : xb_H) => xb_ext h16 h19 → ((¬ r20 = (64 : Int32) → w_M_checkStart_L87 Qr x0 r6 h19) ∧ (r20 = (64 : Int32) → w_M_checkStart_L88 Qr x0 r6 1 h19)))))))) ∧ (¬ r10 < r12 → w_M_fail x0 20 r6 h11 (fun (h22 : xb_H) => xb_ext h11 h22 → w_M_checkStart_L102 Qr h22)))))))) ∧ (r3 = (0 : Int32) → Qr h2)))

set_option maxHeartbeats 4000000 in
set_option maxRecDepth 100000 in
theorem am_M_checkStart_L102 (l : Launch) (hfl : l.flags = pinnedFlags ++ [noTraceFlag]) (D : va_G) (A : Nat → Prop) (σ MC MS : Nat) (h0 : xb_H) (Qr : xb_H → Prop) (h : xb_H) (hw : w_M_checkStart_L102 Qr h) : xb_am l D A σ 9 MC MS h0 (fun v h => v = none ∧ Qr h) (fun _ _ => False) y_M_checkStart.cls y_M_checkStart.name b_M_checkStart 7 ([] : List ExceptionTableEntry) none 102 [] [] h 0 0 := by
  unfold w_M_checkStart_L102 at hw
  intro p e s m args below meth c hC H locs ls k n hE hl hR hS hk hn
  obtain ⟨hx, hb, hown, hlocks, htab, hml, hr, hB, hA, hnm⟩ := id hC
  have hts := hB.1.1.at args
  exact xb_vret hx hb hr hlocks (show k ≤ MC by omega) (show n ≤ MS by omega) hE hR hS (xb_d D_M_checkStart 58 rfl) hw

set_option maxHeartbeats 4000000 in
set_option maxRecDepth 100000 in
theorem am_M_checkStart_L88 (l : Launch) (hfl : l.flags = pinnedFlags ++ [noTraceFlag]) (D : va_G) (A : Nat → Prop) (σ MC MS : Nat) (h0 : xb_H) (Qr : xb_H → Prop) (x0 : Nat) (x2 : Int32) (y0 : Int32) (h : xb_H) (hw : w_M_checkStart_L88 Qr x0 x2 y0 h) : xb_am l D A σ 9 MC MS h0 (fun v h => v = none ∧ Qr h) (fun _ _ => False) y_M_checkStart.cls y_M_checkStart.name b_M_checkStart 7 ([] : List ExceptionTableEntry) none 88 [(0, .ref x0), (2, .int x2)] [.int y0] h 0 0 := by
  unfold w_M_checkStart_L88 at hw
  intro p e s m args below meth c hC H locs ls k n hE hl hR hS hk hn
  obtain ⟨hx, hb, hown, hlocks, htab, hml, hr, hB, hA, hnm⟩ := id hC
  have hts := hB.1.1.at args
  refine lv_istore hx hb (xb_d D_M_checkStart 51 rfl) hl (by decide) rfl (fun ls hl => ?_)
  have hl : lv_has ls 7 [(6, .int y0), (0, .ref x0), (2, .int x2)] := hl
  refine lv_iload hx hb (xb_d D_M_checkStart 52 rfl) (lv_at hl 0 rfl) ?_
  refine lv_if_ne (tgt := 102) hx hb (xb_d D_M_checkStart 53 rfl) rfl (fun hc1 => ?_) (fun hc1 => ?_)
  · have hw := hw.1 hc1
    exact am_M_checkStart_L102 l hfl D A σ MC MS h0 Qr h hw p e s m args below meth c hC H locs ls k n hE (lv_sub hl [] rfl) hR hS (by omega) (by omega)
  · have hw := hw.2 hc1
    refine lv_aload_n hx hb (xb_d D_M_checkStart 54 rfl) rfl (lv_at hl 1 rfl) ?_
    refine lv_bipush (v := 21) hx hb (xb_d D_M_checkStart 55 rfl) (by decide) ?_
    refine lv_iload_n hx hb (xb_d D_M_checkStart 56 rfl) rfl (lv_at hl 2 rfl) ?_
    obtain ⟨hk2, hw⟩ := hw
    refine xb_call (D := D) (A := A) (σ := σ) (h := h) (d := 2) (mc := 0) (ms := 0) (maxL := 3) (rest := []) (av := [.ref x0, .int 21, .int x2]) (fun T hT X => by obtain ⟨cb, r1, r2, r3⟩ := xb_recv (ci := 8) hR rfl hk2 (by decide); exact xt_invV X hx hown (hts _ m_939052ad) (hts _ m_29cc8c73) (hts _ m_3b1ac7ab) (xt_sigOf (hts _ m_8f062ecd)) nm_M_fail (by rw [hT]; exact r1) r2 r3 (g := F0 m 99 ls [.int x2, .int 21, .ref x0]) rfl (argsL := [.int 21, .int x2]) (rest := []) rfl rfl (by rw [hb]; exact (xb_d D_M_checkStart 57 rfl))) (ok_M_fail l hfl D A σ x0 21 x2 h _ hw) (hml.trans hl.1.symm) (by rw [hb]; exact (xb_d D_M_checkStart 57 rfl)) (Nat.le_of_ble_eq_true rfl) (Nat.le_of_ble_eq_true rfl) (Nat.le_of_ble_eq_true rfl) (show k + 0 ≤ MC by omega) (show n + 0 ≤ MS by omega) (xt_w1 hB.1 m_8f062ecd) (xt_cdOf hB.1 m_8f062ecd) (hts _ m_d5ed7bed) hB hR hS hA (fun vv h3 H locs hq hEh3 hR hS => ?_) (fun XX ax h3 H locs hq hEh3 hex hR hS => ?_)
    · obtain ⟨rfl, hw⟩ := hq
      have hw := hw hEh3
      have hE := hE.tr hEh3
      refine W.eq (g2 := F0 m 102 ls []) rfl ?_
      exact am_M_checkStart_L102 l hfl D A σ MC MS h0 Qr h3 hw p e s m args below meth c hC H locs ls k n hE (lv_sub hl [] rfl) hR hS (by omega) (by omega)
    · exact False.elim hq

set_option maxHeartbeats 4000000 in
set_option maxRecDepth 100000 in
theorem am_M_checkStart_L87 (l : Launch) (hfl : l.flags = pinnedFlags ++ [noTraceFlag]) (D : va_G) (A : Nat → Prop) (σ MC MS : Nat) (h0 : xb_H) (Qr : xb_H → Prop) (x0 : Nat) (x2 : Int32) (h : xb_H) (hw : w_M_checkStart_L87 Qr x0 x2 h) : xb_am l D A σ 9 MC MS h0 (fun v h => v = none ∧ Qr h) (fun _ _ => False) y_M_checkStart.cls y_M_checkStart.name b_M_checkStart 7 ([] : List ExceptionTableEntry) none 87 [(0, .ref x0), (2, .int x2)] [] h 0 0 := by
  unfold w_M_checkStart_L87 at hw
  intro p e s m args below meth c hC H locs ls k n hE hl hR hS hk hn
  obtain ⟨hx, hb, hown, hlocks, htab, hml, hr, hB, hA, hnm⟩ := id hC
  have hts := hB.1.1.at args
  refine lv_iconst (v := 0) hx hb (xb_d D_M_checkStart 50 rfl) (by decide) ?_
  exact am_M_checkStart_L88 l hfl D A σ MC MS h0 Qr x0 x2 0 h hw p e s m args below meth c hC H locs ls k n hE (lv_sub hl [0, 1] rfl) hR hS (by omega) (by omega)

set_option maxHeartbeats 4000000 in
set_option maxRecDepth 100000 in
theorem ok_M_checkStart (l : Launch) (hfl : l.flags = pinnedFlags ++ [noTraceFlag]) (D : va_G) (A : Nat → Prop) (σ : Nat) (x0 : Nat) (x1 : Int32) (h : xb_H) (Qr : xb_H → Prop) (hw : w_M_checkStart x0 x1 h Qr) : xt_Met l y_M_checkStart [.code y_M_checkStart b_M_checkStart 7 none] (xb_rm 9 0 0) (xb_Pc D A σ h [.ref x0, .int x1]) (xb_Qc D A h (fun v h => v = none ∧ Qr h) (fun _ _ => False)) 0 0 A := by
  refine xb_ofAm (cc := b_M_checkStart) (by decide) (Nat.le_of_ble_eq_true rfl) ?_
  unfold w_M_checkStart at hw
  show xb_am l D A σ 9 0 0 h (fun v h => v = none ∧ Qr h) (fun _ _ => False) y_M_checkStart.cls y_M_checkStart.name b_M_checkStart 7 ([] : List ExceptionTableEntry) none 0 [(0, .ref x0), (1, .int x1)] [] h 0 0
  obtain ⟨MC, hMC⟩ : ∃ x, x = 0 := ⟨_, rfl⟩
  obtain ⟨MS, hMS⟩ : ∃ x, x = 0 := ⟨_, rfl⟩
  rw [show xb_am l D A σ 9 0 0 = xb_am l D A σ 9 MC MS by rw [hMC, hMS]]
  obtain ⟨h0, hh0⟩ : ∃ x, x = h := ⟨_, rfl⟩
  rw [show xb_am l D A σ 9 MC MS h = xb_am l D A σ 9 MC MS h0 by rw [hh0]]
  intro p e s m args below meth c hC H locs ls k n hE hl hR hS hk hn
  obtain ⟨hx, hb, hown, hlocks, htab, hml, hr, hB, hA, hnm⟩ := id hC
  have hts := hB.1.1.at args
  refine lv_aload_n hx hb (xb_d D_M_checkStart 0 rfl) rfl (lv_at hl 0 rfl) ?_
  refine lv_iload_n hx hb (xb_d D_M_checkStart 1 rfl) rfl (lv_at hl 1 rfl) ?_
  refine lv_bipush (v := 8) hx hb (xb_d D_M_checkStart 2 rfl) (by decide) ?_
  obtain ⟨hk1, hw⟩ := hw
  refine xb_call (D := D) (A := A) (σ := σ) (h := h) (d := 2) (mc := 0) (ms := 0) (maxL := 3) (rest := []) (av := [.ref x0, .int x1, .int 8]) (fun T hT X => by obtain ⟨cb, r1, r2, r3⟩ := xb_recv (ci := 8) hR rfl hk1 (by decide); exact xt_invV X hx hown (hts _ m_b47f62c2) (hts _ m_9f071faf) (hts _ m_e1bb5c84) (xt_sigOf (hts _ m_3a6212d6)) nm_M_manyOf (by rw [hT]; exact r1) r2 r3 (g := F0 m 4 ls [.int 8, .int x1, .ref x0]) rfl (argsL := [.int x1, .int 8]) (rest := []) rfl rfl (by rw [hb]; exact (xb_d D_M_checkStart 3 rfl))) (ok_M_manyOf l hfl D A σ x0 x1 8 h _ hw) (hml.trans hl.1.symm) (by rw [hb]; exact (xb_d D_M_checkStart 3 rfl)) (Nat.le_of_ble_eq_true rfl) (Nat.le_of_ble_eq_true rfl) (Nat.le_of_ble_eq_true rfl) (show k + 0 ≤ MC by omega) (show n + 0 ≤ MS by omega) (xt_w1 hB.1 m_3a6212d6) (xt_cdOf hB.1 m_3a6212d6) (hts _ m_d5ed7bed) hB hR hS hA (fun vv h2 H locs hq hEh2 hR hS => ?_) (fun XX ax h2 H locs hq hEh2 hex hR hS => ?_)
  · obtain ⟨r3, rfl, hw⟩ := hq
    have hw := hw hEh2
    have hE := hE.tr hEh2
    refine W.eq (g2 := F0 m 7 ls [.int r3]) rfl ?_
    refine lv_if_ne (tgt := 11) hx hb (xb_d D_M_checkStart 4 rfl) rfl (fun hc4 => ?_) (fun hc4 => ?_)
    · have hw := hw.1 hc4
      refine lv_aload_n hx hb (xb_d D_M_checkStart 6 rfl) rfl (lv_at hl 0 rfl) ?_
      refine lv_iload_n hx hb (xb_d D_M_checkStart 7 rfl) rfl (lv_at hl 1 rfl) ?_
      refine lv_bipush (v := 8) hx hb (xb_d D_M_checkStart 8 rfl) (by decide) ?_
      refine lv_iconst (v := 0) hx hb (xb_d D_M_checkStart 9 rfl) (by decide) ?_
      have hk1 : xb_k h2 x0 = 9 := hEh2.k hk1
      refine xb_call (D := D) (A := A) (σ := σ) (h := h2) (d := 2) (mc := 0) (ms := 0) (maxL := 4) (rest := []) (av := [.ref x0, .int x1, .int 8, .int 0]) (fun T hT X => by obtain ⟨cb, r1, r2, r3⟩ := xb_recv (ci := 8) hR rfl hk1 (by decide); exact xt_invV X hx hown (hts _ m_7f41753e) (hts _ m_8cdd7108) (hts _ m_e228318f) (xt_sigOf (hts _ m_89667ad5)) nm_M_placeOf (by rw [hT]; exact r1) r2 r3 (g := F0 m 16 ls [.int 0, .int 8, .int x1, .ref x0]) rfl (argsL := [.int x1, .int 8, .int 0]) (rest := []) rfl rfl (by rw [hb]; exact (xb_d D_M_checkStart 10 rfl))) (ok_M_placeOf l hfl D A σ x0 x1 8 0 h2 _ hw) (hml.trans hl.1.symm) (by rw [hb]; exact (xb_d D_M_checkStart 10 rfl)) (Nat.le_of_ble_eq_true rfl) (Nat.le_of_ble_eq_true rfl) (Nat.le_of_ble_eq_true rfl) (show k + 0 ≤ MC by omega) (show n + 0 ≤ MS by omega) (xt_w1 hB.1 m_89667ad5) (xt_cdOf hB.1 m_89667ad5) (hts _ m_d5ed7bed) hB hR hS hA (fun vv h5 H locs hq hEh5 hR hS => ?_) (fun XX ax h5 H locs hq hEh5 hex hR hS => ?_)
      · obtain ⟨r6, rfl, hw⟩ := hq
        have hw := hw hEh5
        have hE := hE.tr hEh5
        refine W.eq (g2 := F0 m 19 ls [.int r6]) rfl ?_
        refine lv_istore_n hx hb (xb_d D_M_checkStart 11 rfl) rfl hl (by decide) rfl (fun ls hl => ?_)
        have hl : lv_has ls 7 [(2, .int r6), (0, .ref x0), (1, .int x1)] := hl
        refine lv_aload_n hx hb (xb_d D_M_checkStart 12 rfl) rfl (lv_at hl 1 rfl) ?_
        refine lv_iload_n hx hb (xb_d D_M_checkStart 13 rfl) rfl (lv_at hl 2 rfl) ?_
        refine lv_iload_n hx hb (xb_d D_M_checkStart 14 rfl) rfl (lv_at hl 0 rfl) ?_
        have hk1 : xb_k h5 x0 = 9 := hEh5.k hk1
        refine xb_call (D := D) (A := A) (σ := σ) (h := h5) (d := 2) (mc := 0) (ms := 0) (maxL := 3) (rest := []) (av := [.ref x0, .int x1, .int r6]) (fun T hT X => by obtain ⟨cb, r1, r2, r3⟩ := xb_recv (ci := 8) hR rfl hk1 (by decide); exact xt_invV X hx hown (hts _ m_bb531879) (hts _ m_4a6cd4a0) (hts _ m_d1c31e3c) (xt_sigOf (hts _ m_48217fba)) nm_M_go (by rw [hT]; exact r1) r2 r3 (g := F0 m 23 ls [.int r6, .int x1, .ref x0]) rfl (argsL := [.int x1, .int r6]) (rest := []) rfl rfl (by rw [hb]; exact (xb_d D_M_checkStart 15 rfl))) (ok_M_go l hfl D A σ x0 x1 r6 h5 _ hw) (hml.trans hl.1.symm) (by rw [hb]; exact (xb_d D_M_checkStart 15 rfl)) (Nat.le_of_ble_eq_true rfl) (Nat.le_of_ble_eq_true rfl) (Nat.le_of_ble_eq_true rfl) (show k + 0 ≤ MC by omega) (show n + 0 ≤ MS by omega) (xt_w1 hB.1 m_48217fba) (xt_cdOf hB.1 m_48217fba) (hts _ m_d5ed7bed) hB hR hS hA (fun vv h7 H locs hq hEh7 hR hS => ?_) (fun XX ax h7 H locs hq hEh7 hex hR hS => ?_)
        · obtain ⟨rfl, hw⟩ := hq
          have hw := hw hEh7
          have hE := hE.tr hEh7
          refine W.eq (g2 := F0 m 26 ls []) rfl ?_
          refine lv_aload_n hx hb (xb_d D_M_checkStart 16 rfl) rfl (lv_at hl 1 rfl) ?_
          have hk1 : xb_k h7 x0 = 9 := hEh7.k hk1
          refine xb_call (D := D) (A := A) (σ := σ) (h := h7) (d := 4) (mc := 0) (ms := 0) (maxL := 5) (rest := []) (av := [.ref x0]) (fun T hT X => by obtain ⟨cb, r1, r2, r3⟩ := xb_recv (ci := 8) hR rfl hk1 (by decide); exact xt_invV X hx hown (hts _ m_e991293f) (hts _ m_385a74b3) (hts _ m_c9fbcd02) (xt_sigOf (hts _ m_1f53f210)) nm_M_count (by rw [hT]; exact r1) r2 r3 (g := F0 m 27 ls [.ref x0]) rfl (argsL := []) (rest := []) rfl rfl (by rw [hb]; exact (xb_d D_M_checkStart 17 rfl))) (ok_M_count l hfl D A σ x0 h7 _ hw) (hml.trans hl.1.symm) (by rw [hb]; exact (xb_d D_M_checkStart 17 rfl)) (Nat.le_of_ble_eq_true rfl) (Nat.le_of_ble_eq_true rfl) (Nat.le_of_ble_eq_true rfl) (show k + 0 ≤ MC by omega) (show n + 0 ≤ MS by omega) (xt_w1 hB.1 m_1f53f210) (xt_cdOf hB.1 m_1f53f210) (hts _ m_d5ed7bed) hB hR hS hA (fun vv h9 H locs hq hEh9 hR hS => ?_) (fun XX ax h9 H locs hq hEh9 hex hR hS => ?_)
          · obtain ⟨r10, rfl, hw⟩ := hq
            have hw := hw hEh9
            have hE := hE.tr hEh9
            refine W.eq (g2 := F0 m 30 ls [.long r10]) rfl ?_
            refine lv_lstore_n hx hb (xb_d D_M_checkStart 18 rfl) rfl hl (by decide) rfl (fun ls hl => ?_)
            have hl : lv_has ls 7 [(3, .long r10), (2, .int r6), (0, .ref x0), (1, .int x1)] := hl
            refine lv_lload_n hx hb (xb_d D_M_checkStart 19 rfl) rfl (lv_at hl 0 rfl) ?_
            refine lv_aload_n hx hb (xb_d D_M_checkStart 20 rfl) rfl (lv_at hl 2 rfl) ?_
            refine lv_iload_n hx hb (xb_d D_M_checkStart 21 rfl) rfl (lv_at hl 3 rfl) ?_
            refine lv_iconst (v := 0) hx hb (xb_d D_M_checkStart 22 rfl) (by decide) ?_
            have hk1 : xb_k h9 x0 = 9 := hEh9.k hk1
            refine xb_call (D := D) (A := A) (σ := σ) (h := h9) (d := 3) (mc := 0) (ms := 0) (maxL := 3) (rest := [.long r10]) (av := [.ref x0, .int x1, .int 0]) (fun T hT X => by obtain ⟨cb, r1, r2, r3⟩ := xb_recv (ci := 8) hR rfl hk1 (by decide); exact xt_invV X hx hown (hts _ m_940fb65e) (hts _ m_342c0f16) (hts _ m_c0324d76) (xt_sigOf (hts _ m_feaaa075)) nm_M_total (by rw [hT]; exact r1) r2 r3 (g := F0 m 35 ls [.int 0, .int x1, .ref x0, .long r10]) rfl (argsL := [.int x1, .int 0]) (rest := [.long r10]) rfl rfl (by rw [hb]; exact (xb_d D_M_checkStart 23 rfl))) (ok_M_total l hfl D A σ x0 x1 0 h9 _ hw) (hml.trans hl.1.symm) (by rw [hb]; exact (xb_d D_M_checkStart 23 rfl)) (Nat.le_of_ble_eq_true rfl) (Nat.le_of_ble_eq_true rfl) (Nat.le_of_ble_eq_true rfl) (show k + 0 ≤ MC by omega) (show n + 0 ≤ MS by omega) (xt_w1 hB.1 m_feaaa075) (xt_cdOf hB.1 m_feaaa075) (hts _ m_d5ed7bed) hB hR hS hA (fun vv h11 H locs hq hEh11 hR hS => ?_) (fun XX ax h11 H locs hq hEh11 hex hR hS => ?_)
            · obtain ⟨r12, rfl, hw⟩ := hq
              have hw := hw hEh11
              have hE := hE.tr hEh11
              refine W.eq (g2 := F0 m 38 ls [.long r12, .long r10]) rfl ?_
              refine xb_lc_lt (tgt := 52) hx hb (xb_d D_M_checkStart 24 rfl) (xb_d D_M_checkStart 25 rfl) rfl (fun hc13 => ?_) (fun hc13 => ?_)
              · have hw := hw.1 hc13
                refine lv_aload_n hx hb (xb_d D_M_checkStart 31 rfl) rfl (lv_at hl 2 rfl) ?_
                refine lv_iload_n hx hb (xb_d D_M_checkStart 32 rfl) rfl (lv_at hl 3 rfl) ?_
                refine lv_lload_n hx hb (xb_d D_M_checkStart 33 rfl) rfl (lv_at hl 0 rfl) ?_
                refine lv_l2i hx hb (xb_d D_M_checkStart 34 rfl) rfl ?_
                have hk1 : xb_k h11 x0 = 9 := hEh11.k hk1
                refine xb_call (D := D) (A := A) (σ := σ) (h := h11) (d := 8) (mc := 0) (ms := 0) (maxL := 4) (rest := []) (av := [.ref x0, .int x1, .int (Int64.toInt32 r10)]) (fun T hT X => by obtain ⟨cb, r1, r2, r3⟩ := xb_recv (ci := 8) hR rfl hk1 (by decide); exact xt_invV X hx hown (hts _ m_1d203cc1) (hts _ m_0a0483ac) (hts _ m_42615324) (xt_sigOf (hts _ m_44f87caf)) nm_M_typeOf (by rw [hT]; exact r1) r2 r3 (g := F0 m 56 ls [.int (Int64.toInt32 r10), .int x1, .ref x0]) rfl (argsL := [.int x1, .int (Int64.toInt32 r10)]) (rest := []) rfl rfl (by rw [hb]; exact (xb_d D_M_checkStart 35 rfl))) (ok_M_typeOf l hfl D A σ x0 x1 (Int64.toInt32 r10) h11 _ hw) (hml.trans hl.1.symm) (by rw [hb]; exact (xb_d D_M_checkStart 35 rfl)) (Nat.le_of_ble_eq_true rfl) (Nat.le_of_ble_eq_true rfl) (Nat.le_of_ble_eq_true rfl) (show k + 0 ≤ MC by omega) (show n + 0 ≤ MS by omega) (xt_w1 hB.1 m_44f87caf) (xt_cdOf hB.1 m_44f87caf) (hts _ m_d5ed7bed) hB hR hS hA (fun vv h14 H locs hq hEh14 hR hS => ?_) (fun XX ax h14 H locs hq hEh14 hex hR hS => ?_)
                · obtain ⟨r15, rfl, hw⟩ := hq
                  have hw := hw hEh14
                  have hE := hE.tr hEh14
                  refine W.eq (g2 := F0 m 59 ls [.int r15]) rfl ?_
                  refine lv_istore hx hb (xb_d D_M_checkStart 36 rfl) hl (by decide) rfl (fun ls hl => ?_)
                  have hl : lv_has ls 7 [(5, .int r15), (3, .long r10), (2, .int r6), (0, .ref x0), (1, .int x1)] := hl
                  refine lv_aload_n hx hb (xb_d D_M_checkStart 37 rfl) rfl (lv_at hl 3 rfl) ?_
                  refine lv_iload_n hx hb (xb_d D_M_checkStart 38 rfl) rfl (lv_at hl 4 rfl) ?_
                  refine lv_iload hx hb (xb_d D_M_checkStart 39 rfl) (lv_at hl 0 rfl) ?_
                  have hk1 : xb_k h14 x0 = 9 := hEh14.k hk1
                  refine xb_call (D := D) (A := A) (σ := σ) (h := h14) (d := 5) (mc := 0) (ms := 0) (maxL := 3) (rest := []) (av := [.ref x0, .int x1, .int r15]) (fun T hT X => by obtain ⟨cb, r1, r2, r3⟩ := xb_recv (ci := 8) hR rfl hk1 (by decide); exact xt_invV X hx hown (hts _ m_4fd64ef0) (hts _ m_2eb48211) (hts _ m_ff1f4a94) (xt_sigOf (hts _ m_2faa0c5c)) nm_M_parameters (by rw [hT]; exact r1) r2 r3 (g := F0 m 65 ls [.int r15, .int x1, .ref x0]) rfl (argsL := [.int x1, .int r15]) (rest := []) rfl rfl (by rw [hb]; exact (xb_d D_M_checkStart 40 rfl))) (ok_M_parameters l hfl D A σ x0 x1 r15 h14 _ hw) (hml.trans hl.1.symm) (by rw [hb]; exact (xb_d D_M_checkStart 40 rfl)) (Nat.le_of_ble_eq_true rfl) (Nat.le_of_ble_eq_true rfl) (Nat.le_of_ble_eq_true rfl) (show k + 0 ≤ MC by omega) (show n + 0 ≤ MS by omega) (xt_w1 hB.1 m_2faa0c5c) (xt_cdOf hB.1 m_2faa0c5c) (hts _ m_d5ed7bed) hB hR hS hA (fun vv h16 H locs hq hEh16 hR hS => ?_) (fun XX ax h16 H locs hq hEh16 hex hR hS => ?_)
                  · obtain ⟨r17, rfl, hw⟩ := hq
                    have hw := hw hEh16
                    have hE := hE.tr hEh16
                    refine W.eq (g2 := F0 m 68 ls [.int r17]) rfl ?_
                    refine lv_if_ne (tgt := 87) hx hb (xb_d D_M_checkStart 41 rfl) rfl (fun hc18 => ?_) (fun hc18 => ?_)
                    · have hw := hw.1 hc18
                      exact am_M_checkStart_L87 l hfl D A σ MC MS h0 Qr x0 r6 h16 hw p e s m args below meth c hC H locs ls k n hE (lv_sub hl [3, 2] rfl) hR hS (by omega) (by omega)
                    · have hw := hw.2 hc18
                      refine lv_aload_n hx hb (xb_d D_M_checkStart 42 rfl) rfl (lv_at hl 3 rfl) ?_
                      refine lv_iload_n hx hb (xb_d D_M_checkStart 43 rfl) rfl (lv_at hl 4 rfl) ?_
                      refine lv_iload hx hb (xb_d D_M_checkStart 44 rfl) (lv_at hl 0 rfl) ?_
                      have hk1 : xb_k h16 x0 = 9 := hEh16.k hk1
                      refine xb_call (D := D) (A := A) (σ := σ) (h := h16) (d := 6) (mc := 0) (ms := 0) (maxL := 4) (rest := []) (av := [.ref x0, .int x1, .int r15]) (fun T hT X => by obtain ⟨cb, r1, r2, r3⟩ := xb_recv (ci := 8) hR rfl hk1 (by decide); exact xt_invV X hx hown (hts _ m_bd023100) (hts _ m_d08a9c75) (hts _ m_9ac7cfcb) (xt_sigOf (hts _ m_9dee8e5c)) nm_M_resultOf (by rw [hT]; exact r1) r2 r3 (g := F0 m 75 ls [.int r15, .int x1, .ref x0]) rfl (argsL := [.int x1, .int r15]) (rest := []) rfl rfl (by rw [hb]; exact (xb_d D_M_checkStart 45 rfl))) (ok_M_resultOf l hfl D A σ x0 x1 r15 h16 _ hw) (hml.trans hl.1.symm) (by rw [hb]; exact (xb_d D_M_checkStart 45 rfl)) (Nat.le_of_ble_eq_true rfl) (Nat.le_of_ble_eq_true rfl) (Nat.le_of_ble_eq_true rfl) (show k + 0 ≤ MC by omega) (show n + 0 ≤ MS by omega) (xt_w1 hB.1 m_9dee8e5c) (xt_cdOf hB.1 m_9dee8e5c) (hts _ m_d5ed7bed) hB hR hS hA (fun vv h19 H locs hq hEh19 hR hS => ?_) (fun XX ax h19 H locs hq hEh19 hex hR hS => ?_)
                      · obtain ⟨r20, rfl, hw⟩ := hq
                        have hw := hw hEh19
                        have hE := hE.tr hEh19
                        refine W.eq (g2 := F0 m 78 ls [.int r20]) rfl ?_
                        refine lv_bipush (v := 64) hx hb (xb_d D_M_checkStart 46 rfl) (by decide) ?_
                        refine lv_icmp_ne (tgt := 87) hx hb (xb_d D_M_checkStart 47 rfl) rfl (fun hc21 => ?_) (fun hc21 => ?_)
                        · have hw := hw.1 hc21
                          exact am_M_checkStart_L87 l hfl D A σ MC MS h0 Qr x0 r6 h19 hw p e s m args below meth c hC H locs ls k n hE (lv_sub hl [3, 2] rfl) hR hS (by omega) (by omega)
                        · have hw := hw.2 hc21
                          refine lv_iconst (v := 1) hx hb (xb_d D_M_checkStart 48 rfl) (by decide) ?_
                          refine lv_goto (tgt := 88) hx hb (xb_d D_M_checkStart 49 rfl) rfl ?_
                          exact am_M_checkStart_L88 l hfl D A σ MC MS h0 Qr x0 r6 1 h19 hw p e s m args below meth c hC H locs ls k n hE (lv_sub hl [3, 2] rfl) hR hS (by omega) (by omega)
                      · exact False.elim hq
                  · exact False.elim hq
                · exact False.elim hq
              · have hw := hw.2 hc13
                refine lv_aload_n hx hb (xb_d D_M_checkStart 26 rfl) rfl (lv_at hl 2 rfl) ?_
                refine lv_bipush (v := 20) hx hb (xb_d D_M_checkStart 27 rfl) (by decide) ?_
                refine lv_iload_n hx hb (xb_d D_M_checkStart 28 rfl) rfl (lv_at hl 1 rfl) ?_
                have hk1 : xb_k h11 x0 = 9 := hEh11.k hk1
                refine xb_call (D := D) (A := A) (σ := σ) (h := h11) (d := 2) (mc := 0) (ms := 0) (maxL := 3) (rest := []) (av := [.ref x0, .int 20, .int r6]) (fun T hT X => by obtain ⟨cb, r1, r2, r3⟩ := xb_recv (ci := 8) hR rfl hk1 (by decide); exact xt_invV X hx hown (hts _ m_939052ad) (hts _ m_29cc8c73) (hts _ m_3b1ac7ab) (xt_sigOf (hts _ m_8f062ecd)) nm_M_fail (by rw [hT]; exact r1) r2 r3 (g := F0 m 46 ls [.int r6, .int 20, .ref x0]) rfl (argsL := [.int 20, .int r6]) (rest := []) rfl rfl (by rw [hb]; exact (xb_d D_M_checkStart 29 rfl))) (ok_M_fail l hfl D A σ x0 20 r6 h11 _ hw) (hml.trans hl.1.symm) (by rw [hb]; exact (xb_d D_M_checkStart 29 rfl)) (Nat.le_of_ble_eq_true rfl) (Nat.le_of_ble_eq_true rfl) (Nat.le_of_ble_eq_true rfl) (show k + 0 ≤ MC by omega) (show n + 0 ≤ MS by omega) (xt_w1 hB.1 m_8f062ecd) (xt_cdOf hB.1 m_8f062ecd) (hts _ m_d5ed7bed) hB hR hS hA (fun vv h22 H locs hq hEh22 hR hS => ?_) (fun XX ax h22 H locs hq hEh22 hex hR hS => ?_)
                · obtain ⟨rfl, hw⟩ := hq
                  have hw := hw hEh22
                  have hE := hE.tr hEh22
                  refine W.eq (g2 := F0 m 49 ls []) rfl ?_
                  refine lv_goto (tgt := 102) hx hb (xb_d D_M_checkStart 30 rfl) rfl ?_
                  exact am_M_checkStart_L102 l hfl D A σ MC MS h0 Qr h22 hw p e s m args below meth c hC H locs ls k n hE (lv_sub hl [] rfl) hR hS (by omega) (by omega)
                · exact False.elim hq
            · exact False.elim hq
          · exact False.elim hq
        · exact False.elim hq
      · exact False.elim hq
    · have hw := hw.2 hc4
      exact xb_vret hx hb hr hlocks (show k ≤ MC by omega) (show n ≤ MS by omega) hE hR hS (xb_d D_M_checkStart 5 rfl) hw
  · exact False.elim hq

