def w_H_instantiate_L77 (σ : Nat) (Qr : Int32 → xb_H → Nat → Nat → Prop) (Qt : String → xb_H → Nat → Nat → Prop) (x3 : Int32) (h : xb_H) (bc : Nat) (bs : Nat) : Prop :=
    Qr x3 h bc bs

def w_H_instantiate (σ : Nat) (x0 : Nat) (x1 : Int32) (h : xb_H) (bc : Nat) (bs : Nat) (Qr : Int32 → xb_H → Nat → Nat → Prop) (Qt : String → xb_H → Nat → Nat → Prop) : Prop :=
    xb_k h x0 = 1 ∧ w_H_moduleNumbered x0 x1 h bc bs (fun (r3 : Nat) (h2 : xb_H) (bc3 bs3 : Nat) => xb_ext h h2 → w_H_refuseWhileUnderWay x0 h2 bc3 bs3 (fun (h4 : xb_H) (bc5 bs5 : Nat) => xb_ext h2 h4 → ∃ b6 : Nat, (xb_r h4 x0 6) = some b6 ∧ xb_k h4 b6 = 7 ∧ w_World_link σ b6 r3 h4 bc5 bs5 (fun (r9 : Int32) (h8 : xb_H) (bc9 bs9 : Nat) => xb_ext h4 h8 → ∃ b10 : Nat, (xb_r h8 x0 6) = some b10 ∧ xb_k h8 b10 = 7 ∧ ∀ h12 : xb_H, h12 = xb_I h8 x0 9 (xb_i h8 b10 7) → ∃ b13 : Nat, (xb_r h12 x0 6) = some b13 ∧ xb_k h12 b13 = 7 ∧ ∀ h15 : xb_H, h15 = xb_I h12 x0 10 (xb_i h12 b13 8) → ((r9 = ((-1) : Int32) → w_H_instantiate_L77 σ Qr Qt r9 h15 bc9 bs9) ∧ (¬ r9 = ((-1) : Int32) → xb_k h15 r3 = 3 ∧ (((xb_i h15 r3 15) = ((-1) : Int32) → w_H_instantiate_L77 σ Qr Qt r9 h15 bc9 bs9) ∧ (¬ (xb_i h15 r3 15) = ((-1) : Int32) → ∃ b19 : Nat, (xb_r h15 x0 7) = some b19 ∧ ∃ b20 : Nat, (xb_r h15 x0 6) = some b20 ∧ xb_k h15 b20 = 7 ∧ ∃ b22 : Nat, (xb_r h15 b20 0) = some b22 ∧ xb_k h15 b22 = 105 ∧ vp_in r9 (xb_n h15 b22) ∧ ∃ b25 : Nat, (xb_r h15 b22 (Int32.toNatClampNeg r9)) = some b25 ∧ xb_k h15 b25 = 11 ∧ w_Instance_functionId b25 (xb_i h15 r3 15) h15 (fun (r28 : Int32) (h27 : xb_H) => xb_ext h15 h27 → xb_k h27 b19 = 8 ∧ w_Machine_begin b19 r28 h27 (fun (h30 : xb_H) => xb_ext h27 h30 → w_H_instantiate_L77 σ Qr Qt r9 h30 bc9 bs9)))))))) Qt) Qt


def w_Checker_checkAll_L77 (Qr : xb_H → Nat → Nat → Prop) (Qt : String → xb_H → Nat → Nat → Prop) : Nat → Nat → Int32 → xb_H → Nat → Nat → Prop
  | 0, _, _, _, _, _ => False
  | n9 + 1, x0, x2, h, bc, bs =>
    xb_k h x0 = 5 ∧ ∃ b2 : Nat, (xb_r h x0 0) = some b2 ∧ xb_k h b2 = 3 ∧ ∃ b4 : Nat, (xb_r h b2 11) = some b4 ∧ xb_k h b4 = 2 ∧ w_Row_lines b4 h (fun (r7 : Int32) (h6 : xb_H) => xb_ext h h6 → ((r7 ≤ x2 → Qr h6 bc bs) ∧ (¬ r7 ≤ x2 → w_Checker_checkBody x0 x2 h6 bc bs (fun (h9 : xb_H) (bc10 bs10 : Nat) => xb_ext h6 h9 → w_Checker_checkAll_L77 Qr Qt n9 x0 (x2 + 1) h9 bc10 bs10) Qt)))

def w_Checker_checkAll_L47 (Qr : xb_H → Nat → Nat → Prop) (Qt : String → xb_H → Nat → Nat → Prop) (x0 : Nat) (h : xb_H) (bc : Nat) (bs : Nat) : Prop :=
    xb_k h x0 = 5 ∧ w_Checker_checkTypes x0 h bc bs (fun (h2 : xb_H) (bc3 bs3 : Nat) => xb_ext h h2 → w_Checker_checkImports x0 h2 bc3 bs3 (fun (h4 : xb_H) (bc5 bs5 : Nat) => xb_ext h2 h4 → w_Checker_checkOwn x0 h4 bc5 bs5 (fun (h6 : xb_H) (bc7 bs7 : Nat) => xb_ext h4 h6 → w_Checker_checkExports x0 h6 bc7 bs7 (fun (h8 : xb_H) (bc9 bs9 : Nat) => xb_ext h6 h8 → w_Checker_checkStart x0 h8 bc9 bs9 (fun (h10 : xb_H) (bc11 bs11 : Nat) => xb_ext h8 h10 → w_Checker_checkElements x0 h10 bc11 bs11 (fun (h12 : xb_H) (bc13 bs13 : Nat) => xb_ext h10 h12 → w_Checker_checkData x0 h12 bc13 bs13 (fun (h14 : xb_H) (bc15 bs15 : Nat) => xb_ext h12 h14 → (∃ n8 : Nat, w_Checker_checkAll_L77 Qr Qt n8 x0 0 h14 bc15 bs15)) Qt) Qt) Qt) Qt) Qt) Qt) Qt

def w_Checker_checkAll (x0 : Nat) (x1 : Nat) (h : xb_H) (bc : Nat) (bs : Nat) (Qr : xb_H → Nat → Nat → Prop) (Qt : String → xb_H → Nat → Nat → Prop) : Prop :=
    xb_k h x0 = 5 ∧ ∀ h2 : xb_H, h2 = xb_P h x0 0 (some x1) → xb_k h2 x1 = 3 ∧ ∃ b4 : Nat, (xb_r h2 x1 0) = some b4 ∧ ∀ h5 : xb_H, h5 = xb_P h2 x0 1 (some b4) → ∃ b6 : Nat, (xb_r h5 x1 1) = some b6 ∧ ∀ h7 : xb_H, h7 = xb_P h5 x0 2 (some b6) → ∃ b8 : Nat, (xb_r h7 x0 3) = some b8 ∧ xb_k h7 b8 = 100 ∧ ∃ b10 : Nat, (xb_r h7 x0 1) = some b10 ∧ xb_k h7 b10 = 100 ∧ (((nI (xb_n h7 b10)) < (nI (xb_n h7 b8)) → w_Checker_checkAll_L47 Qr Qt x0 h7 bc bs) ∧ (¬ (nI (xb_n h7 b10)) < (nI (xb_n h7 b8)) → ∃ b13 : Nat, (xb_r h7 x0 1) = some b13 ∧ xb_k h7 b13 = 100 ∧ ¬ ((nI (xb_n h7 b13)) + 1) < 0 ∧ (Int32.toNatClampNeg ((nI (xb_n h7 b13)) + 1)) * 1 ≤ 536870912 ∧ 1 ≤ bc ∧ (Int32.toNatClampNeg ((nI (xb_n h7 b13)) + 1)) ≤ bs ∧ ∀ q15 : Nat, xb_k h7 q15 = 0 → ∀ h16 : xb_H, h16 = xb_new h7 q15 100 (Int32.toNatClampNeg ((nI (xb_n h7 b13)) + 1)) → ∀ h18 : xb_H, h18 = xb_P h16 x0 3 (some q15) → w_Checker_checkAll_L47 Qr Qt x0 h18 (bc - 1) (bs - (Int32.toNatClampNeg ((nI (xb_n h7 b13)) + 1)))))


def w_Machine_step_L188 (Qr : xb_H → Nat → Nat → Prop) (h : xb_H) (bc : Nat) (bs : Nat) : Prop :=
    Qr h bc bs

def w_Machine_step (x0 : Nat) (h : xb_H) (bc : Nat) (bs : Nat) (Qr : xb_H → Nat → Nat → Prop) : Prop :=
    xb_k h x0 = 8 ∧ ∃ b2 : Nat, (xb_r h x0 13) = some b2 ∧ xb_k h b2 = 100 ∧ vp_in (xb_i h x0 15) (xb_n h b2) ∧ ∀ v5 : Int32, v5 = ((xb_i h b2 (Int32.toNatClampNeg (xb_i h x0 15))) &&& 255) → ((v5 < (167 : Int32) → ((v5 < (139 : Int32) → ((v5 < (69 : Int32) → ((v5 < (65 : Int32) → ((v5 < (63 : Int32) → ((v5 < (40 : Int32) → ((v5 < (32 : Int32) → w_Machine_control x0 v5 h bc bs (fun (h13 : xb_H) (bc14 bs14 : Nat) => xb_ext h h13 → w_Machine_step_L188 Qr h13 bc14 bs14)) ∧ (¬ v5 < (32 : Int32) → w_Machine_useNamed x0 v5 h (fun (h15 : xb_H) => xb_ext h h15 → ∃ b17 : Nat, (xb_r h15 x0 14) = some b17 ∧ xb_k h15 b17 = 102 ∧ vp_in (xb_i h15 x0 15) (xb_n h15 b17) ∧ ∀ h20 : xb_H, h20 = xb_I h15 x0 15 (xb_i h15 b17 (Int32.toNatClampNeg (xb_i h15 x0 15))) → w_Machine_step_L188 Qr h20 bc bs)))) ∧ (¬ v5 < (40 : Int32) → w_Machine_useMemory x0 v5 h (fun (h21 : xb_H) => xb_ext h h21 → w_Machine_step_L188 Qr h21 bc bs)))) ∧ (¬ v5 < (63 : Int32) → w_Machine_sizeMemory x0 v5 h bc bs (fun (h23 : xb_H) (bc24 bs24 : Nat) => xb_ext h h23 → w_Machine_step_L188 Qr h23 bc24 bs24)))) ∧ (¬ v5 < (65 : Int32) → ∃ b25 : Nat, (xb_r h x0 12) = some b25 ∧ xb_k h b25 = 11 ∧ ∃ b27 : Nat, (xb_r h b25 1) = some b27 ∧ xb_k h b27 = 3 ∧ w_StackModule_constantAt b27 (xb_i h x0 15) h (fun (r30 : Int64) (h29 : xb_H) => xb_ext h h29 → w_Machine_putValue x0 r30 h29 (fun (h31 : xb_H) => xb_ext h29 h31 → ∃ b33 : Nat, (xb_r h31 x0 14) = some b33 ∧ xb_k h31 b33 = 102 ∧ vp_in (xb_i h31 x0 15) (xb_n h31 b33) ∧ ∀ h36 : xb_H, h36 = xb_I h31 x0 15 (xb_i h31 b33 (Int32.toNatClampNeg (xb_i h31 x0 15))) → w_Machine_step_L188 Qr h36 bc bs))))) ∧ (¬ v5 < (69 : Int32) → w_Machine_reckonWhole x0 v5 h (fun (h37 : xb_H) => xb_ext h h37 → ∀ h39 : xb_H, h39 = xb_I h37 x0 15 ((xb_i h37 x0 15) + 1) → w_Machine_step_L188 Qr h39 bc bs)))) ∧ (¬ v5 < (139 : Int32) → w_Machine_reckonFloating x0 v5 h (fun (h40 : xb_H) => xb_ext h h40 → ∀ h42 : xb_H, h42 = xb_I h40 x0 15 ((xb_i h40 x0 15) + 1) → w_Machine_step_L188 Qr h42 bc bs)))) ∧ (¬ v5 < (167 : Int32) → w_Machine_convert x0 v5 h (fun (h43 : xb_H) => xb_ext h h43 → ∀ h45 : xb_H, h45 = xb_I h43 x0 15 ((xb_i h43 x0 15) + 1) → w_Machine_step_L188 Qr h45 bc bs)))


def w_Reader_readAll_L245 (Qr : xb_H → Nat → Nat → Prop) (Qt : String → xb_H → Nat → Nat → Prop) (h : xb_H) (bc : Nat) (bs : Nat) : Prop :=
    Qr h bc bs

def w_Reader_readAll_L198 (Qr : xb_H → Nat → Nat → Prop) (Qt : String → xb_H → Nat → Nat → Prop) (x0 : Nat) (h : xb_H) (bc : Nat) (bs : Nat) : Prop :=
    xb_k h x0 = 4 ∧ ∃ b2 : Nat, (xb_r h x0 0) = some b2 ∧ xb_k h b2 = 3 ∧ ∃ b4 : Nat, (xb_r h b2 11) = some b4 ∧ xb_k h b4 = 2 ∧ w_Row_lines b4 h (fun (r7 : Int32) (h6 : xb_H) => xb_ext h h6 → ∃ b8 : Nat, (xb_r h6 x0 0) = some b8 ∧ xb_k h6 b8 = 3 ∧ ∃ b10 : Nat, (xb_r h6 b8 4) = some b10 ∧ xb_k h6 b10 = 2 ∧ w_Row_lines b10 h6 (fun (r13 : Int32) (h12 : xb_H) => xb_ext h6 h12 → ∃ b14 : Nat, (xb_r h12 x0 0) = some b14 ∧ xb_k h12 b14 = 3 ∧ ∃ b16 : Nat, (xb_r h12 b14 14) = some b16 ∧ xb_k h12 b16 = 102 ∧ vp_in 0 (xb_n h12 b16) ∧ ((r7 = (r13 - (xb_i h12 b16 0)) → w_Reader_readAll_L245 Qr Qt h12 bc bs) ∧ (¬ r7 = (r13 - (xb_i h12 b16 0)) → ∃ b20 : Nat, (xb_r h12 x0 0) = some b20 ∧ ∃ b21 : Nat, (xb_r h12 x0 1) = some b21 ∧ xb_k h12 b21 = 100 ∧ xb_k h12 b20 = 3 ∧ w_StackModule_fail b20 8 (nI (xb_n h12 b21)) h12 bc bs (fun (h24 : xb_H) (bc25 bs25 : Nat) => xb_ext h12 h24 → w_Reader_readAll_L245 Qr Qt h24 bc25 bs25) Qt))))

def w_Reader_readAll_L169 (K90 : Nat → Int32 → Int32 → xb_H → Nat → Nat → Prop) (Qr : xb_H → Nat → Nat → Prop) (Qt : String → xb_H → Nat → Nat → Prop) (x0 : Nat) (x2 : Int32) (x3 : Int32) (x4 : Int32) (h : xb_H) (bc : Nat) (bs : Nat) : Prop :=
    ∀ v1 : Int32, v1 = (if x2 < x4 then x4 else x2) → xb_k h x0 = 4 ∧ ∀ h3 : xb_H, h3 = xb_I h x0 3 ((xb_i h x0 3) + 1) → w_Reader_readSection x0 x4 h3 bc bs (fun (h4 : xb_H) (bc5 bs5 : Nat) => xb_ext h3 h4 → K90 x0 v1 (x3 + 1) h4 bc5 bs5) Qt

def w_Reader_readAll_L145 (K90 : Nat → Int32 → Int32 → xb_H → Nat → Nat → Prop) (Qr : xb_H → Nat → Nat → Prop) (Qt : String → xb_H → Nat → Nat → Prop) (x0 : Nat) (x2 : Int32) (x3 : Int32) (x4 : Int32) (h : xb_H) (bc : Nat) (bs : Nat) : Prop :=
    ((x4 = (0 : Int32) → w_Reader_readAll_L169 K90 Qr Qt x0 x2 x3 x4 h bc bs) ∧ (¬ x4 = (0 : Int32) → ((x2 < x4 → w_Reader_readAll_L169 K90 Qr Qt x0 x2 x3 x4 h bc bs) ∧ (¬ x2 < x4 → xb_k h x0 = 4 ∧ ∃ b4 : Nat, (xb_r h x0 0) = some b4 ∧ xb_k h b4 = 3 ∧ w_StackModule_fail b4 6 (xb_i h x0 3) h bc bs (fun (h6 : xb_H) (bc7 bs7 : Nat) => xb_ext h h6 → w_Reader_readAll_L169 K90 Qr Qt x0 x2 x3 x4 h6 bc7 bs7) Qt))))

def w_Reader_readAll_L90 (Qr : xb_H → Nat → Nat → Prop) (Qt : String → xb_H → Nat → Nat → Prop) : Nat → Nat → Int32 → Int32 → xb_H → Nat → Nat → Prop
  | 0, _, _, _, _, _, _ => False
  | n9 + 1, x0, x2, x3, h, bc, bs =>
    xb_k h x0 = 4 ∧ ∃ b2 : Nat, (xb_r h x0 1) = some b2 ∧ xb_k h b2 = 100 ∧ (((nI (xb_n h b2)) ≤ x3 → w_Reader_readAll_L198 Qr Qt x0 h bc bs) ∧ (¬ (nI (xb_n h b2)) ≤ x3 → ∃ b5 : Nat, (xb_r h x0 1) = some b5 ∧ xb_k h b5 = 100 ∧ (((nI (xb_n h b5)) ≤ (xb_i h x0 3) → w_Reader_readAll_L198 Qr Qt x0 h bc bs) ∧ (¬ (nI (xb_n h b5)) ≤ (xb_i h x0 3) → ∃ b8 : Nat, (xb_r h x0 1) = some b8 ∧ xb_k h b8 = 100 ∧ vp_in (xb_i h x0 3) (xb_n h b8) ∧ ∀ v11 : Int32, v11 = ((xb_i h b8 (Int32.toNatClampNeg (xb_i h x0 3))) &&& 255) → ((v11 ≤ (11 : Int32) → w_Reader_readAll_L145 (w_Reader_readAll_L90 Qr Qt n9) Qr Qt x0 x2 x3 v11 h bc bs) ∧ (¬ v11 ≤ (11 : Int32) → ∃ b13 : Nat, (xb_r h x0 0) = some b13 ∧ xb_k h b13 = 3 ∧ w_StackModule_fail b13 5 (xb_i h x0 3) h bc bs (fun (h15 : xb_H) (bc16 bs16 : Nat) => xb_ext h h15 → w_Reader_readAll_L145 (w_Reader_readAll_L90 Qr Qt n9) Qr Qt x0 x2 x3 v11 h15 bc16 bs16) Qt))))))

def w_Reader_readAll_L72 (K32 : Nat → Int32 → xb_H → Nat → Nat → Prop) (Qr : xb_H → Nat → Nat → Prop) (Qt : String → xb_H → Nat → Nat → Prop) (x0 : Nat) (x2 : Int32) (h : xb_H) (bc : Nat) (bs : Nat) : Prop :=
    K32 x0 (x2 + 1) h bc bs

def w_Reader_readAll_L63 (K32 : Nat → Int32 → xb_H → Nat → Nat → Prop) (Qr : xb_H → Nat → Nat → Prop) (Qt : String → xb_H → Nat → Nat → Prop) (x0 : Nat) (x2 : Int32) (h : xb_H) (bc : Nat) (bs : Nat) : Prop :=
    xb_k h x0 = 4 ∧ ∃ b2 : Nat, (xb_r h x0 0) = some b2 ∧ xb_k h b2 = 3 ∧ w_StackModule_fail b2 1 x2 h bc bs (fun (h4 : xb_H) (bc5 bs5 : Nat) => xb_ext h h4 → w_Reader_readAll_L72 K32 Qr Qt x0 x2 h4 bc5 bs5) Qt

def w_Reader_readAll_L32 (Qr : xb_H → Nat → Nat → Prop) (Qt : String → xb_H → Nat → Nat → Prop) : Nat → Nat → Int32 → xb_H → Nat → Nat → Prop
  | 0, _, _, _, _, _ => False
  | n9 + 1, x0, x2, h, bc, bs =>
    (((8 : Int32) ≤ x2 → xb_k h x0 = 4 ∧ ∀ h5 : xb_H, h5 = xb_I h x0 3 8 → (∃ n8 : Nat, w_Reader_readAll_L90 Qr Qt n8 x0 0 0 h5 bc bs)) ∧ (¬ (8 : Int32) ≤ x2 → xb_k h x0 = 4 ∧ ∃ b7 : Nat, (xb_r h x0 1) = some b7 ∧ xb_k h b7 = 100 ∧ (((nI (xb_n h b7)) ≤ x2 → w_Reader_readAll_L63 (w_Reader_readAll_L32 Qr Qt n9) Qr Qt x0 x2 h bc bs) ∧ (¬ (nI (xb_n h b7)) ≤ x2 → ∃ b10 : Nat, (xb_r h x0 1) = some b10 ∧ xb_k h b10 = 100 ∧ vp_in x2 (xb_n h b10) ∧ vp_in x2 8 ∧ (((xb_i h b10 (Int32.toNatClampNeg x2)) = (xt_mg (Int32.toNatClampNeg x2)) → w_Reader_readAll_L72 (w_Reader_readAll_L32 Qr Qt n9) Qr Qt x0 x2 h bc bs) ∧ (¬ (xb_i h b10 (Int32.toNatClampNeg x2)) = (xt_mg (Int32.toNatClampNeg x2)) → w_Reader_readAll_L63 (w_Reader_readAll_L32 Qr Qt n9) Qr Qt x0 x2 h bc bs))))))

def w_Reader_readAll (x0 : Nat) (x1 : Nat) (h : xb_H) (bc : Nat) (bs : Nat) (Qr : xb_H → Nat → Nat → Prop) (Qt : String → xb_H → Nat → Nat → Prop) : Prop :=
    xb_k h x0 = 4 ∧ ∀ h2 : xb_H, h2 = xb_P h x0 0 (some x1) → xb_k h2 x1 = 3 ∧ ∃ b4 : Nat, (xb_r h2 x1 0) = some b4 ∧ ∀ h5 : xb_H, h5 = xb_P h2 x0 1 (some b4) → ∃ b6 : Nat, (xb_r h5 x1 1) = some b6 ∧ ∀ h7 : xb_H, h7 = xb_P h5 x0 2 (some b6) → ∃ b8 : Nat, (xb_r h7 x0 1) = some b8 ∧ xb_k h7 b8 = 100 ∧ ∀ h10 : xb_H, h10 = xb_I h7 x0 4 (nI (xb_n h7 b8)) → (∃ n8 : Nat, w_Reader_readAll_L32 Qr Qt n8 x0 0 h10 bc bs)


def w_M_body_L178 (Qr : xb_H → Prop) (x0 : Nat) (x3 : Int32) (h : xb_H) : Prop :=
    xb_k h x0 = 9 ∧ ∀ h2 : xb_H, h2 = xb_I h x0 16 x3 → Qr h2

def w_M_body_L150 (Qr : xb_H → Prop) (x0 : Nat) (x3 : Int32) (h : xb_H) : Prop :=
    xb_k h x0 = 9 ∧ ((¬ (xb_i h x0 17) = (0 : Int32) → w_M_body_L178 Qr x0 x3 h) ∧ ((xb_i h x0 17) = (0 : Int32) → (((xb_i h x0 16) ≤ (xb_i h x0 15) → w_M_body_L178 Qr x0 x3 h) ∧ (¬ (xb_i h x0 16) ≤ (xb_i h x0 15) → w_M_fail x0 7 (xb_i h x0 15) h (fun (h4 : xb_H) => xb_ext h h4 → w_M_body_L178 Qr x0 x3 h4)))))

def w_M_body_L139 (Qr : xb_H → Prop) (x0 : Nat) (x3 : Int32) (h : xb_H) : Prop :=
    xb_k h x0 = 9 ∧ ((¬ (xb_i h x0 17) = (0 : Int32) → w_M_body_L150 Qr x0 x3 h) ∧ ((xb_i h x0 17) = (0 : Int32) → w_M_expression x0 h (fun (h3 : xb_H) => xb_ext h h3 → w_M_body_L150 Qr x0 x3 h3)))

def w_M_body_L126 (K72 : Nat → Int32 → Int64 → Int64 → Int64 → xb_H → Prop) (Qr : xb_H → Prop) (x0 : Nat) (x3 : Int32) (x4 : Int64) (x6 : Int64) (x8 : Int64) (h : xb_H) : Prop :=
    xb_k h x0 = 9 ∧ w_M_valueType x0 h (fun (h2 : xb_H) => xb_ext h h2 → ∀ v4 : Int64, v4 = (x8 + 1) → K72 x0 x3 x4 x6 v4 h2)

def w_M_body_L72 (Qr : xb_H → Prop) : Nat → Nat → Int32 → Int64 → Int64 → Int64 → xb_H → Prop
  | 0, _, _, _, _, _, _ => False
  | n9 + 1, x0, x3, x4, x6, x8, h =>
    ((x4 ≤ x8 → w_M_body_L139 Qr x0 x3 h) ∧ (¬ x4 ≤ x8 → xb_k h x0 = 9 ∧ ((¬ (xb_i h x0 17) = (0 : Int32) → w_M_body_L139 Qr x0 x3 h) ∧ ((xb_i h x0 17) = (0 : Int32) → ∀ v4 : Int32, v4 = (xb_i h x0 15) → w_M_count x0 h (fun (r6 : Int64) (h5 : xb_H) => xb_ext h h5 → ∀ v7 : Int64, v7 = (x6 + r6) → ((¬ (xb_i h5 x0 17) = (0 : Int32) → w_M_body_L126 (w_M_body_L72 Qr n9) Qr x0 x3 x4 v7 x8 h5) ∧ ((xb_i h5 x0 17) = (0 : Int32) → ((v7 ≤ (1000 : Int64) → w_M_body_L126 (w_M_body_L72 Qr n9) Qr x0 x3 x4 v7 x8 h5) ∧ (¬ v7 ≤ (1000 : Int64) → w_M_fail x0 9 v4 h5 (fun (h10 : xb_H) => xb_ext h5 h10 → w_M_body_L126 (w_M_body_L72 Qr n9) Qr x0 x3 x4 v7 x8 h10))))))))))

def w_M_body_L36 (Qr : xb_H → Prop) (x0 : Nat) (x1 : Int64) (h : xb_H) : Prop :=
    xb_k h x0 = 9 ∧ (((xb_i h x0 17) = (0 : Int32) → ∀ v3 : Int32, v3 = (xb_i h x0 16) → ∀ h4 : xb_H, h4 = xb_I h x0 16 ((xb_i h x0 15) + (Int64.toInt32 x1)) → w_M_count x0 h4 (fun (r6 : Int64) (h5 : xb_H) => xb_ext h4 h5 → (∃ n8 : Nat, w_M_body_L72 Qr n8 x0 v3 r6 0 0 h5))) ∧ (¬ (xb_i h x0 17) = (0 : Int32) → Qr h))

def w_M_body (x0 : Nat) (h : xb_H) (Qr : xb_H → Prop) : Prop :=
    xb_k h x0 = 9 ∧ w_M_count x0 h (fun (r3 : Int64) (h2 : xb_H) => xb_ext h h2 → ((¬ (xb_i h2 x0 17) = (0 : Int32) → w_M_body_L36 Qr x0 r3 h2) ∧ ((xb_i h2 x0 17) = (0 : Int32) → ((r3 ≤ (Int32.toInt64 ((xb_i h2 x0 16) - (xb_i h2 x0 15))) → w_M_body_L36 Qr x0 r3 h2) ∧ (¬ r3 ≤ (Int32.toInt64 ((xb_i h2 x0 16) - (xb_i h2 x0 15))) → w_M_fail x0 2 (xb_i h2 x0 16) h2 (fun (h6 : xb_H) => xb_ext h2 h6 → w_M_body_L36 Qr x0 r3 h6))))))


def w_M_branch_L199 (Qr : xb_H → Prop) (h : xb_H) : Prop :=
    Qr h

def w_M_branch_L119 (Qr : xb_H → Prop) (x0 : Nat) (x4 : Int32) (x5 : Int32) (y0 : Int64) (h : xb_H) : Prop :=
    xb_k h x0 = 9 ∧ ∃ b2 : Nat, (xb_r h x0 80) = some b2 ∧ xb_k h b2 = 102 ∧ vp_in x4 (xb_n h b2) ∧ ∀ h5 : xb_H, h5 = xb_I h x0 76 (xb_i h b2 (Int32.toNatClampNeg x4)) → ∃ b6 : Nat, (xb_r h5 x0 77) = some b6 ∧ xb_k h5 b6 = 102 ∧ vp_in x4 (xb_n h5 b6) ∧ ((¬ (xb_i h5 b6 (Int32.toNatClampNeg x4)) = (3 : Int32) → w_M_readOn x0 ((xb_i h5 x0 81) - x4) 0 h5 (fun (r11 : Int32) (h10 : xb_H) => xb_ext h5 h10 → ∀ h12 : xb_H, h12 = xb_I h10 x0 81 x4 → ((x5 = (64 : Int32) → w_M_branch_L199 Qr h12) ∧ (¬ x5 = (64 : Int32) → w_M_add x0 y0 x5 h12 (fun (h14 : xb_H) => xb_ext h12 h14 → w_M_branch_L199 Qr h14))))) ∧ ((xb_i h5 b6 (Int32.toNatClampNeg x4)) = (3 : Int32) → ∀ h16 : xb_H, h16 = xb_I h5 x0 81 (x4 + 1) → ∃ b17 : Nat, (xb_r h16 x0 78) = some b17 ∧ xb_k h16 b17 = 102 ∧ vp_in x4 (xb_n h16 b17) ∧ ∀ h20 : xb_H, h20 = xb_I h16 x0 15 (xb_i h16 b17 (Int32.toNatClampNeg x4)) → w_M_branch_L199 Qr h20))

def w_M_branch_L74 (Qr : xb_H → Prop) (x0 : Nat) (x3 : Int32) (x4 : Int32) (y0 : Int32) (y1 : Nat) (h : xb_H) : Prop :=
    xb_k h y1 = 9 ∧ (y0 = 0 ∨ y0 = 1) ∧ ∀ h3 : xb_H, h3 = xb_I h y1 94 y0 → xb_k h3 x0 = 9 ∧ ∃ b5 : Nat, (xb_r h3 x0 73) = some b5 ∧ xb_k h3 b5 = 102 ∧ vp_in x3 (xb_n h3 b5) ∧ ((¬ x4 = (xb_i h3 b5 (Int32.toNatClampNeg x3)) → ∃ b9 : Nat, (xb_r h3 x0 79) = some b9 ∧ xb_k h3 b9 = 102 ∧ vp_in x4 (xb_n h3 b9) ∧ ∀ v12 : Int32, v12 = (xb_i h3 b9 (Int32.toNatClampNeg x4)) → ((¬ v12 = (64 : Int32) → w_M_pop x0 v12 h3 (fun (r15 : Int64) (h14 : xb_H) => xb_ext h3 h14 → w_M_branch_L119 Qr x0 x4 v12 r15 h14)) ∧ (v12 = (64 : Int32) → w_M_branch_L119 Qr x0 x4 v12 0 h3))) ∧ (x4 = (xb_i h3 b5 (Int32.toNatClampNeg x3)) → w_M_leave x0 h3 (fun (h16 : xb_H) => xb_ext h3 h16 → Qr h16)))

def w_M_branch_L69 (Qr : xb_H → Prop) (x0 : Nat) (x3 : Int32) (x4 : Int32) (y0 : Nat) (h : xb_H) : Prop :=
    w_M_branch_L74 Qr x0 x3 x4 1 y0 h

def w_M_branch_L42 (Qr : xb_H → Prop) (x0 : Nat) (x1 : Int64) (x3 : Int32) (y0 : Int32) (h : xb_H) : Prop :=
    xb_k h x0 = 9 ∧ ((¬ (xb_i h x0 94) = (0 : Int32) → w_M_branch_L69 Qr x0 x3 y0 x0 h) ∧ ((xb_i h x0 94) = (0 : Int32) → ∃ b3 : Nat, (xb_r h x0 73) = some b3 ∧ xb_k h b3 = 102 ∧ vp_in x3 (xb_n h b3) ∧ ((x1 < (Int32.toInt64 ((xb_i h x0 81) - (xb_i h b3 (Int32.toNatClampNeg x3)))) → w_M_branch_L74 Qr x0 x3 y0 0 x0 h) ∧ (¬ x1 < (Int32.toInt64 ((xb_i h x0 81) - (xb_i h b3 (Int32.toNatClampNeg x3)))) → w_M_branch_L69 Qr x0 x3 y0 x0 h))))

def w_M_branch (x0 : Nat) (x1 : Int64) (h : xb_H) (Qr : xb_H → Prop) : Prop :=
    xb_k h x0 = 9 ∧ ∀ v2 : Int32, v2 = ((xb_i h x0 68) - 1) → ∃ b3 : Nat, (xb_r h x0 73) = some b3 ∧ xb_k h b3 = 102 ∧ vp_in v2 (xb_n h b3) ∧ ((x1 < (Int32.toInt64 ((xb_i h x0 81) - (xb_i h b3 (Int32.toNatClampNeg v2)))) → w_M_branch_L42 Qr x0 x1 v2 (((xb_i h x0 81) - 1) - (Int64.toInt32 x1)) h) ∧ (¬ x1 < (Int32.toInt64 ((xb_i h x0 81) - (xb_i h b3 (Int32.toNatClampNeg v2)))) → ∃ b7 : Nat, (xb_r h x0 73) = some b7 ∧ xb_k h b7 = 102 ∧ vp_in v2 (xb_n h b7) ∧ w_M_branch_L42 Qr x0 x1 v2 (xb_i h b7 (Int32.toNatClampNeg v2)) h))


def w_M_meant_L105 (Qr : Int32 → xb_H → Prop) (y0 : Int32) (h : xb_H) : Prop :=
    Qr y0 h

def w_M_meant (x0 : Nat) (x1 : Int32) (x2 : Int32) (x3 : Int32) (h : xb_H) (Qr : Int32 → xb_H → Prop) : Prop :=
    xb_k h x0 = 9 ∧ ∃ b2 : Nat, (xb_r h x0 31) = some b2 ∧ xb_k h b2 = 102 ∧ vp_in x1 (xb_n h b2) ∧ ∀ v5 : Int32, v5 = (xb_i h b2 (Int32.toNatClampNeg x1)) → ∃ b6 : Nat, (xb_r h x0 10) = some b6 ∧ xb_k h b6 = 102 ∧ vp_in ((4 * v5) + x2) (xb_n h b6) ∧ ∀ v9 : Int32, v9 = (xb_i h b6 (Int32.toNatClampNeg ((4 * v5) + x2))) → ((v9 ≤ x3 → ((¬ x2 = (0 : Int32) → ((¬ x2 = (1 : Int32) → ((¬ x2 = (2 : Int32) → ∃ b14 : Nat, (xb_r h x0 36) = some b14 ∧ xb_k h b14 = 102 ∧ vp_in x1 (xb_n h b14) ∧ w_M_meant_L105 Qr (((xb_i h b14 (Int32.toNatClampNeg x1)) + x3) - v9) h) ∧ (x2 = (2 : Int32) → ∃ b17 : Nat, (xb_r h x0 38) = some b17 ∧ xb_k h b17 = 102 ∧ vp_in x1 (xb_n h b17) ∧ w_M_meant_L105 Qr (xb_i h b17 (Int32.toNatClampNeg x1)) h))) ∧ (x2 = (1 : Int32) → ∃ b20 : Nat, (xb_r h x0 37) = some b20 ∧ xb_k h b20 = 102 ∧ vp_in x1 (xb_n h b20) ∧ w_M_meant_L105 Qr (xb_i h b20 (Int32.toNatClampNeg x1)) h))) ∧ (x2 = (0 : Int32) → ∃ b23 : Nat, (xb_r h x0 35) = some b23 ∧ xb_k h b23 = 102 ∧ vp_in x1 (xb_n h b23) ∧ w_M_meant_L105 Qr (((xb_i h b23 (Int32.toNatClampNeg x1)) + x3) - v9) h))) ∧ (¬ v9 ≤ x3 → ∃ b26 : Nat, (xb_r h x0 33) = some b26 ∧ ∃ b27 : Nat, (xb_r h x0 32) = some b27 ∧ xb_k h b27 = 102 ∧ vp_in x1 (xb_n h b27) ∧ w_M_importOf x0 v5 x2 x3 h (fun (r31 : Int32) (h30 : xb_H) => xb_ext h h30 → xb_k h30 b26 = 102 ∧ vp_in ((xb_i h b27 (Int32.toNatClampNeg x1)) + r31) (xb_n h30 b26) ∧ Qr (xb_i h30 b26 (Int32.toNatClampNeg ((xb_i h b27 (Int32.toNatClampNeg x1)) + r31))) h30)))


def w_M_typeOf_L44 (Qr : Int32 → xb_H → Prop) (x0 : Nat) (h : xb_H) : Prop :=
    xb_k h x0 = 9 ∧ w_M_count x0 h (fun (r3 : Int64) (h2 : xb_H) => xb_ext h h2 → Qr (Int64.toInt32 r3) h2)

def w_M_typeOf (x0 : Nat) (x1 : Int32) (x2 : Int32) (h : xb_H) (Qr : Int32 → xb_H → Prop) : Prop :=
    xb_k h x0 = 9 ∧ ∃ b2 : Nat, (xb_r h x0 10) = some b2 ∧ xb_k h b2 = 102 ∧ vp_in (4 * x1) (xb_n h b2) ∧ ∀ v5 : Int32, v5 = (xb_i h b2 (Int32.toNatClampNeg (4 * x1))) → ((v5 ≤ x2 → w_M_placeOf x0 x1 3 (x2 - v5) h (fun (r8 : Int32) (h7 : xb_H) => xb_ext h h7 → w_M_go x0 x1 r8 h7 (fun (h9 : xb_H) => xb_ext h7 h9 → w_M_typeOf_L44 Qr x0 h9))) ∧ (¬ v5 ≤ x2 → w_M_importOf x0 x1 0 x2 h (fun (r12 : Int32) (h11 : xb_H) => xb_ext h h11 → w_M_importAt x0 x1 r12 h11 (fun (r14 : Int32) (h13 : xb_H) => xb_ext h11 h13 → w_M_typeOf_L44 Qr x0 h13))))


def w_M_variableTypeOf_L47 (Qr : Int32 → xb_H → Prop) (x0 : Nat) (h : xb_H) : Prop :=
    xb_k h x0 = 9 ∧ w_M_next x0 h (fun (r3 : Int32) (h2 : xb_H) => xb_ext h h2 → Qr r3 h2)

def w_M_variableTypeOf (x0 : Nat) (x1 : Int32) (x2 : Int32) (h : xb_H) (Qr : Int32 → xb_H → Prop) : Prop :=
    xb_k h x0 = 9 ∧ ∃ b2 : Nat, (xb_r h x0 10) = some b2 ∧ xb_k h b2 = 102 ∧ vp_in ((4 * x1) + 3) (xb_n h b2) ∧ ∀ v5 : Int32, v5 = (xb_i h b2 (Int32.toNatClampNeg ((4 * x1) + 3))) → ((v5 ≤ x2 → w_M_placeOf x0 x1 6 (x2 - v5) h (fun (r8 : Int32) (h7 : xb_H) => xb_ext h h7 → w_M_go x0 x1 r8 h7 (fun (h9 : xb_H) => xb_ext h7 h9 → w_M_variableTypeOf_L47 Qr x0 h9))) ∧ (¬ v5 ≤ x2 → w_M_importOf x0 x1 3 x2 h (fun (r12 : Int32) (h11 : xb_H) => xb_ext h h11 → w_M_importAt x0 x1 r12 h11 (fun (r14 : Int32) (h13 : xb_H) => xb_ext h11 h13 → w_M_variableTypeOf_L47 Qr x0 h13))))


def w_Exact_run_L112 (Qr : Int64 → xb_H → Prop) (y0 : Int64) (h : xb_H) : Prop :=
    Qr y0 h

def w_Exact_run_L70 (Qr : Int64 → xb_H → Prop) (x0 : Nat) (x1 : Int32) (x6 : Int64) (y0 : Int64) (h : xb_H) : Prop :=
    xb_k h x0 = 10 ∧ w_Exact_answer x0 x1 x6 y0 h (fun (r3 : Int64) (h2 : xb_H) => xb_ext h h2 → (((xb_i h2 x0 0) ≤ (0 : Int32) → w_Exact_result x1 h2 (fun (r6 : Int32) (h5 : xb_H) => xb_ext h2 h5 → ((¬ (r6 - r6 / 2 * 2) = (0 : Int32) → w_Exact_run_L112 Qr r3 h5) ∧ ((r6 - r6 / 2 * 2) = (0 : Int32) → w_Exact_run_L112 Qr (r3 &&& 4294967295) h5)))) ∧ (¬ (xb_i h2 x0 0) ≤ (0 : Int32) → Qr 0 h2)))

def w_Exact_run_L48 (Qr : Int64 → xb_H → Prop) (x0 : Nat) (x1 : Int32) (x4 : Int64) (y0 : Int64) (h : xb_H) : Prop :=
    w_Exact_first x1 h (fun (r2 : Int32) (h1 : xb_H) => xb_ext h h1 → ((¬ (r2 - r2 / 2 * 2) = (0 : Int32) → w_Exact_run_L70 Qr x0 x1 y0 x4 h1) ∧ ((r2 - r2 / 2 * 2) = (0 : Int32) → w_Exact_run_L70 Qr x0 x1 y0 (x4 &&& 4294967295) h1)))

def w_Exact_run_L18 (Qr : Int64 → xb_H → Prop) (x0 : Nat) (x1 : Int32) (x2 : Int64) (x4 : Int64) (y0 : Int32) (y1 : Nat) (h : xb_H) : Prop :=
    xb_k h y1 = 10 ∧ ∀ h2 : xb_H, h2 = xb_I h y1 0 y0 → xb_k h2 x0 = 10 ∧ (((xb_i h2 x0 0) ≤ (0 : Int32) → w_Exact_first x1 h2 (fun (r6 : Int32) (h5 : xb_H) => xb_ext h2 h5 → ((¬ (r6 - r6 / 2 * 2) = (0 : Int32) → w_Exact_run_L48 Qr x0 x1 x4 x2 h5) ∧ ((r6 - r6 / 2 * 2) = (0 : Int32) → w_Exact_run_L48 Qr x0 x1 x4 (x2 &&& 4294967295) h5)))) ∧ (¬ (xb_i h2 x0 0) ≤ (0 : Int32) → Qr 0 h2))

def w_Exact_run (x0 : Nat) (x1 : Int32) (x2 : Int64) (x4 : Int64) (h : xb_H) (Qr : Int64 → xb_H → Prop) : Prop :=
    w_Exact_isIn x1 69 191 h (fun (r2 : Int32) (h1 : xb_H) => xb_ext h h1 → ((r2 = (0 : Int32) → w_Exact_run_L18 Qr x0 x1 x2 x4 1 x0 h1) ∧ (¬ r2 = (0 : Int32) → w_Exact_run_L18 Qr x0 x1 x2 x4 0 x0 h1)))


def w_H_load_L57 (Qr : Int32 → xb_H → Nat → Nat → Prop) (Qt : String → xb_H → Nat → Nat → Prop) (x0 : Nat) (x1 : Nat) (y0 : Nat) (h : xb_H) (bc : Nat) (bs : Nat) : Prop :=
    xb_k h x1 = 3 ∧ xb_k h x0 = 1 ∧ ∀ h3 : xb_H, h3 = xb_I h x0 9 (xb_i h x1 17) → ∀ h4 : xb_H, h4 = xb_I h3 x0 10 (xb_i h3 x1 18) → Qr (-1) h4 bc bs

def w_H_load (x0 : Nat) (h : xb_H) (bc : Nat) (bs : Nat) (Qr : Int32 → xb_H → Nat → Nat → Prop) (Qt : String → xb_H → Nat → Nat → Prop) : Prop :=
    xb_k h x0 = 1 ∧ w_H_refuseModuleBeyondLimit x0 h bc bs (fun (h2 : xb_H) (bc3 bs3 : Nat) => xb_ext h h2 → 1 ≤ bc3 ∧ 19 ≤ bs3 ∧ ∀ q4 : Nat, xb_k h2 q4 = 0 → ∀ h5 : xb_H, h5 = xb_new h2 q4 3 0 → ∃ b7 : Nat, (xb_r h5 x0 0) = some b7 ∧ w_Arrays_copyOf0 b7 (xb_i h5 x0 1) h5 (bc3 - 1) (bs3 - 19) (fun (r9 : Nat) (h8 : xb_H) (bc9 bs9 : Nat) => xb_ext h5 h8 → w_StackModule_init q4 r9 h8 bc9 bs9 (fun (h10 : xb_H) (bc11 bs11 : Nat) => xb_ext h8 h10 → ∀ h12 : xb_H, h12 = xb_I h10 x0 1 0 → ∀ h13 : xb_H, h13 = xb_I h12 x0 9 0 → ∀ h14 : xb_H, h14 = xb_I h13 x0 10 0 → ∃ b15 : Nat, (xb_r h14 x0 4) = some b15 ∧ xb_k h14 b15 = 4 ∧ w_Reader_readAll b15 q4 h14 bc11 bs11 (fun (h17 : xb_H) (bc18 bs18 : Nat) => xb_ext h14 h17 → ∃ b19 : Nat, (xb_r h17 x0 5) = some b19 ∧ xb_k h17 b19 = 5 ∧ w_Checker_checkAll b19 q4 h17 bc18 bs18 (fun (h21 : xb_H) (bc22 bs22 : Nat) => xb_ext h17 h21 → ∃ b23 : Nat, (xb_r h21 x0 2) = some b23 ∧ xb_k h21 b23 = 104 ∧ vp_in (xb_i h21 x0 3) (xb_n h21 b23) ∧ ∀ h26 : xb_H, h26 = xb_P h21 b23 (Int32.toNatClampNeg (xb_i h21 x0 3)) (some q4) → ∀ h27 : xb_H, h27 = xb_I h26 x0 3 ((xb_i h26 x0 3) + 1) → Qr ((xb_i h27 x0 3) - 1) h27 bc22 bs22) (fun (XX : String) (h21 : xb_H) (bc22 bs22 : Nat) => xb_ext h17 h21 → ∀ ax : Nat, (XX = "java/lang/IllegalArgumentException" ∧ w_H_load_L57 Qr Qt x0 q4 ax h21 bc22 bs22))) (fun (XX : String) (h17 : xb_H) (bc18 bs18 : Nat) => xb_ext h14 h17 → ∀ ax : Nat, (XX = "java/lang/IllegalArgumentException" ∧ w_H_load_L57 Qr Qt x0 q4 ax h17 bc18 bs18))))) Qt


def w_Machine_go_L88 (Qr : Int32 → xb_H → Nat → Nat → Prop) (y0 : Int32) (h : xb_H) (bc : Nat) (bs : Nat) : Prop :=
    Qr y0 h bc bs

def w_Machine_go_L76 (Qr : Int32 → xb_H → Nat → Nat → Prop) (x0 : Nat) (h : xb_H) (bc : Nat) (bs : Nat) : Prop :=
    xb_k h x0 = 8 ∧ (((xb_i h x0 7) = (0 : Int32) → w_Machine_go_L88 Qr 0 h bc bs) ∧ (¬ (xb_i h x0 7) = (0 : Int32) → w_Machine_go_L88 Qr 1 h bc bs))

def w_Machine_go_L70 (K31 : Nat → Int32 → xb_H → Nat → Nat → Prop) (Qr : Int32 → xb_H → Nat → Nat → Prop) (x0 : Nat) (x2 : Int32) (h : xb_H) (bc : Nat) (bs : Nat) : Prop :=
    K31 x0 (x2 + (-1)) h bc bs

def w_Machine_go_L59 (K31 : Nat → Int32 → xb_H → Nat → Nat → Prop) (Qr : Int32 → xb_H → Nat → Nat → Prop) (x0 : Nat) (x2 : Int32) (h : xb_H) (bc : Nat) (bs : Nat) : Prop :=
    xb_k h x0 = 8 ∧ (((xb_i h x0 3) = (0 : Int32) → w_Machine_go_L70 K31 Qr x0 x2 h bc bs) ∧ (¬ (xb_i h x0 3) = (0 : Int32) → w_Machine_step x0 h bc bs (fun (h3 : xb_H) (bc4 bs4 : Nat) => xb_ext h h3 → w_Machine_go_L70 K31 Qr x0 x2 h3 bc4 bs4)))

def w_Machine_go_L31 (Qr : Int32 → xb_H → Nat → Nat → Prop) : Nat → Nat → Int32 → xb_H → Nat → Nat → Prop
  | 0, _, _, _, _, _ => False
  | n9 + 1, x0, x2, h, bc, bs =>
    ((x2 < (0 : Int32) → w_Machine_go_L76 Qr x0 h bc bs) ∧ (¬ x2 < (0 : Int32) → xb_k h x0 = 8 ∧ (((xb_i h x0 3) = (0 : Int32) → w_Machine_go_L76 Qr x0 h bc bs) ∧ (¬ (xb_i h x0 3) = (0 : Int32) → w_Machine_passFree x0 h (fun (h4 : xb_H) => xb_ext h h4 → (((xb_i h4 x0 3) = (0 : Int32) → w_Machine_go_L59 (w_Machine_go_L31 Qr n9) Qr x0 x2 h4 bc bs) ∧ (¬ (xb_i h4 x0 3) = (0 : Int32) → ((¬ x2 = (0 : Int32) → w_Machine_go_L59 (w_Machine_go_L31 Qr n9) Qr x0 x2 h4 bc bs) ∧ (x2 = (0 : Int32) → Qr 2 h4 bc bs)))))))))

def w_Machine_go_L29 (Qr : Int32 → xb_H → Nat → Nat → Prop) (x0 : Nat) (x1 : Int32) (h : xb_H) (bc : Nat) (bs : Nat) : Prop :=
    (∃ n8 : Nat, w_Machine_go_L31 Qr n8 x0 x1 h bc bs)

def w_Machine_go (x0 : Nat) (x1 : Int32) (h : xb_H) (bc : Nat) (bs : Nat) (Qr : Int32 → xb_H → Nat → Nat → Prop) : Prop :=
    xb_k h x0 = 8 ∧ ∀ h2 : xb_H, h2 = xb_I h x0 7 0 → (((xb_i h2 x0 8) = ((-1) : Int32) → w_Machine_go_L29 Qr x0 x1 h2 bc bs) ∧ (¬ (xb_i h2 x0 8) = ((-1) : Int32) → ∀ v4 : Int32, v4 = (xb_i h2 x0 8) → ∀ h5 : xb_H, h5 = xb_I h2 x0 8 (-1) → w_Machine_call x0 v4 0 h5 bc bs (fun (h6 : xb_H) (bc7 bs7 : Nat) => xb_ext h5 h6 → w_Machine_go_L29 Qr x0 x1 h6 bc7 bs7)))


def w_Law_instantiate (σ : Nat) (x0 : Nat) (x1 : Int32) (x2 : Nat) (h : xb_H) (bc : Nat) (bs : Nat) (Qr : Int32 → xb_H → Nat → Nat → Prop) : Prop :=
    xb_k h x0 = 1 ∧ w_H_instantiate σ x0 x1 h bc bs (fun (r3 : Int32) (h2 : xb_H) (bc3 bs3 : Nat) => xb_ext h h2 → xb_k h2 x2 = 103 ∧ vp_in 0 (xb_n h2 x2) ∧ ∀ h6 : xb_H, h6 = xb_L h2 x2 (Int32.toNatClampNeg 0) (Int32.toInt64 r3) → Qr 0 h6 bc3 bs3) (fun (XX : String) (h2 : xb_H) (bc3 bs3 : Nat) => xb_ext h h2 → ∀ ax : Nat, (XX = "java/lang/IllegalStateException" ∧ Qr 2 h2 bc3 bs3) ∨ (XX = "java/lang/IndexOutOfBoundsException" ∧ Qr 1 h2 bc3 bs3))


def w_M_byTable_L61 (K33 : Nat → Int64 → Int64 → Int64 → Int64 → xb_H → Prop) (Qr : xb_H → Prop) (x0 : Nat) (x1 : Int64) (x4 : Int64) (x8 : Int64) (y0 : Int64) (h : xb_H) : Prop :=
    ∀ v1 : Int64, v1 = (x8 + 1) → K33 x0 x1 x4 y0 v1 h

def w_M_byTable_L33 (Qr : xb_H → Prop) : Nat → Nat → Int64 → Int64 → Int64 → Int64 → xb_H → Prop
  | 0, _, _, _, _, _, _ => False
  | n9 + 1, x0, x1, x4, x6, x8, h =>
    ((x1 < x8 → xb_k h x0 = 9 ∧ w_M_branch x0 x6 h (fun (h3 : xb_H) => xb_ext h h3 → Qr h3)) ∧ (¬ x1 < x8 → xb_k h x0 = 9 ∧ w_M_count x0 h (fun (r7 : Int64) (h6 : xb_H) => xb_ext h h6 → ((x4 < x8 → w_M_byTable_L61 (w_M_byTable_L33 Qr n9) Qr x0 x1 x4 x8 x6 h6) ∧ (¬ x4 < x8 → w_M_byTable_L61 (w_M_byTable_L33 Qr n9) Qr x0 x1 x4 x8 r7 h6)))))

def w_M_byTable (x0 : Nat) (h : xb_H) (Qr : xb_H → Prop) : Prop :=
    xb_k h x0 = 9 ∧ w_M_count x0 h (fun (r3 : Int64) (h2 : xb_H) => xb_ext h h2 → ∀ v4 : Int32, v4 = (xb_i h2 x0 15) → w_M_pop x0 127 h2 (fun (r6 : Int64) (h5 : xb_H) => xb_ext h2 h5 → ∀ v7 : Int64, v7 = (r6 &&& 4294967295) → ∀ h8 : xb_H, h8 = xb_I h5 x0 15 v4 → (∃ n8 : Nat, w_M_byTable_L33 Qr n8 x0 r3 v7 0 0 h8)))


def w_M_changes_L20 (Qr : Int32 → xb_H → Prop) (y0 : Int32) (h : xb_H) : Prop :=
    (y0 = 0 ∨ y0 = 1) ∧ Qr y0 h

def w_M_changes (x0 : Nat) (x1 : Int32) (x2 : Int32) (h : xb_H) (Qr : Int32 → xb_H → Prop) : Prop :=
    xb_k h x0 = 9 ∧ w_M_variableTypeOf x0 x1 x2 h (fun (r3 : Int32) (h2 : xb_H) => xb_ext h h2 → w_M_next x0 h2 (fun (r5 : Int32) (h4 : xb_H) => xb_ext h2 h4 → ((¬ r5 = (1 : Int32) → w_M_changes_L20 Qr 0 h4) ∧ (r5 = (1 : Int32) → w_M_changes_L20 Qr 1 h4))))


def w_M_checkCalls_L210 (Qr : xb_H → Prop) (h : xb_H) : Prop :=
    Qr h

def w_M_checkCalls_L207 (Qr : xb_H → Prop) (y0 : Int32) (y1 : Nat) (h : xb_H) : Prop :=
    xb_k h y1 = 9 ∧ w_M_put y1 y0 h (fun (h2 : xb_H) => xb_ext h h2 → w_M_checkCalls_L210 Qr h2)

def w_M_checkCalls_L158 (Qr : xb_H → Prop) (h : xb_H) : Prop :=
    w_M_checkCalls_L210 Qr h

def w_M_checkCalls_L121 (Qr : xb_H → Prop) (x0 : Nat) (x1 : Int32) (x3 : Int64) (y0 : Int32) (y1 : Nat) (h : xb_H) : Prop :=
    xb_k h y1 = 9 ∧ w_M_need y1 y0 20 h (fun (h2 : xb_H) => xb_ext h h2 → xb_k h2 x0 = 9 ∧ w_M_take x0 127 h2 (fun (r6 : Int32) (h5 : xb_H) => xb_ext h2 h5 → ((¬ (xb_i h5 x0 17) = (0 : Int32) → w_M_checkCalls_L158 Qr h5) ∧ ((xb_i h5 x0 17) = (0 : Int32) → w_M_takeParameters x0 x1 (Int64.toInt32 x3) h5 (fun (h8 : xb_H) => xb_ext h5 h8 → w_M_resultOf x0 x1 (Int64.toInt32 x3) h8 (fun (r11 : Int32) (h10 : xb_H) => xb_ext h8 h10 → w_M_putResult x0 r11 h10 (fun (h12 : xb_H) => xb_ext h10 h12 → w_M_checkCalls_L158 Qr h12)))))))

def w_M_checkCalls_L98 (Qr : xb_H → Prop) (x0 : Nat) (x1 : Int32) (x3 : Int64) (y0 : Int32) (y1 : Nat) (h : xb_H) : Prop :=
    xb_k h y1 = 9 ∧ w_M_need y1 y0 20 h (fun (h2 : xb_H) => xb_ext h h2 → xb_k h2 x0 = 9 ∧ w_M_manyOf x0 x1 1 h2 (fun (r6 : Int32) (h5 : xb_H) => xb_ext h2 h5 → (((Int32.toInt64 r6) ≤ x3 → w_M_checkCalls_L121 Qr x0 x1 x3 0 x0 h5) ∧ (¬ (Int32.toInt64 r6) ≤ x3 → w_M_checkCalls_L121 Qr x0 x1 x3 1 x0 h5))))

def w_M_checkCalls_L67 (Qr : xb_H → Prop) (h : xb_H) : Prop :=
    w_M_checkCalls_L210 Qr h

def w_M_checkCalls_L28 (Qr : xb_H → Prop) (x0 : Nat) (x1 : Int32) (x3 : Int64) (y0 : Int32) (y1 : Nat) (h : xb_H) : Prop :=
    xb_k h y1 = 9 ∧ w_M_need y1 y0 20 h (fun (h2 : xb_H) => xb_ext h h2 → xb_k h2 x0 = 9 ∧ ((¬ (xb_i h2 x0 17) = (0 : Int32) → w_M_checkCalls_L67 Qr h2) ∧ ((xb_i h2 x0 17) = (0 : Int32) → w_M_typeOf x0 x1 (Int64.toInt32 x3) h2 (fun (r7 : Int32) (h6 : xb_H) => xb_ext h2 h6 → w_M_takeParameters x0 x1 r7 h6 (fun (h8 : xb_H) => xb_ext h6 h8 → w_M_resultOf x0 x1 r7 h8 (fun (r11 : Int32) (h10 : xb_H) => xb_ext h8 h10 → w_M_putResult x0 r11 h10 (fun (h12 : xb_H) => xb_ext h10 h12 → w_M_checkCalls_L67 Qr h12)))))))

def w_M_checkCalls (x0 : Nat) (x1 : Int32) (x2 : Int32) (h : xb_H) (Qr : xb_H → Prop) : Prop :=
    ((¬ x2 = (16 : Int32) → ((¬ x2 = (17 : Int32) → ((¬ x2 = (26 : Int32) → xb_k h x0 = 9 ∧ w_M_take x0 127 h (fun (r6 : Int32) (h5 : xb_H) => xb_ext h h5 → w_M_take x0 0 h5 (fun (r8 : Int32) (h7 : xb_H) => xb_ext h5 h7 → w_M_take x0 r8 h7 (fun (r10 : Int32) (h9 : xb_H) => xb_ext h7 h9 → ((¬ r8 = (0 : Int32) → w_M_checkCalls_L207 Qr r8 x0 h9) ∧ (r8 = (0 : Int32) → w_M_checkCalls_L207 Qr r10 x0 h9)))))) ∧ (x2 = (26 : Int32) → xb_k h x0 = 9 ∧ w_M_take x0 0 h (fun (r14 : Int32) (h13 : xb_H) => xb_ext h h13 → w_M_checkCalls_L210 Qr h13)))) ∧ (x2 = (17 : Int32) → xb_k h x0 = 9 ∧ w_M_count x0 h (fun (r17 : Int64) (h16 : xb_H) => xb_ext h h16 → w_M_total x0 x1 1 h16 (fun (r19 : Int64) (h18 : xb_H) => xb_ext h16 h18 → ((r19 ≤ (0 : Int64) → w_M_checkCalls_L98 Qr x0 x1 r17 0 x0 h18) ∧ (¬ r19 ≤ (0 : Int64) → w_M_checkCalls_L98 Qr x0 x1 r17 1 x0 h18))))))) ∧ (x2 = (16 : Int32) → xb_k h x0 = 9 ∧ w_M_count x0 h (fun (r23 : Int64) (h22 : xb_H) => xb_ext h h22 → w_M_total x0 x1 0 h22 (fun (r25 : Int64) (h24 : xb_H) => xb_ext h22 h24 → ((r25 ≤ r23 → w_M_checkCalls_L28 Qr x0 x1 r23 0 x0 h24) ∧ (¬ r25 ≤ r23 → w_M_checkCalls_L28 Qr x0 x1 r23 1 x0 h24))))))


def w_M_checkStart_L102 (Qr : xb_H → Prop) (h : xb_H) : Prop :=
    Qr h

def w_M_checkStart_L88 (Qr : xb_H → Prop) (x0 : Nat) (x2 : Int32) (y0 : Int32) (h : xb_H) : Prop :=
    ((¬ y0 = (0 : Int32) → w_M_checkStart_L102 Qr h) ∧ (y0 = (0 : Int32) → xb_k h x0 = 9 ∧ w_M_fail x0 21 x2 h (fun (h3 : xb_H) => xb_ext h h3 → w_M_checkStart_L102 Qr h3)))

def w_M_checkStart_L87 (Qr : xb_H → Prop) (x0 : Nat) (x2 : Int32) (h : xb_H) : Prop :=
    w_M_checkStart_L88 Qr x0 x2 0 h

def w_M_checkStart (x0 : Nat) (x1 : Int32) (h : xb_H) (Qr : xb_H → Prop) : Prop :=
    xb_k h x0 = 9 ∧ w_M_manyOf x0 x1 8 h (fun (r3 : Int32) (h2 : xb_H) => xb_ext h h2 → ((¬ r3 = (0 : Int32) → w_M_placeOf x0 x1 8 0 h2 (fun (r6 : Int32) (h5 : xb_H) => xb_ext h2 h5 → w_M_go x0 x1 r6 h5 (fun (h7 : xb_H) => xb_ext h5 h7 → w_M_count x0 h7 (fun (r10 : Int64) (h9 : xb_H) => xb_ext h7 h9 → w_M_total x0 x1 0 h9 (fun (r12 : Int64) (h11 : xb_H) => xb_ext h9 h11 → ((r10 < r12 → w_M_typeOf x0 x1 (Int64.toInt32 r10) h11 (fun (r15 : Int32) (h14 : xb_H) => xb_ext h11 h14 → w_M_parameters x0 x1 r15 h14 (fun (r17 : Int32) (h16 : xb_H) => xb_ext h14 h16 → ((¬ r17 = (0 : Int32) → w_M_checkStart_L87 Qr x0 r6 h16) ∧ (r17 = (0 : Int32) → w_M_resultOf x0 x1 r15 h16 (fun (r20 : Int32) (h19 : xb_H) => xb_ext h16 h19 → ((¬ r20 = (64 : Int32) → w_M_checkStart_L87 Qr x0 r6 h19) ∧ (r20 = (64 : Int32) → w_M_checkStart_L88 Qr x0 r6 1 h19)))))))) ∧ (¬ r10 < r12 → w_M_fail x0 20 r6 h11 (fun (h22 : xb_H) => xb_ext h11 h22 → w_M_checkStart_L102 Qr h22)))))))) ∧ (r3 = (0 : Int32) → Qr h2)))


def w_M_constant_L142 (Qr : Int64 → xb_H → Prop) (x0 : Nat) (x3 : Int64) (h : xb_H) : Prop :=
    xb_k h x0 = 9 ∧ w_M_next x0 h (fun (r3 : Int32) (h2 : xb_H) => xb_ext h h2 → Qr x3 h2)

def w_M_constant_L119 (K105 : Nat → Int32 → Int64 → Int32 → xb_H → Prop) (Qr : Int64 → xb_H → Prop) (x0 : Nat) (x2 : Int32) (x3 : Int64) (x5 : Int32) (y0 : Int32) (y1 : Int32) (h : xb_H) : Prop :=
    ((y0 ≤ y1 → w_M_constant_L142 Qr x0 x3 h) ∧ (¬ y0 ≤ y1 → xb_k h x0 = 9 ∧ w_M_next x0 h (fun (r4 : Int32) (h3 : xb_H) => xb_ext h h3 → ∀ v5 : Int64, v5 = (x3 ||| (xb_lshl (Int32.toInt64 r4) (8 * x5))) → K105 x0 x2 v5 (x5 + 1) h3)))

def w_M_constant_L105 (Qr : Int64 → xb_H → Prop) : Nat → Nat → Int32 → Int64 → Int32 → xb_H → Prop
  | 0, _, _, _, _, _ => False
  | n9 + 1, x0, x2, x3, x5, h =>
    ((¬ x2 = (67 : Int32) → w_M_constant_L119 (w_M_constant_L105 Qr n9) Qr x0 x2 x3 x5 8 x5 h) ∧ (x2 = (67 : Int32) → w_M_constant_L119 (w_M_constant_L105 Qr n9) Qr x0 x2 x3 x5 4 x5 h))

def w_M_constant_L98 (Qr : Int64 → xb_H → Prop) (x0 : Nat) (y0 : Int64) (h : xb_H) : Prop :=
    w_M_constant_L142 Qr x0 y0 h

def w_M_constant_L79 (Qr : Int64 → xb_H → Prop) (x0 : Nat) (x2 : Int32) (y0 : Int32) (y1 : Nat) (h : xb_H) : Prop :=
    xb_k h y1 = 9 ∧ w_M_signed y1 y0 h (fun (r3 : Int64) (h2 : xb_H) => xb_ext h h2 → ((¬ x2 = (65 : Int32) → w_M_constant_L98 Qr x0 r3 h2) ∧ (x2 = (65 : Int32) → w_M_constant_L98 Qr x0 (r3 &&& 4294967295) h2)))

def w_M_constant (x0 : Nat) (x1 : Int32) (h : xb_H) (Qr : Int64 → xb_H → Prop) : Prop :=
    xb_k h x0 = 9 ∧ w_M_next x0 h (fun (r3 : Int32) (h2 : xb_H) => xb_ext h h2 → ((¬ r3 = (35 : Int32) → (((66 : Int32) < r3 → (∃ n8 : Nat, w_M_constant_L105 Qr n8 x0 r3 0 0 h2)) ∧ (¬ (66 : Int32) < r3 → ((¬ r3 = (65 : Int32) → w_M_constant_L79 Qr x0 r3 64 x0 h2) ∧ (r3 = (65 : Int32) → w_M_constant_L79 Qr x0 r3 32 x0 h2))))) ∧ (r3 = (35 : Int32) → w_M_count x0 h2 (fun (r8 : Int64) (h7 : xb_H) => xb_ext h2 h7 → ∀ v9 : Int32, v9 = (Int64.toInt32 r8) → ∀ v10 : Int32, v10 = (xb_i h7 x0 15) → ∃ b11 : Nat, (xb_r h7 x0 31) = some b11 ∧ xb_k h7 b11 = 102 ∧ vp_in x1 (xb_n h7 b11) ∧ ∀ v14 : Int32, v14 = (xb_i h7 b11 (Int32.toNatClampNeg x1)) → ∃ b15 : Nat, (xb_r h7 x0 61) = some b15 ∧ w_M_meant x0 x1 3 v9 h7 (fun (r17 : Int32) (h16 : xb_H) => xb_ext h7 h16 → xb_k h16 b15 = 103 ∧ vp_in r17 (xb_n h16 b15) ∧ ∀ v20 : Int64, v20 = (xb_l h16 b15 (Int32.toNatClampNeg r17)) → w_M_go x0 v14 v10 h16 (fun (h21 : xb_H) => xb_ext h16 h21 → w_M_constant_L142 Qr x0 v20 h21))))))


def w_M_hasType_L51 (Qr : Int32 → xb_H → Prop) (y0 : Int32) (h : xb_H) : Prop :=
    (y0 = 0 ∨ y0 = 1) ∧ Qr y0 h

def w_M_hasType_L50 (Qr : Int32 → xb_H → Prop) (h : xb_H) : Prop :=
    w_M_hasType_L51 Qr 0 h

def w_M_hasType (x0 : Nat) (x1 : Int32) (x2 : Int32) (x3 : Int32) (h : xb_H) (Qr : Int32 → xb_H → Prop) : Prop :=
    ((x1 < (100000 : Int32) → xb_k h x0 = 9 ∧ ∃ b3 : Nat, (xb_r h x0 31) = some b3 ∧ ∃ b4 : Nat, (xb_r h x0 44) = some b4 ∧ xb_k h b4 = 102 ∧ vp_in x1 (xb_n h b4) ∧ xb_k h b3 = 102 ∧ vp_in (xb_i h b4 (Int32.toNatClampNeg x1)) (xb_n h b3) ∧ ∀ v9 : Int32, v9 = (xb_i h b3 (Int32.toNatClampNeg (xb_i h b4 (Int32.toNatClampNeg x1)))) → ∃ b10 : Nat, (xb_r h x0 10) = some b10 ∧ xb_k h b10 = 102 ∧ vp_in (4 * v9) (xb_n h b10) ∧ ∃ b13 : Nat, (xb_r h x0 45) = some b13 ∧ xb_k h b13 = 102 ∧ vp_in x1 (xb_n h b13) ∧ w_M_typeOf x0 v9 ((xb_i h b10 (Int32.toNatClampNeg (4 * v9))) + (xb_i h b13 (Int32.toNatClampNeg x1))) h (fun (r17 : Int32) (h16 : xb_H) => xb_ext h h16 → w_M_sameType x0 x2 x3 v9 r17 h16 (fun (r19 : Int32) (h18 : xb_H) => xb_ext h16 h18 → (r19 = 0 ∨ r19 = 1) ∧ Qr r19 h18))) ∧ (¬ x1 < (100000 : Int32) → xb_k h x0 = 9 ∧ w_M_parameters x0 x2 x3 h (fun (r22 : Int32) (h21 : xb_H) => xb_ext h h21 → ((¬ r22 = (1 : Int32) → w_M_hasType_L50 Qr h21) ∧ (r22 = (1 : Int32) → w_M_parameter x0 x2 x3 0 h21 (fun (r25 : Int32) (h24 : xb_H) => xb_ext h21 h24 → ((¬ r25 = (127 - (x1 - 100000)) → w_M_hasType_L50 Qr h24) ∧ (r25 = (127 - (x1 - 100000)) → w_M_resultOf x0 x2 x3 h24 (fun (r28 : Int32) (h27 : xb_H) => xb_ext h24 h27 → ((¬ r28 = (64 : Int32) → w_M_hasType_L50 Qr h27) ∧ (r28 = (64 : Int32) → w_M_hasType_L51 Qr 1 h27)))))))))))


def w_M_ofPlace_L222 (Qr : xb_H → Prop) (h : xb_H) : Prop :=
    Qr h

def w_M_ofPlace_L154 (Qr : xb_H → Prop) (x0 : Nat) (x3 : Int32) (y0 : Int32) (h : xb_H) : Prop :=
    ((¬ x3 = (32 : Int32) → xb_k h x0 = 9 ∧ ∃ b3 : Nat, (xb_r h x0 75) = some b3 ∧ xb_k h b3 = 100 ∧ vp_in y0 (xb_n h b3) ∧ w_M_pop x0 (xb_i h b3 (Int32.toNatClampNeg y0)) h (fun (r7 : Int64) (h6 : xb_H) => xb_ext h h6 → ∃ b8 : Nat, (xb_r h6 x0 74) = some b8 ∧ xb_k h6 b8 = 103 ∧ vp_in y0 (xb_n h6 b8) ∧ ∀ h11 : xb_H, h11 = xb_L h6 b8 (Int32.toNatClampNeg y0) r7 → ((¬ x3 = (34 : Int32) → w_M_ofPlace_L222 Qr h11) ∧ (x3 = (34 : Int32) → ∃ b13 : Nat, (xb_r h11 x0 75) = some b13 ∧ xb_k h11 b13 = 100 ∧ vp_in y0 (xb_n h11 b13) ∧ w_M_add x0 r7 (xb_i h11 b13 (Int32.toNatClampNeg y0)) h11 (fun (h16 : xb_H) => xb_ext h11 h16 → w_M_ofPlace_L222 Qr h16))))) ∧ (x3 = (32 : Int32) → xb_k h x0 = 9 ∧ ∃ b19 : Nat, (xb_r h x0 74) = some b19 ∧ xb_k h b19 = 103 ∧ vp_in y0 (xb_n h b19) ∧ ∃ b22 : Nat, (xb_r h x0 75) = some b22 ∧ xb_k h b22 = 100 ∧ vp_in y0 (xb_n h b22) ∧ w_M_add x0 (xb_l h b19 (Int32.toNatClampNeg y0)) (xb_i h b22 (Int32.toNatClampNeg y0)) h (fun (h25 : xb_H) => xb_ext h h25 → Qr h25)))

def w_M_ofPlace_L128 (Qr : xb_H → Prop) (x0 : Nat) (x1 : Int32) (x3 : Int32) (x4 : Int32) (x5 : Int32) (y0 : Int32) (y1 : Nat) (h : xb_H) : Prop :=
    xb_k h y1 = 9 ∧ (y0 = 0 ∨ y0 = 1) ∧ ∀ h3 : xb_H, h3 = xb_I h y1 94 y0 → ((x5 = (0 : Int32) → xb_k h3 x0 = 9 ∧ ∃ b6 : Nat, (xb_r h3 x0 71) = some b6 ∧ xb_k h3 b6 = 102 ∧ vp_in x1 (xb_n h3 b6) ∧ w_M_ofPlace_L154 Qr x0 x3 (xb_i h3 b6 (Int32.toNatClampNeg x1)) h3) ∧ (¬ x5 = (0 : Int32) → xb_k h3 x0 = 9 ∧ ∃ b10 : Nat, (xb_r h3 x0 71) = some b10 ∧ xb_k h3 b10 = 102 ∧ vp_in x1 (xb_n h3 b10) ∧ w_M_ofPlace_L154 Qr x0 x3 ((xb_i h3 b10 (Int32.toNatClampNeg x1)) + x4) h3))

def w_M_ofPlace_L123 (Qr : xb_H → Prop) (x0 : Nat) (x1 : Int32) (x3 : Int32) (x4 : Int32) (x5 : Int32) (y0 : Nat) (h : xb_H) : Prop :=
    w_M_ofPlace_L128 Qr x0 x1 x3 x4 x5 1 y0 h

def w_M_ofPlace_L108 (Qr : xb_H → Prop) (x0 : Nat) (x1 : Int32) (x3 : Int32) (x4 : Int32) (y0 : Int32) (h : xb_H) : Prop :=
    xb_k h x0 = 9 ∧ ((¬ (xb_i h x0 94) = (0 : Int32) → w_M_ofPlace_L123 Qr x0 x1 x3 x4 y0 x0 h) ∧ ((xb_i h x0 94) = (0 : Int32) → ((¬ y0 = (0 : Int32) → w_M_ofPlace_L128 Qr x0 x1 x3 x4 y0 0 x0 h) ∧ (y0 = (0 : Int32) → w_M_ofPlace_L123 Qr x0 x1 x3 x4 y0 x0 h))))

def w_M_ofPlace_L107 (Qr : xb_H → Prop) (x0 : Nat) (x1 : Int32) (x3 : Int32) (x4 : Int32) (h : xb_H) : Prop :=
    w_M_ofPlace_L108 Qr x0 x1 x3 x4 0 h

def w_M_ofPlace_L86 (Qr : xb_H → Prop) (h : xb_H) : Prop :=
    Qr h

def w_M_ofPlace (x0 : Nat) (x1 : Int32) (x2 : Int32) (x3 : Int32) (h : xb_H) (Qr : xb_H → Prop) : Prop :=
    xb_k h x0 = 9 ∧ w_M_count x0 h (fun (r3 : Int64) (h2 : xb_H) => xb_ext h h2 → ∀ v4 : Int32, v4 = (Int64.toInt32 r3) → ((x3 < (35 : Int32) → ((v4 < (0 : Int32) → w_M_ofPlace_L107 Qr x0 x1 x3 v4 h2) ∧ (¬ v4 < (0 : Int32) → ∃ b7 : Nat, (xb_r h2 x0 72) = some b7 ∧ xb_k h2 b7 = 102 ∧ vp_in x1 (xb_n h2 b7) ∧ (((xb_i h2 b7 (Int32.toNatClampNeg x1)) ≤ v4 → w_M_ofPlace_L107 Qr x0 x1 x3 v4 h2) ∧ (¬ (xb_i h2 b7 (Int32.toNatClampNeg x1)) ≤ v4 → w_M_ofPlace_L108 Qr x0 x1 x3 v4 1 h2))))) ∧ (¬ x3 < (35 : Int32) → ∀ v11 : Int32, v11 = (xb_i h2 x0 15) → w_M_meant x0 x2 3 v4 h2 (fun (r13 : Int32) (h12 : xb_H) => xb_ext h2 h12 → ∃ b14 : Nat, (xb_r h12 x0 31) = some b14 ∧ xb_k h12 b14 = 102 ∧ vp_in x2 (xb_n h12 b14) ∧ w_M_go x0 (xb_i h12 b14 (Int32.toNatClampNeg x2)) v11 h12 (fun (h17 : xb_H) => xb_ext h12 h17 → ((¬ x3 = (35 : Int32) → ∃ b20 : Nat, (xb_r h17 x0 61) = some b20 ∧ ∃ b21 : Nat, (xb_r h17 x0 59) = some b21 ∧ xb_k h17 b21 = 102 ∧ vp_in r13 (xb_n h17 b21) ∧ w_M_pop x0 (xb_i h17 b21 (Int32.toNatClampNeg r13)) h17 (fun (r25 : Int64) (h24 : xb_H) => xb_ext h17 h24 → xb_k h24 b20 = 103 ∧ vp_in r13 (xb_n h24 b20) ∧ ∀ h28 : xb_H, h28 = xb_L h24 b20 (Int32.toNatClampNeg r13) r25 → w_M_ofPlace_L86 Qr h28)) ∧ (x3 = (35 : Int32) → ∃ b29 : Nat, (xb_r h17 x0 61) = some b29 ∧ xb_k h17 b29 = 103 ∧ vp_in r13 (xb_n h17 b29) ∧ ∃ b32 : Nat, (xb_r h17 x0 59) = some b32 ∧ xb_k h17 b32 = 102 ∧ vp_in r13 (xb_n h17 b32) ∧ w_M_add x0 (xb_l h17 b29 (Int32.toNatClampNeg r13)) (xb_i h17 b32 (Int32.toNatClampNeg r13)) h17 (fun (h35 : xb_H) => xb_ext h17 h35 → w_M_ofPlace_L86 Qr h35))))))))


def w_M_only_L27 (Qr : Int32 → xb_H → Prop) (y0 : Int32) (h : xb_H) : Prop :=
    Qr y0 h

def w_M_only (x0 : Nat) (x1 : Int32) (x2 : Int32) (h : xb_H) (Qr : Int32 → xb_H → Prop) : Prop :=
    xb_k h x0 = 9 ∧ ∃ b2 : Nat, (xb_r h x0 31) = some b2 ∧ xb_k h b2 = 102 ∧ vp_in x1 (xb_n h b2) ∧ w_M_total x0 (xb_i h b2 (Int32.toNatClampNeg x1)) x2 h (fun (r6 : Int64) (h5 : xb_H) => xb_ext h h5 → ((¬ r6 = (0 : Int64) → w_M_meant x0 x1 x2 0 h5 (fun (r9 : Int32) (h8 : xb_H) => xb_ext h5 h8 → w_M_only_L27 Qr r9 h8)) ∧ (r6 = (0 : Int64) → w_M_only_L27 Qr (-1) h5)))


def w_M_parameterOf (x0 : Nat) (x1 : Int32) (x2 : Int32) (h : xb_H) (Qr : Int32 → xb_H → Prop) : Prop :=
    ((x1 < (100000 : Int32) → xb_k h x0 = 9 ∧ ∃ b3 : Nat, (xb_r h x0 31) = some b3 ∧ ∃ b4 : Nat, (xb_r h x0 44) = some b4 ∧ xb_k h b4 = 102 ∧ vp_in x1 (xb_n h b4) ∧ xb_k h b3 = 102 ∧ vp_in (xb_i h b4 (Int32.toNatClampNeg x1)) (xb_n h b3) ∧ ∀ v9 : Int32, v9 = (xb_i h b3 (Int32.toNatClampNeg (xb_i h b4 (Int32.toNatClampNeg x1)))) → ∃ b10 : Nat, (xb_r h x0 10) = some b10 ∧ xb_k h b10 = 102 ∧ vp_in (4 * v9) (xb_n h b10) ∧ ∃ b13 : Nat, (xb_r h x0 45) = some b13 ∧ xb_k h b13 = 102 ∧ vp_in x1 (xb_n h b13) ∧ w_M_typeOf x0 v9 ((xb_i h b10 (Int32.toNatClampNeg (4 * v9))) + (xb_i h b13 (Int32.toNatClampNeg x1))) h (fun (r17 : Int32) (h16 : xb_H) => xb_ext h h16 → w_M_parameter x0 v9 r17 x2 h16 (fun (r19 : Int32) (h18 : xb_H) => xb_ext h16 h18 → Qr r19 h18))) ∧ (¬ x1 < (100000 : Int32) → Qr (127 - (x1 - 100000)) h))


def w_M_parametersOf (x0 : Nat) (x1 : Int32) (h : xb_H) (Qr : Int32 → xb_H → Prop) : Prop :=
    ((x1 < (100000 : Int32) → xb_k h x0 = 9 ∧ ∃ b3 : Nat, (xb_r h x0 31) = some b3 ∧ ∃ b4 : Nat, (xb_r h x0 44) = some b4 ∧ xb_k h b4 = 102 ∧ vp_in x1 (xb_n h b4) ∧ xb_k h b3 = 102 ∧ vp_in (xb_i h b4 (Int32.toNatClampNeg x1)) (xb_n h b3) ∧ ∀ v9 : Int32, v9 = (xb_i h b3 (Int32.toNatClampNeg (xb_i h b4 (Int32.toNatClampNeg x1)))) → ∃ b10 : Nat, (xb_r h x0 10) = some b10 ∧ xb_k h b10 = 102 ∧ vp_in (4 * v9) (xb_n h b10) ∧ ∃ b13 : Nat, (xb_r h x0 45) = some b13 ∧ xb_k h b13 = 102 ∧ vp_in x1 (xb_n h b13) ∧ w_M_typeOf x0 v9 ((xb_i h b10 (Int32.toNatClampNeg (4 * v9))) + (xb_i h b13 (Int32.toNatClampNeg x1))) h (fun (r17 : Int32) (h16 : xb_H) => xb_ext h h16 → w_M_parameters x0 v9 r17 h16 (fun (r19 : Int32) (h18 : xb_H) => xb_ext h16 h18 → Qr r19 h18))) ∧ (¬ x1 < (100000 : Int32) → Qr 1 h))


def w_M_reckon_L87 (Qr : xb_H → Prop) (h : xb_H) : Prop :=
    Qr h

def w_M_reckon_L21 (Qr : xb_H → Prop) (x0 : Nat) (x1 : Int32) (y0 : Int64) (h : xb_H) : Prop :=
    w_Exact_first x1 h (fun (r2 : Int32) (h1 : xb_H) => xb_ext h h1 → xb_k h1 x0 = 9 ∧ w_M_pop x0 (127 - r2) h1 (fun (r5 : Int64) (h4 : xb_H) => xb_ext h1 h4 → ∃ b6 : Nat, (xb_r h4 x0 90) = some b6 ∧ xb_k h4 b6 = 10 ∧ w_Exact_run b6 x1 r5 y0 h4 (fun (r9 : Int64) (h8 : xb_H) => xb_ext h4 h8 → ∃ b10 : Nat, (xb_r h8 x0 90) = some b10 ∧ xb_k h8 b10 = 10 ∧ (((xb_i h8 b10 0) ≤ (0 : Int32) → w_Exact_result x1 h8 (fun (r14 : Int32) (h13 : xb_H) => xb_ext h8 h13 → w_M_add x0 r9 (127 - r14) h13 (fun (h15 : xb_H) => xb_ext h13 h15 → w_M_reckon_L87 Qr h15))) ∧ (¬ (xb_i h8 b10 0) ≤ (0 : Int32) → ∃ b17 : Nat, (xb_r h8 x0 90) = some b17 ∧ xb_k h8 b17 = 10 ∧ ∀ h19 : xb_H, h19 = xb_I h8 x0 82 ((xb_i h8 b17 0) + 1) → w_M_reckon_L87 Qr h19)))))

def w_M_reckon (x0 : Nat) (x1 : Int32) (h : xb_H) (Qr : xb_H → Prop) : Prop :=
    w_Exact_second x1 h (fun (r2 : Int32) (h1 : xb_H) => xb_ext h h1 → ((r2 < (0 : Int32) → w_M_reckon_L21 Qr x0 x1 0 h1) ∧ (¬ r2 < (0 : Int32) → xb_k h1 x0 = 9 ∧ w_M_pop x0 (127 - r2) h1 (fun (r6 : Int64) (h5 : xb_H) => xb_ext h1 h5 → w_M_reckon_L21 Qr x0 x1 r6 h5))))


def w_M_resultTypeOf (x0 : Nat) (x1 : Int32) (h : xb_H) (Qr : Int32 → xb_H → Prop) : Prop :=
    ((x1 < (100000 : Int32) → xb_k h x0 = 9 ∧ ∃ b3 : Nat, (xb_r h x0 31) = some b3 ∧ ∃ b4 : Nat, (xb_r h x0 44) = some b4 ∧ xb_k h b4 = 102 ∧ vp_in x1 (xb_n h b4) ∧ xb_k h b3 = 102 ∧ vp_in (xb_i h b4 (Int32.toNatClampNeg x1)) (xb_n h b3) ∧ ∀ v9 : Int32, v9 = (xb_i h b3 (Int32.toNatClampNeg (xb_i h b4 (Int32.toNatClampNeg x1)))) → ∃ b10 : Nat, (xb_r h x0 10) = some b10 ∧ xb_k h b10 = 102 ∧ vp_in (4 * v9) (xb_n h b10) ∧ ∃ b13 : Nat, (xb_r h x0 45) = some b13 ∧ xb_k h b13 = 102 ∧ vp_in x1 (xb_n h b13) ∧ w_M_typeOf x0 v9 ((xb_i h b10 (Int32.toNatClampNeg (4 * v9))) + (xb_i h b13 (Int32.toNatClampNeg x1))) h (fun (r17 : Int32) (h16 : xb_H) => xb_ext h h16 → w_M_resultOf x0 v9 r17 h16 (fun (r19 : Int32) (h18 : xb_H) => xb_ext h16 h18 → Qr r19 h18))) ∧ (¬ x1 < (100000 : Int32) → Qr 64 h))


def w_M_sectionEntry_L180 (Qr : xb_H → Nat → Nat → Prop) (h : xb_H) (bc : Nat) (bs : Nat) : Prop :=
    Qr h bc bs

def w_M_sectionEntry_L163 (Qr : xb_H → Nat → Nat → Prop) (x0 : Nat) (h : xb_H) (bc : Nat) (bs : Nat) : Prop :=
    xb_k h x0 = 9 ∧ w_M_count x0 h (fun (r3 : Int64) (h2 : xb_H) => xb_ext h h2 → w_M_expression x0 h2 (fun (h4 : xb_H) => xb_ext h2 h4 → w_M_count x0 h4 (fun (r7 : Int64) (h6 : xb_H) => xb_ext h4 h6 → w_M_skip x0 r7 h6 (fun (h8 : xb_H) => xb_ext h6 h8 → w_M_sectionEntry_L180 Qr h8 bc bs))))

def w_M_sectionEntry (x0 : Nat) (x1 : Int32) (h : xb_H) (bc : Nat) (bs : Nat) (Qr : xb_H → Nat → Nat → Prop) : Prop :=
    xb_k h x0 = 9 ∧ w_M_note x0 x1 h bc bs (fun (h2 : xb_H) (bc3 bs3 : Nat) => xb_ext h h2 → ((x1 = 1 → w_M_wanted x0 96 96 h2 (fun (h5 : xb_H) => xb_ext h2 h5 → w_M_row x0 1 h5 (fun (h7 : xb_H) => xb_ext h5 h7 → w_M_row x0 1 h7 (fun (h9 : xb_H) => xb_ext h7 h9 → w_M_sectionEntry_L180 Qr h9 bc3 bs3)))) ∧ (x1 = 2 → w_M_importEntry x0 h2 (fun (h12 : xb_H) => xb_ext h2 h12 → w_M_sectionEntry_L180 Qr h12 bc3 bs3)) ∧ (x1 = 3 → w_M_count x0 h2 (fun (r16 : Int64) (h15 : xb_H) => xb_ext h2 h15 → w_M_sectionEntry_L180 Qr h15 bc3 bs3)) ∧ (x1 = 4 → w_M_tableType x0 h2 (fun (h18 : xb_H) => xb_ext h2 h18 → w_M_sectionEntry_L180 Qr h18 bc3 bs3)) ∧ (x1 = 5 → w_M_limits x0 h2 (fun (h21 : xb_H) => xb_ext h2 h21 → w_M_sectionEntry_L180 Qr h21 bc3 bs3)) ∧ (x1 = 6 → w_M_variableKind x0 h2 (fun (h24 : xb_H) => xb_ext h2 h24 → w_M_expression x0 h24 (fun (h26 : xb_H) => xb_ext h24 h26 → w_M_sectionEntry_L180 Qr h26 bc3 bs3))) ∧ (x1 = 7 → w_M_name0 x0 h2 (fun (h29 : xb_H) => xb_ext h2 h29 → w_M_wanted x0 0 3 h29 (fun (h31 : xb_H) => xb_ext h29 h31 → w_M_count x0 h31 (fun (r34 : Int64) (h33 : xb_H) => xb_ext h31 h33 → w_M_sectionEntry_L180 Qr h33 bc3 bs3)))) ∧ (x1 = 8 → w_M_sectionEntry_L163 Qr x0 h2 bc3 bs3) ∧ (x1 = 9 → w_M_count x0 h2 (fun (r38 : Int64) (h37 : xb_H) => xb_ext h2 h37 → w_M_expression x0 h37 (fun (h39 : xb_H) => xb_ext h37 h39 → w_M_row x0 0 h39 (fun (h41 : xb_H) => xb_ext h39 h41 → w_M_sectionEntry_L180 Qr h41 bc3 bs3)))) ∧ (x1 = 10 → w_M_body x0 h2 (fun (h44 : xb_H) => xb_ext h2 h44 → w_M_sectionEntry_L180 Qr h44 bc3 bs3)) ∧ (¬ x1 = 1 → ¬ x1 = 2 → ¬ x1 = 3 → ¬ x1 = 4 → ¬ x1 = 5 → ¬ x1 = 6 → ¬ x1 = 7 → ¬ x1 = 8 → ¬ x1 = 9 → ¬ x1 = 10 → w_M_sectionEntry_L163 Qr x0 h2 bc3 bs3)))


def w_M_variable_L61 (Qr : Int64 → xb_H → Prop) (y0 : Int64) (h : xb_H) : Prop :=
    Qr y0 h

def w_M_variable_L35 (Qr : Int64 → xb_H → Prop) (x0 : Nat) (x1 : Int32) (x2 : Int32) (y0 : Int32) (y1 : Nat) (h : xb_H) : Prop :=
    xb_k h y1 = 9 ∧ ∀ h2 : xb_H, h2 = xb_I h y1 0 y0 → xb_k h2 x0 = 9 ∧ (((xb_i h2 x0 0) ≤ (0 : Int32) → ∃ b5 : Nat, (xb_r h2 x0 61) = some b5 ∧ w_M_meant x0 x1 3 x2 h2 (fun (r7 : Int32) (h6 : xb_H) => xb_ext h2 h6 → xb_k h6 b5 = 103 ∧ vp_in r7 (xb_n h6 b5) ∧ w_M_variable_L61 Qr (xb_l h6 b5 (Int32.toNatClampNeg r7)) h6)) ∧ (¬ (xb_i h2 x0 0) ≤ (0 : Int32) → w_M_variable_L61 Qr 0 h2))

def w_M_variable_L34 (Qr : Int64 → xb_H → Prop) (x0 : Nat) (x1 : Int32) (x2 : Int32) (y0 : Nat) (h : xb_H) : Prop :=
    w_M_variable_L35 Qr x0 x1 x2 1 y0 h

def w_M_variable (x0 : Nat) (x1 : Int32) (x2 : Int32) (h : xb_H) (Qr : Int64 → xb_H → Prop) : Prop :=
    xb_k h x0 = 9 ∧ w_M_isInstance x0 x1 h (fun (r3 : Int32) (h2 : xb_H) => xb_ext h h2 → ((r3 = (0 : Int32) → w_M_variable_L34 Qr x0 x1 x2 x0 h2) ∧ (¬ r3 = (0 : Int32) → ((x2 < (0 : Int32) → w_M_variable_L34 Qr x0 x1 x2 x0 h2) ∧ (¬ x2 < (0 : Int32) → ∃ b6 : Nat, (xb_r h2 x0 31) = some b6 ∧ xb_k h2 b6 = 102 ∧ vp_in x1 (xb_n h2 b6) ∧ w_M_total x0 (xb_i h2 b6 (Int32.toNatClampNeg x1)) 3 h2 (fun (r10 : Int64) (h9 : xb_H) => xb_ext h2 h9 → ((r10 ≤ (Int32.toInt64 x2) → w_M_variable_L34 Qr x0 x1 x2 x0 h9) ∧ (¬ r10 ≤ (Int32.toInt64 x2) → w_M_variable_L35 Qr x0 x1 x2 0 x0 h9))))))))


def w_H_run_L11 (Qr : Int32 → xb_H → Nat → Nat → Prop) (Qt : String → xb_H → Nat → Nat → Prop) (h : xb_H) (bc : Nat) (bs : Nat) : Prop :=
    1 ≤ bc ∧ 6 ≤ bs ∧ Qt "java/lang/IllegalArgumentException" h (bc - 1) (bs - 6)

def w_H_run (x0 : Nat) (x1 : Int32) (h : xb_H) (bc : Nat) (bs : Nat) (Qr : Int32 → xb_H → Nat → Nat → Prop) (Qt : String → xb_H → Nat → Nat → Prop) : Prop :=
    ((x1 < (0 : Int32) → w_H_run_L11 Qr Qt h bc bs) ∧ (¬ x1 < (0 : Int32) → ((x1 ≤ (1000000 : Int32) → xb_k h x0 = 1 ∧ ∃ b4 : Nat, (xb_r h x0 7) = some b4 ∧ xb_k h b4 = 8 ∧ ((¬ (xb_i h b4 3) = (0 : Int32) → ∃ b7 : Nat, (xb_r h x0 7) = some b7 ∧ xb_k h b7 = 8 ∧ w_Machine_go b7 x1 h bc bs (fun (r10 : Int32) (h9 : xb_H) (bc10 bs10 : Nat) => xb_ext h h9 → Qr r10 h9 bc10 bs10)) ∧ ((xb_i h b4 3) = (0 : Int32) → 1 ≤ bc ∧ 6 ≤ bs ∧ Qt "java/lang/IllegalStateException" h (bc - 1) (bs - 6)))) ∧ (¬ x1 ≤ (1000000 : Int32) → w_H_run_L11 Qr Qt h bc bs))))


def w_Law_load (x0 : Nat) (x1 : Nat) (h : xb_H) (bc : Nat) (bs : Nat) (Qr : Int32 → xb_H → Nat → Nat → Prop) : Prop :=
    xb_k h x0 = 1 ∧ w_H_load x0 h bc bs (fun (r3 : Int32) (h2 : xb_H) (bc3 bs3 : Nat) => xb_ext h h2 → xb_k h2 x1 = 103 ∧ vp_in 0 (xb_n h2 x1) ∧ ∀ h6 : xb_H, h6 = xb_L h2 x1 (Int32.toNatClampNeg 0) (Int32.toInt64 r3) → Qr 0 h6 bc3 bs3) (fun (XX : String) (h2 : xb_H) (bc3 bs3 : Nat) => xb_ext h h2 → ∀ ax : Nat, (XX = "java/lang/IllegalStateException" ∧ Qr 1 h2 bc3 bs3))


def w_M_call_L324 (Qr : xb_H → Prop) : Nat → Nat → Int32 → Int32 → Int32 → Int32 → xb_H → Prop
  | 0, _, _, _, _, _, _ => False
  | n9 + 1, x0, x1, x3, x8, x9, h =>
    xb_k h x0 = 9 ∧ (((xb_i h x0 20) ≤ x9 → ∃ b3 : Nat, (xb_r h x0 69) = some b3 ∧ xb_k h b3 = 102 ∧ vp_in (xb_i h x0 68) (xb_n h b3) ∧ ∀ h6 : xb_H, h6 = xb_I h b3 (Int32.toNatClampNeg (xb_i h x0 68)) x1 → ∃ b7 : Nat, (xb_r h6 x0 70) = some b7 ∧ xb_k h6 b7 = 102 ∧ vp_in (xb_i h6 x0 68) (xb_n h6 b7) ∧ ∀ h10 : xb_H, h10 = xb_I h6 b7 (Int32.toNatClampNeg (xb_i h6 x0 68)) (xb_i h6 x0 15) → ∃ b11 : Nat, (xb_r h10 x0 71) = some b11 ∧ xb_k h10 b11 = 102 ∧ vp_in (xb_i h10 x0 68) (xb_n h10 b11) ∧ ∀ h14 : xb_H, h14 = xb_I h10 b11 (Int32.toNatClampNeg (xb_i h10 x0 68)) x3 → ∃ b15 : Nat, (xb_r h14 x0 72) = some b15 ∧ xb_k h14 b15 = 102 ∧ vp_in (xb_i h14 x0 68) (xb_n h14 b15) ∧ ∀ h18 : xb_H, h18 = xb_I h14 b15 (Int32.toNatClampNeg (xb_i h14 x0 68)) (xb_i h14 x0 20) → ∃ b19 : Nat, (xb_r h18 x0 73) = some b19 ∧ xb_k h18 b19 = 102 ∧ vp_in (xb_i h18 x0 68) (xb_n h18 b19) ∧ ∀ h22 : xb_H, h22 = xb_I h18 b19 (Int32.toNatClampNeg (xb_i h18 x0 68)) (xb_i h18 x0 81) → ∀ h23 : xb_H, h23 = xb_I h22 x0 68 ((xb_i h22 x0 68) + 1) → w_M_open x0 0 x8 h23 (fun (h24 : xb_H) => xb_ext h23 h24 → Qr h24)) ∧ (¬ (xb_i h x0 20) ≤ x9 → ∃ b26 : Nat, (xb_r h x0 19) = some b26 ∧ xb_k h b26 = 100 ∧ vp_in x9 (xb_n h b26) ∧ w_M_add x0 0 (xb_i h b26 (Int32.toNatClampNeg x9)) h (fun (h29 : xb_H) => xb_ext h h29 → w_M_call_L324 Qr n9 x0 x1 x3 x8 (x9 + 1) h29)))

def w_M_call_L307 (Qr : xb_H → Prop) (x0 : Nat) (h : xb_H) : Prop :=
    xb_k h x0 = 9 ∧ ∀ h2 : xb_H, h2 = xb_I h x0 82 9 → Qr h2

def w_M_call_L174 (Qr : xb_H → Prop) (h : xb_H) : Prop :=
    Qr h

def w_M_call_L115 (Qr : xb_H → Prop) (x0 : Nat) (x1 : Int32) (x2 : Int32) (x3 : Int32) (y0 : Int32) (y1 : Nat) (h : xb_H) : Prop :=
    xb_k h y1 = 9 ∧ (y0 = 0 ∨ y0 = 1) ∧ ∀ h3 : xb_H, h3 = xb_I h y1 94 y0 → ((x1 < (100000 : Int32) → xb_k h3 x0 = 9 ∧ ∃ b6 : Nat, (xb_r h3 x0 44) = some b6 ∧ xb_k h3 b6 = 102 ∧ vp_in x1 (xb_n h3 b6) ∧ ∀ v9 : Int32, v9 = (xb_i h3 b6 (Int32.toNatClampNeg x1)) → ∃ b10 : Nat, (xb_r h3 x0 31) = some b10 ∧ xb_k h3 b10 = 102 ∧ vp_in v9 (xb_n h3 b10) ∧ ∀ v13 : Int32, v13 = (xb_i h3 b10 (Int32.toNatClampNeg v9)) → ∃ b14 : Nat, (xb_r h3 x0 10) = some b14 ∧ xb_k h3 b14 = 102 ∧ vp_in (4 * v13) (xb_n h3 b14) ∧ ∃ b17 : Nat, (xb_r h3 x0 45) = some b17 ∧ xb_k h3 b17 = 102 ∧ vp_in x1 (xb_n h3 b17) ∧ w_M_typeOf x0 v13 ((xb_i h3 b14 (Int32.toNatClampNeg (4 * v13))) + (xb_i h3 b17 (Int32.toNatClampNeg x1))) h3 (fun (r21 : Int32) (h20 : xb_H) => xb_ext h3 h20 → w_M_resultOf x0 v13 r21 h20 (fun (r23 : Int32) (h22 : xb_H) => xb_ext h20 h22 → ∃ b24 : Nat, (xb_r h22 x0 45) = some b24 ∧ xb_k h22 b24 = 102 ∧ vp_in x1 (xb_n h22 b24) ∧ w_M_placeOf x0 v13 10 (xb_i h22 b24 (Int32.toNatClampNeg x1)) h22 (fun (r28 : Int32) (h27 : xb_H) => xb_ext h22 h27 → w_M_go x0 v13 r28 h27 (fun (h29 : xb_H) => xb_ext h27 h29 → w_M_count x0 h29 (fun (r32 : Int64) (h31 : xb_H) => xb_ext h29 h31 → w_M_readLocals x0 v13 r21 h31 (fun (h33 : xb_H) => xb_ext h31 h33 → (((xb_i h33 x0 68) = (200 : Int32) → w_M_call_L307 Qr x0 h33) ∧ (¬ (xb_i h33 x0 68) = (200 : Int32) → ∃ b36 : Nat, (xb_r h33 x0 12) = some b36 ∧ ∃ b37 : Nat, (xb_r h33 x0 8) = some b37 ∧ xb_k h33 b37 = 102 ∧ vp_in ((12 * v13) + 10) (xb_n h33 b37) ∧ ∃ b40 : Nat, (xb_r h33 x0 45) = some b40 ∧ xb_k h33 b40 = 102 ∧ vp_in x1 (xb_n h33 b40) ∧ xb_k h33 b36 = 102 ∧ vp_in ((xb_i h33 b37 (Int32.toNatClampNeg ((12 * v13) + 10))) + (xb_i h33 b40 (Int32.toNatClampNeg x1))) (xb_n h33 b36) ∧ ((((x3 + (xb_i h33 x0 20)) + (xb_i h33 b36 (Int32.toNatClampNeg ((xb_i h33 b37 (Int32.toNatClampNeg ((12 * v13) + 10))) + (xb_i h33 b40 (Int32.toNatClampNeg x1)))))) ≤ (16384 : Int32) → ∀ h46 : xb_H, h46 = xb_I h33 x0 76 (x3 + x2) → (∃ n8 : Nat, w_M_call_L324 Qr n8 x0 x1 x3 r23 x2 h46)) ∧ (¬ ((x3 + (xb_i h33 x0 20)) + (xb_i h33 b36 (Int32.toNatClampNeg ((xb_i h33 b37 (Int32.toNatClampNeg ((12 * v13) + 10))) + (xb_i h33 b40 (Int32.toNatClampNeg x1)))))) ≤ (16384 : Int32) → w_M_call_L307 Qr x0 h33))))))))))) ∧ (¬ x1 < (100000 : Int32) → xb_k h3 x0 = 9 ∧ ∀ h48 : xb_H, h48 = xb_I h3 x0 76 x3 → ((¬ (xb_i h48 x0 88) = (4096 : Int32) → ∃ b50 : Nat, (xb_r h48 x0 87) = some b50 ∧ ∃ b51 : Nat, (xb_r h48 x0 74) = some b51 ∧ xb_k h48 b51 = 103 ∧ vp_in x3 (xb_n h48 b51) ∧ xb_k h48 b50 = 103 ∧ vp_in (xb_i h48 x0 88) (xb_n h48 b50) ∧ ∀ h56 : xb_H, h56 = xb_L h48 b50 (Int32.toNatClampNeg (xb_i h48 x0 88)) (xb_l h48 b51 (Int32.toNatClampNeg x3)) → ∀ h57 : xb_H, h57 = xb_I h56 x0 88 ((xb_i h56 x0 88) + 1) → w_M_call_L174 Qr h57) ∧ ((xb_i h48 x0 88) = (4096 : Int32) → ∀ h58 : xb_H, h58 = xb_I h48 x0 82 10 → w_M_call_L174 Qr h58))))

def w_M_call_L110 (Qr : xb_H → Prop) (x0 : Nat) (x1 : Int32) (x2 : Int32) (x3 : Int32) (y0 : Nat) (h : xb_H) : Prop :=
    w_M_call_L115 Qr x0 x1 x2 x3 1 y0 h

def w_M_call_L97 (Qr : xb_H → Prop) (x0 : Nat) (x1 : Int32) (x2 : Int32) (x3 : Int32) (x4 : Int32) (h : xb_H) : Prop :=
    xb_k h x0 = 9 ∧ ((¬ (xb_i h x0 94) = (0 : Int32) → w_M_call_L110 Qr x0 x1 x2 x3 x0 h) ∧ ((xb_i h x0 94) = (0 : Int32) → ((¬ x4 = (0 : Int32) → w_M_call_L115 Qr x0 x1 x2 x3 0 x0 h) ∧ (x4 = (0 : Int32) → w_M_call_L110 Qr x0 x1 x2 x3 x0 h))))

def w_M_call_L88 (K45 : Nat → Int32 → Int32 → Int32 → Int32 → Int32 → xb_H → Prop) (Qr : xb_H → Prop) (x0 : Nat) (x1 : Int32) (x2 : Int32) (x3 : Int32) (x4 : Int32) (x5 : Int32) (y0 : Int32) (y1 : Nat) (h : xb_H) : Prop :=
    xb_k h y1 = 9 ∧ (y0 = 0 ∨ y0 = 1) ∧ ∀ h3 : xb_H, h3 = xb_I h y1 94 y0 → K45 x0 x1 x2 x3 x4 (x5 + 1) h3

def w_M_call_L83 (K45 : Nat → Int32 → Int32 → Int32 → Int32 → Int32 → xb_H → Prop) (Qr : xb_H → Prop) (x0 : Nat) (x1 : Int32) (x2 : Int32) (x3 : Int32) (x4 : Int32) (x5 : Int32) (y0 : Nat) (h : xb_H) : Prop :=
    w_M_call_L88 K45 Qr x0 x1 x2 x3 x4 x5 1 y0 h

def w_M_call_L45 (Qr : xb_H → Prop) : Nat → Nat → Int32 → Int32 → Int32 → Int32 → Int32 → xb_H → Prop
  | 0, _, _, _, _, _, _, _ => False
  | n9 + 1, x0, x1, x2, x3, x4, x5, h =>
    ((x2 ≤ x5 → w_M_call_L97 Qr x0 x1 x2 x3 x4 h) ∧ (¬ x2 ≤ x5 → ((x4 = (0 : Int32) → w_M_call_L97 Qr x0 x1 x2 x3 x4 h) ∧ (¬ x4 = (0 : Int32) → xb_k h x0 = 9 ∧ ((¬ (xb_i h x0 94) = (0 : Int32) → w_M_call_L83 (w_M_call_L45 Qr n9) Qr x0 x1 x2 x3 x4 x5 x0 h) ∧ ((xb_i h x0 94) = (0 : Int32) → ∃ b5 : Nat, (xb_r h x0 75) = some b5 ∧ xb_k h b5 = 100 ∧ vp_in (x3 + x5) (xb_n h b5) ∧ w_M_parameterOf x0 x1 x5 h (fun (r9 : Int32) (h8 : xb_H) => xb_ext h h8 → (((xb_i h b5 (Int32.toNatClampNeg (x3 + x5))) = r9 → w_M_call_L88 (w_M_call_L45 Qr n9) Qr x0 x1 x2 x3 x4 x5 0 x0 h8) ∧ (¬ (xb_i h b5 (Int32.toNatClampNeg (x3 + x5))) = r9 → w_M_call_L83 (w_M_call_L45 Qr n9) Qr x0 x1 x2 x3 x4 x5 x0 h8)))))))))

def w_M_call_L40 (Qr : xb_H → Prop) (x0 : Nat) (x1 : Int32) (x2 : Int32) (x3 : Int32) (y0 : Int32) (h : xb_H) : Prop :=
    (∃ n8 : Nat, w_M_call_L45 Qr n8 x0 x1 x2 x3 y0 0 h)

def w_M_call_L35 (Qr : xb_H → Prop) (x0 : Nat) (x1 : Int32) (x2 : Int32) (x3 : Int32) (h : xb_H) : Prop :=
    w_M_call_L40 Qr x0 x1 x2 x3 1 h

def w_M_call (x0 : Nat) (x1 : Int32) (h : xb_H) (Qr : xb_H → Prop) : Prop :=
    xb_k h x0 = 9 ∧ w_M_parametersOf x0 x1 h (fun (r3 : Int32) (h2 : xb_H) => xb_ext h h2 → ∀ v4 : Int32, v4 = ((xb_i h2 x0 76) - r3) → (((xb_i h2 x0 68) = (0 : Int32) → w_M_call_L35 Qr x0 x1 r3 v4 h2) ∧ (¬ (xb_i h2 x0 68) = (0 : Int32) → ∃ b6 : Nat, (xb_r h2 x0 80) = some b6 ∧ xb_k h2 b6 = 102 ∧ vp_in ((xb_i h2 x0 81) - 1) (xb_n h2 b6) ∧ ((v4 < (xb_i h2 b6 (Int32.toNatClampNeg ((xb_i h2 x0 81) - 1))) → w_M_call_L40 Qr x0 x1 r3 v4 0 h2) ∧ (¬ v4 < (xb_i h2 b6 (Int32.toNatClampNeg ((xb_i h2 x0 81) - 1))) → w_M_call_L35 Qr x0 x1 r3 v4 h2)))))


def w_M_checkConstant_L203 (Qr : xb_H → Prop) (h : xb_H) : Prop :=
    Qr h

def w_M_checkConstant_L173 (Qr : xb_H → Prop) (x0 : Nat) (h : xb_H) : Prop :=
    xb_k h x0 = 9 ∧ ((¬ (xb_i h x0 17) = (0 : Int32) → w_M_checkConstant_L203 Qr h) ∧ ((xb_i h x0 17) = (0 : Int32) → ∀ v3 : Int32, v3 = (xb_i h x0 15) → w_M_next x0 h (fun (r5 : Int32) (h4 : xb_H) => xb_ext h h4 → ((r5 = (11 : Int32) → w_M_checkConstant_L203 Qr h4) ∧ (¬ r5 = (11 : Int32) → w_M_fail x0 26 v3 h4 (fun (h7 : xb_H) => xb_ext h4 h7 → w_M_checkConstant_L203 Qr h7))))))

def w_M_checkConstant_L166 (Qr : xb_H → Prop) (x0 : Nat) (x3 : Int32) (h : xb_H) : Prop :=
    xb_k h x0 = 9 ∧ w_M_fail x0 26 x3 h (fun (h2 : xb_H) => xb_ext h h2 → w_M_checkConstant_L173 Qr x0 h2)

def w_M_checkConstant_L116 (Qr : xb_H → Prop) (x0 : Nat) (h : xb_H) : Prop :=
    w_M_checkConstant_L173 Qr x0 h

def w_M_checkConstant (x0 : Nat) (x1 : Int32) (x2 : Int32) (h : xb_H) (Qr : xb_H → Prop) : Prop :=
    xb_k h x0 = 9 ∧ ∀ v2 : Int32, v2 = (xb_i h x0 15) → w_M_next x0 h (fun (r4 : Int32) (h3 : xb_H) => xb_ext h h3 → ∀ v5 : Int32, v5 = (xb_i h3 x0 15) → ((¬ r4 = (35 : Int32) → ((r4 < (65 : Int32) → w_M_checkConstant_L166 Qr x0 v2 h3) ∧ (¬ r4 < (65 : Int32) → (((68 : Int32) < r4 → w_M_checkConstant_L166 Qr x0 v2 h3) ∧ (¬ (68 : Int32) < r4 → ∀ h9 : xb_H, h9 = xb_I h3 x0 15 v5 → w_M_written x0 r4 v2 h9 (fun (h10 : xb_H) => xb_ext h9 h10 → ((x2 = (192 - r4) → w_M_checkConstant_L173 Qr x0 h10) ∧ (¬ x2 = (192 - r4) → w_M_fail x0 21 v2 h10 (fun (h13 : xb_H) => xb_ext h10 h13 → w_M_checkConstant_L173 Qr x0 h13))))))))) ∧ (r4 = (35 : Int32) → w_M_count x0 h3 (fun (r16 : Int64) (h15 : xb_H) => xb_ext h3 h15 → ∀ v17 : Int32, v17 = (xb_i h15 x0 15) → ∃ b18 : Nat, (xb_r h15 x0 10) = some b18 ∧ xb_k h15 b18 = 102 ∧ vp_in ((4 * x1) + 3) (xb_n h15 b18) ∧ ((r16 < (Int32.toInt64 (xb_i h15 b18 (Int32.toNatClampNeg ((4 * x1) + 3)))) → w_M_changes x0 x1 (Int64.toInt32 r16) h15 (fun (r23 : Int32) (h22 : xb_H) => xb_ext h15 h22 → w_M_variableTypeOf x0 x1 (Int64.toInt32 r16) h22 (fun (r25 : Int32) (h24 : xb_H) => xb_ext h22 h24 → w_M_go x0 x1 v17 h24 (fun (h26 : xb_H) => xb_ext h24 h26 → ((r23 = (0 : Int32) → ((r25 = x2 → w_M_checkConstant_L116 Qr x0 h26) ∧ (¬ r25 = x2 → w_M_fail x0 21 v2 h26 (fun (h30 : xb_H) => xb_ext h26 h30 → w_M_checkConstant_L116 Qr x0 h30)))) ∧ (¬ r23 = (0 : Int32) → w_M_fail x0 26 v2 h26 (fun (h32 : xb_H) => xb_ext h26 h32 → w_M_checkConstant_L116 Qr x0 h32))))))) ∧ (¬ r16 < (Int32.toInt64 (xb_i h15 b18 (Int32.toNatClampNeg ((4 * x1) + 3)))) → w_M_fail x0 20 v2 h15 (fun (h34 : xb_H) => xb_ext h15 h34 → Qr h34)))))))


def w_M_checkPlace_L157 (Qr : xb_H → Prop) (h : xb_H) : Prop :=
    Qr h

def w_M_checkPlace_L96 (Qr : xb_H → Prop) (x0 : Nat) (x1 : Int32) (x2 : Int32) (x3 : Int64) (y0 : Int32) (y1 : Nat) (h : xb_H) : Prop :=
    xb_k h y1 = 9 ∧ w_M_need y1 y0 20 h (fun (h2 : xb_H) => xb_ext h h2 → xb_k h2 x0 = 9 ∧ (((xb_i h2 x0 17) = (0 : Int32) → w_M_changes x0 x1 (Int64.toInt32 x3) h2 (fun (r7 : Int32) (h6 : xb_H) => xb_ext h2 h6 → w_M_variableTypeOf x0 x1 (Int64.toInt32 x3) h6 (fun (r9 : Int32) (h8 : xb_H) => xb_ext h6 h8 → ((¬ x2 = (35 : Int32) → w_M_need x0 r7 23 h8 (fun (h11 : xb_H) => xb_ext h8 h11 → w_M_take x0 r9 h11 (fun (r14 : Int32) (h13 : xb_H) => xb_ext h11 h13 → w_M_checkPlace_L157 Qr h13))) ∧ (x2 = (35 : Int32) → w_M_put x0 r9 h8 (fun (h15 : xb_H) => xb_ext h8 h15 → w_M_checkPlace_L157 Qr h15)))))) ∧ (¬ (xb_i h2 x0 17) = (0 : Int32) → Qr h2)))

def w_M_checkPlace_L78 (Qr : xb_H → Prop) (h : xb_H) : Prop :=
    Qr h

def w_M_checkPlace_L66 (Qr : xb_H → Prop) (x0 : Nat) (x2 : Int32) (x5 : Int32) (h : xb_H) : Prop :=
    ((x2 = (33 : Int32) → w_M_checkPlace_L78 Qr h) ∧ (¬ x2 = (33 : Int32) → xb_k h x0 = 9 ∧ w_M_put x0 x5 h (fun (h3 : xb_H) => xb_ext h h3 → w_M_checkPlace_L78 Qr h3)))

def w_M_checkPlace_L51 (Qr : xb_H → Prop) (x0 : Nat) (x2 : Int32) (y0 : Int32) (h : xb_H) : Prop :=
    ((x2 ≤ (32 : Int32) → w_M_checkPlace_L66 Qr x0 x2 y0 h) ∧ (¬ x2 ≤ (32 : Int32) → xb_k h x0 = 9 ∧ w_M_take x0 y0 h (fun (r4 : Int32) (h3 : xb_H) => xb_ext h h3 → w_M_checkPlace_L66 Qr x0 x2 y0 h3)))

def w_M_checkPlace_L27 (Qr : xb_H → Prop) (x0 : Nat) (x2 : Int32) (x3 : Int64) (y0 : Int32) (y1 : Nat) (h : xb_H) : Prop :=
    xb_k h y1 = 9 ∧ w_M_need y1 y0 20 h (fun (h2 : xb_H) => xb_ext h h2 → xb_k h2 x0 = 9 ∧ ((¬ (xb_i h2 x0 17) = (0 : Int32) → w_M_checkPlace_L51 Qr x0 x2 127 h2) ∧ ((xb_i h2 x0 17) = (0 : Int32) → ∃ b6 : Nat, (xb_r h2 x0 19) = some b6 ∧ xb_k h2 b6 = 100 ∧ vp_in (Int64.toInt32 x3) (xb_n h2 b6) ∧ w_M_checkPlace_L51 Qr x0 x2 (xb_i h2 b6 (Int32.toNatClampNeg (Int64.toInt32 x3))) h2)))

def w_M_checkPlace (x0 : Nat) (x1 : Int32) (x2 : Int32) (h : xb_H) (Qr : xb_H → Prop) : Prop :=
    xb_k h x0 = 9 ∧ w_M_count x0 h (fun (r3 : Int64) (h2 : xb_H) => xb_ext h h2 → (((35 : Int32) ≤ x2 → w_M_total x0 x1 3 h2 (fun (r6 : Int64) (h5 : xb_H) => xb_ext h2 h5 → ((r6 ≤ r3 → w_M_checkPlace_L96 Qr x0 x1 x2 r3 0 x0 h5) ∧ (¬ r6 ≤ r3 → w_M_checkPlace_L96 Qr x0 x1 x2 r3 1 x0 h5)))) ∧ (¬ (35 : Int32) ≤ x2 → (((Int32.toInt64 (xb_i h2 x0 20)) ≤ r3 → w_M_checkPlace_L27 Qr x0 x2 r3 0 x0 h2) ∧ (¬ (Int32.toInt64 (xb_i h2 x0 20)) ≤ r3 → w_M_checkPlace_L27 Qr x0 x2 r3 1 x0 h2)))))


def w_M_element_L43 (Qr : Int32 → xb_H → Prop) (x0 : Nat) (x2 : Int32) (x3 : Int32) (y0 : Int32) (y1 : Nat) (h : xb_H) : Prop :=
    xb_k h y1 = 9 ∧ ∀ h2 : xb_H, h2 = xb_I h y1 0 y0 → xb_k h2 x0 = 9 ∧ (((xb_i h2 x0 0) ≤ (0 : Int32) → ∃ b5 : Nat, (xb_r h2 x0 51) = some b5 ∧ ∃ b6 : Nat, (xb_r h2 x0 48) = some b6 ∧ xb_k h2 b6 = 102 ∧ vp_in x3 (xb_n h2 b6) ∧ xb_k h2 b5 = 102 ∧ vp_in ((xb_i h2 b6 (Int32.toNatClampNeg x3)) + x2) (xb_n h2 b5) ∧ ∀ v11 : Int32, v11 = ((xb_i h2 b5 (Int32.toNatClampNeg ((xb_i h2 b6 (Int32.toNatClampNeg x3)) + x2))) - 1) → (((0 : Int32) ≤ v11 → ((v11 < (100000 : Int32) → ∃ b14 : Nat, (xb_r h2 x0 44) = some b14 ∧ xb_k h2 b14 = 102 ∧ vp_in v11 (xb_n h2 b14) ∧ ∃ b17 : Nat, (xb_r h2 x0 10) = some b17 ∧ ∃ b18 : Nat, (xb_r h2 x0 31) = some b18 ∧ ∃ b19 : Nat, (xb_r h2 x0 44) = some b19 ∧ xb_k h2 b19 = 102 ∧ vp_in v11 (xb_n h2 b19) ∧ xb_k h2 b18 = 102 ∧ vp_in (xb_i h2 b19 (Int32.toNatClampNeg v11)) (xb_n h2 b18) ∧ xb_k h2 b17 = 102 ∧ vp_in (4 * (xb_i h2 b18 (Int32.toNatClampNeg (xb_i h2 b19 (Int32.toNatClampNeg v11))))) (xb_n h2 b17) ∧ ∃ b26 : Nat, (xb_r h2 x0 45) = some b26 ∧ xb_k h2 b26 = 102 ∧ vp_in v11 (xb_n h2 b26) ∧ Qr (((65536 * (xb_i h2 b14 (Int32.toNatClampNeg v11))) + (xb_i h2 b17 (Int32.toNatClampNeg (4 * (xb_i h2 b18 (Int32.toNatClampNeg (xb_i h2 b19 (Int32.toNatClampNeg v11)))))))) + (xb_i h2 b26 (Int32.toNatClampNeg v11))) h2) ∧ (¬ v11 < (100000 : Int32) → Qr ((2147418112 + v11) - 100000) h2))) ∧ (¬ (0 : Int32) ≤ v11 → Qr (-1) h2))) ∧ (¬ (xb_i h2 x0 0) ≤ (0 : Int32) → Qr 0 h2))

def w_M_element_L42 (Qr : Int32 → xb_H → Prop) (x0 : Nat) (x2 : Int32) (x3 : Int32) (y0 : Nat) (h : xb_H) : Prop :=
    w_M_element_L43 Qr x0 x2 x3 1 y0 h

def w_M_element_L18 (Qr : Int32 → xb_H → Prop) (x0 : Nat) (x2 : Int32) (y0 : Int32) (h : xb_H) : Prop :=
    ((y0 < (0 : Int32) → w_M_element_L42 Qr x0 x2 y0 x0 h) ∧ (¬ y0 < (0 : Int32) → ((x2 < (0 : Int32) → w_M_element_L42 Qr x0 x2 y0 x0 h) ∧ (¬ x2 < (0 : Int32) → xb_k h x0 = 9 ∧ ∃ b4 : Nat, (xb_r h x0 49) = some b4 ∧ xb_k h b4 = 102 ∧ vp_in y0 (xb_n h b4) ∧ (((xb_i h b4 (Int32.toNatClampNeg y0)) ≤ x2 → w_M_element_L42 Qr x0 x2 y0 x0 h) ∧ (¬ (xb_i h b4 (Int32.toNatClampNeg y0)) ≤ x2 → w_M_element_L43 Qr x0 x2 y0 0 x0 h))))))

def w_M_element (x0 : Nat) (x1 : Int32) (x2 : Int32) (h : xb_H) (Qr : Int32 → xb_H → Prop) : Prop :=
    xb_k h x0 = 9 ∧ w_M_isInstance x0 x1 h (fun (r3 : Int32) (h2 : xb_H) => xb_ext h h2 → ((r3 = (0 : Int32) → w_M_element_L18 Qr x0 x2 (-1) h2) ∧ (¬ r3 = (0 : Int32) → w_M_only x0 x1 1 h2 (fun (r6 : Int32) (h5 : xb_H) => xb_ext h2 h5 → w_M_element_L18 Qr x0 x2 r6 h5))))


def w_M_exported_L126 (Qr : Int32 → xb_H → Prop) (y0 : Int32) (h : xb_H) : Prop :=
    Qr y0 h

def w_M_exported_L78 (Qr : Int32 → xb_H → Prop) (y0 : Int32) (h : xb_H) : Prop :=
    Qr y0 h

def w_M_exported_L24 (Qr : Int32 → xb_H → Prop) (x0 : Nat) (x1 : Int32) (x2 : Int32) (x3 : Int32) (y0 : Int32) (y1 : Nat) (h : xb_H) : Prop :=
    xb_k h y1 = 9 ∧ ∀ h2 : xb_H, h2 = xb_I h y1 0 y0 → xb_k h2 x0 = 9 ∧ (((xb_i h2 x0 0) ≤ (0 : Int32) → ∃ b5 : Nat, (xb_r h2 x0 31) = some b5 ∧ xb_k h2 b5 = 102 ∧ vp_in x1 (xb_n h2 b5) ∧ ∀ v8 : Int32, v8 = (xb_i h2 b5 (Int32.toNatClampNeg x1)) → w_M_exportKind x0 v8 x2 h2 (fun (r10 : Int32) (h9 : xb_H) => xb_ext h2 h9 → w_M_exportNumber x0 v8 x2 h9 (fun (r12 : Int32) (h11 : xb_H) => xb_ext h9 h11 → (((2 : Int32) ≤ x3 → ((r10 = (0 : Int32) → w_M_meant x0 x1 0 r12 h11 (fun (r16 : Int32) (h15 : xb_H) => xb_ext h11 h15 → ((¬ x3 = (2 : Int32) → w_M_resultTypeOf x0 r16 h15 (fun (r19 : Int32) (h18 : xb_H) => xb_ext h15 h18 → ((¬ r19 = (64 : Int32) → w_M_exported_L126 Qr 1 h18) ∧ (r19 = (64 : Int32) → w_M_exported_L126 Qr 0 h18)))) ∧ (x3 = (2 : Int32) → w_M_parametersOf x0 r16 h15 (fun (r22 : Int32) (h21 : xb_H) => xb_ext h15 h21 → w_M_exported_L126 Qr r22 h21))))) ∧ (¬ r10 = (0 : Int32) → Qr 0 h11))) ∧ (¬ (2 : Int32) ≤ x3 → ((¬ x3 = (0 : Int32) → w_M_exported_L78 Qr r12 h11) ∧ (x3 = (0 : Int32) → w_M_exported_L78 Qr r10 h11))))))) ∧ (¬ (xb_i h2 x0 0) ≤ (0 : Int32) → Qr 0 h2))

def w_M_exported_L23 (Qr : Int32 → xb_H → Prop) (x0 : Nat) (x1 : Int32) (x2 : Int32) (x3 : Int32) (y0 : Nat) (h : xb_H) : Prop :=
    w_M_exported_L24 Qr x0 x1 x2 x3 1 y0 h

def w_M_exported (x0 : Nat) (x1 : Int32) (x2 : Int32) (x3 : Int32) (h : xb_H) (Qr : Int32 → xb_H → Prop) : Prop :=
    xb_k h x0 = 9 ∧ w_M_isExport x0 x1 x2 h (fun (r3 : Int32) (h2 : xb_H) => xb_ext h h2 → ((r3 = (0 : Int32) → w_M_exported_L23 Qr x0 x1 x2 x3 x0 h2) ∧ (¬ r3 = (0 : Int32) → ((x3 < (0 : Int32) → w_M_exported_L23 Qr x0 x1 x2 x3 x0 h2) ∧ (¬ x3 < (0 : Int32) → (((4 : Int32) ≤ x3 → w_M_exported_L23 Qr x0 x1 x2 x3 x0 h2) ∧ (¬ (4 : Int32) ≤ x3 → w_M_exported_L24 Qr x0 x1 x2 x3 0 x0 h2)))))))


def w_M_fits_L197 (Qr : Int32 → xb_H → Prop) (y0 : Int32) (h : xb_H) : Prop :=
    (y0 = 0 ∨ y0 = 1) ∧ Qr y0 h

def w_M_fits_L196 (Qr : Int32 → xb_H → Prop) (h : xb_H) : Prop :=
    w_M_fits_L197 Qr 0 h

def w_M_fits_L192 (Qr : Int32 → xb_H → Prop) (h : xb_H) : Prop :=
    w_M_fits_L197 Qr 1 h

def w_M_fits_L156 (Qr : Int32 → xb_H → Prop) (x0 : Nat) (x5 : Int64) (x7 : Int64) (y0 : Int64) (h : xb_H) : Prop :=
    ((x7 < x5 → w_M_fits_L196 Qr h) ∧ (¬ x7 < x5 → xb_k h x0 = 9 ∧ (((xb_l h x0 91) < (0 : Int64) → w_M_fits_L192 Qr h) ∧ (¬ (xb_l h x0 91) < (0 : Int64) → ((y0 < (0 : Int64) → w_M_fits_L196 Qr h) ∧ (¬ y0 < (0 : Int64) → (((xb_l h x0 91) < y0 → w_M_fits_L196 Qr h) ∧ (¬ (xb_l h x0 91) < y0 → w_M_fits_L192 Qr h))))))))

def w_M_fits_L132 (Qr : Int32 → xb_H → Prop) (x0 : Nat) (x3 : Int32) (x4 : Int32) (x5 : Int64) (y0 : Int64) (h : xb_H) : Prop :=
    ((¬ x3 = (1 : Int32) → xb_k h x0 = 9 ∧ ∃ b3 : Nat, (xb_r h x0 55) = some b3 ∧ xb_k h b3 = 103 ∧ vp_in x4 (xb_n h b3) ∧ w_M_fits_L156 Qr x0 x5 y0 (xb_l h b3 (Int32.toNatClampNeg x4)) h) ∧ (x3 = (1 : Int32) → xb_k h x0 = 9 ∧ ∃ b7 : Nat, (xb_r h x0 50) = some b7 ∧ xb_k h b7 = 103 ∧ vp_in x4 (xb_n h b7) ∧ w_M_fits_L156 Qr x0 x5 y0 (xb_l h b7 (Int32.toNatClampNeg x4)) h))

def w_M_fits_L99 (Qr : Int32 → xb_H → Prop) (x0 : Nat) (x3 : Int32) (x4 : Int32) (y0 : Int32) (y1 : Nat) (h : xb_H) : Prop :=
    xb_k h y1 = 9 ∧ ∀ h2 : xb_H, h2 = xb_I h y1 15 y0 → xb_k h2 x0 = 9 ∧ w_M_leastRead x0 h2 (fun (r5 : Int64) (h4 : xb_H) => xb_ext h2 h4 → ((¬ x3 = (1 : Int32) → ∃ b7 : Nat, (xb_r h4 x0 54) = some b7 ∧ xb_k h4 b7 = 102 ∧ vp_in x4 (xb_n h4 b7) ∧ w_M_fits_L132 Qr x0 x3 x4 r5 (Int32.toInt64 (xb_i h4 b7 (Int32.toNatClampNeg x4))) h4) ∧ (x3 = (1 : Int32) → ∃ b10 : Nat, (xb_r h4 x0 49) = some b10 ∧ xb_k h4 b10 = 102 ∧ vp_in x4 (xb_n h4 b10) ∧ w_M_fits_L132 Qr x0 x3 x4 r5 (Int32.toInt64 (xb_i h4 b10 (Int32.toNatClampNeg x4))) h4)))

def w_M_fits_L79 (Qr : Int32 → xb_H → Prop) (y0 : Int32) (h : xb_H) : Prop :=
    (y0 = 0 ∨ y0 = 1) ∧ Qr y0 h

def w_M_fits_L78 (Qr : Int32 → xb_H → Prop) (h : xb_H) : Prop :=
    w_M_fits_L79 Qr 0 h

def w_M_fits_L48 (Qr : Int32 → xb_H → Prop) (x0 : Nat) (x4 : Int32) (x5 : Int32) (y0 : Int32) (h : xb_H) : Prop :=
    xb_k h x0 = 9 ∧ ∃ b2 : Nat, (xb_r h x0 59) = some b2 ∧ xb_k h b2 = 102 ∧ vp_in x4 (xb_n h b2) ∧ ((¬ (xb_i h b2 (Int32.toNatClampNeg x4)) = x5 → w_M_fits_L78 Qr h) ∧ ((xb_i h b2 (Int32.toNatClampNeg x4)) = x5 → ∃ b6 : Nat, (xb_r h x0 60) = some b6 ∧ xb_k h b6 = 101 ∧ vp_in x4 (xb_n h b6) ∧ ((¬ (xb_i h b6 (Int32.toNatClampNeg x4)) = y0 → w_M_fits_L78 Qr h) ∧ ((xb_i h b6 (Int32.toNatClampNeg x4)) = y0 → w_M_fits_L79 Qr 1 h))))

def w_M_fits (x0 : Nat) (x1 : Int32) (x2 : Int32) (x3 : Int32) (x4 : Int32) (h : xb_H) (Qr : Int32 → xb_H → Prop) : Prop :=
    xb_k h x0 = 9 ∧ w_M_importAt x0 x1 x2 h (fun (r3 : Int32) (h2 : xb_H) => xb_ext h h2 → ((¬ x3 = (0 : Int32) → ((¬ x3 = (3 : Int32) → ((¬ x3 = (1 : Int32) → w_M_fits_L99 Qr x0 x3 x4 (xb_i h2 x0 15) x0 h2) ∧ (x3 = (1 : Int32) → w_M_fits_L99 Qr x0 x3 x4 ((xb_i h2 x0 15) + 1) x0 h2))) ∧ (x3 = (3 : Int32) → w_M_next x0 h2 (fun (r8 : Int32) (h7 : xb_H) => xb_ext h2 h7 → w_M_next x0 h7 (fun (r10 : Int32) (h9 : xb_H) => xb_ext h7 h9 → ((¬ r10 = (1 : Int32) → w_M_fits_L48 Qr x0 x4 r8 0 h9) ∧ (r10 = (1 : Int32) → w_M_fits_L48 Qr x0 x4 r8 1 h9))))))) ∧ (x3 = (0 : Int32) → w_M_count x0 h2 (fun (r13 : Int64) (h12 : xb_H) => xb_ext h2 h12 → w_M_hasType x0 x4 x1 (Int64.toInt32 r13) h12 (fun (r15 : Int32) (h14 : xb_H) => xb_ext h12 h14 → (r15 = 0 ∨ r15 = 1) ∧ Qr r15 h14)))))


def w_M_flow_L276 (Qr : xb_H → Prop) (h : xb_H) : Prop :=
    Qr h

def w_M_flow_L106 (Qr : xb_H → Prop) (y0 : Int32) (y1 : Int32) (y2 : Nat) (h : xb_H) : Prop :=
    xb_k h y2 = 9 ∧ w_M_open y2 y1 y0 h (fun (h2 : xb_H) => xb_ext h h2 → w_M_flow_L276 Qr h2)

def w_M_flow_L88 (Qr : xb_H → Prop) (x0 : Nat) (x2 : Int32) (h : xb_H) : Prop :=
    xb_k h x0 = 9 ∧ w_M_next x0 h (fun (r3 : Int32) (h2 : xb_H) => xb_ext h h2 → ((¬ x2 = (3 : Int32) → w_M_flow_L106 Qr r3 x2 x0 h2) ∧ (x2 = (3 : Int32) → w_M_flow_L106 Qr 64 x2 x0 h2)))

def w_M_flow (x0 : Nat) (x1 : Int32) (x2 : Int32) (h : xb_H) (Qr : xb_H → Prop) : Prop :=
    ((x2 = 0 → xb_k h x0 = 9 ∧ ∀ h3 : xb_H, h3 = xb_I h x0 82 1 → w_M_flow_L276 Qr h3) ∧ (x2 = 1 → w_M_flow_L276 Qr h) ∧ (x2 = 2 → w_M_flow_L88 Qr x0 x2 h) ∧ (x2 = 3 → w_M_flow_L88 Qr x0 x2 h) ∧ (x2 = 4 → xb_k h x0 = 9 ∧ w_M_next x0 h (fun (r10 : Int32) (h9 : xb_H) => xb_ext h h9 → w_M_pop x0 127 h9 (fun (r12 : Int64) (h11 : xb_H) => xb_ext h9 h11 → ((r12 = (0 : Int64) → w_M_readOn x0 1 1 h11 (fun (r15 : Int32) (h14 : xb_H) => xb_ext h11 h14 → ((r15 = (0 : Int32) → w_M_flow_L276 Qr h14) ∧ (¬ r15 = (0 : Int32) → w_M_open x0 5 r10 h14 (fun (h17 : xb_H) => xb_ext h14 h17 → w_M_flow_L276 Qr h17))))) ∧ (¬ r12 = (0 : Int64) → w_M_open x0 4 r10 h11 (fun (h19 : xb_H) => xb_ext h11 h19 → w_M_flow_L276 Qr h19)))))) ∧ (x2 = 5 → xb_k h x0 = 9 ∧ w_M_readOn x0 1 0 h (fun (r24 : Int32) (h23 : xb_H) => xb_ext h h23 → ∀ h25 : xb_H, h25 = xb_I h23 x0 15 (xb_i h23 x0 96) → w_M_flow_L276 Qr h25)) ∧ (x2 = 6 → w_M_flow_L276 Qr h) ∧ (x2 = 7 → w_M_flow_L276 Qr h) ∧ (x2 = 8 → w_M_flow_L276 Qr h) ∧ (x2 = 9 → w_M_flow_L276 Qr h) ∧ (x2 = 10 → w_M_flow_L276 Qr h) ∧ (x2 = 11 → xb_k h x0 = 9 ∧ ∃ b33 : Nat, (xb_r h x0 73) = some b33 ∧ xb_k h b33 = 102 ∧ vp_in x1 (xb_n h b33) ∧ ((¬ ((xb_i h x0 81) - 1) = (xb_i h b33 (Int32.toNatClampNeg x1)) → ∀ h37 : xb_H, h37 = xb_I h x0 81 ((xb_i h x0 81) - 1) → w_M_flow_L276 Qr h37) ∧ (((xb_i h x0 81) - 1) = (xb_i h b33 (Int32.toNatClampNeg x1)) → w_M_leave x0 h (fun (h38 : xb_H) => xb_ext h h38 → w_M_flow_L276 Qr h38)))) ∧ (x2 = 12 → xb_k h x0 = 9 ∧ w_M_count x0 h (fun (r43 : Int64) (h42 : xb_H) => xb_ext h h42 → w_M_branch x0 r43 h42 (fun (h44 : xb_H) => xb_ext h42 h44 → w_M_flow_L276 Qr h44))) ∧ (x2 = 13 → xb_k h x0 = 9 ∧ w_M_count x0 h (fun (r49 : Int64) (h48 : xb_H) => xb_ext h h48 → w_M_pop x0 127 h48 (fun (r51 : Int64) (h50 : xb_H) => xb_ext h48 h50 → ((r51 = (0 : Int64) → w_M_flow_L276 Qr h50) ∧ (¬ r51 = (0 : Int64) → w_M_branch x0 r49 h50 (fun (h53 : xb_H) => xb_ext h50 h53 → w_M_flow_L276 Qr h53)))))) ∧ (x2 = 14 → xb_k h x0 = 9 ∧ w_M_byTable x0 h (fun (h57 : xb_H) => xb_ext h h57 → w_M_flow_L276 Qr h57)) ∧ (x2 = 15 → xb_k h x0 = 9 ∧ ∃ b61 : Nat, (xb_r h x0 73) = some b61 ∧ xb_k h b61 = 102 ∧ vp_in x1 (xb_n h b61) ∧ w_M_branch x0 (Int32.toInt64 (((xb_i h x0 81) - 1) - (xb_i h b61 (Int32.toNatClampNeg x1)))) h (fun (h64 : xb_H) => xb_ext h h64 → w_M_flow_L276 Qr h64)) ∧ (¬ x2 = 0 → ¬ x2 = 1 → ¬ x2 = 2 → ¬ x2 = 3 → ¬ x2 = 4 → ¬ x2 = 5 → ¬ x2 = 6 → ¬ x2 = 7 → ¬ x2 = 8 → ¬ x2 = 9 → ¬ x2 = 10 → ¬ x2 = 11 → ¬ x2 = 12 → ¬ x2 = 13 → ¬ x2 = 14 → ¬ x2 = 15 → w_M_flow_L276 Qr h))


def w_M_inMemory_L297 (Qr : xb_H → Prop) (x8 : Int32) (y0 : Int64) (y1 : Nat) (h : xb_H) : Prop :=
    xb_k h y1 = 9 ∧ w_M_add y1 y0 x8 h (fun (h2 : xb_H) => xb_ext h h2 → Qr h2)

def w_M_inMemory_L264 (Qr : xb_H → Prop) (x0 : Nat) (x8 : Int32) (x9 : Int32) (x10 : Int64) (y0 : Int32) (h : xb_H) : Prop :=
    ((y0 = (0 : Int32) → w_M_inMemory_L297 Qr x8 x10 x0 h) ∧ (¬ y0 = (0 : Int32) → w_M_inMemory_L297 Qr x8 (xb_lshr (xb_lshl x10 (64 - (8 * x9))) (64 - (8 * x9))) x0 h))

def w_M_inMemory_L259 (Qr : xb_H → Prop) (x0 : Nat) (x8 : Int32) (x9 : Int32) (x10 : Int64) (h : xb_H) : Prop :=
    w_M_inMemory_L264 Qr x0 x8 x9 x10 1 h

def w_M_inMemory_L197 (Qr : xb_H → Prop) : Nat → Nat → Int32 → Int32 → Int32 → Int32 → Int64 → Int64 → Int32 → xb_H → Prop
  | 0, _, _, _, _, _, _, _, _, _ => False
  | n9 + 1, x0, x2, x4, x8, x9, x10, x12, x14, h =>
    ((x14 < (0 : Int32) → ((x2 = (44 : Int32) → w_M_inMemory_L259 Qr x0 x8 x9 x10 h) ∧ (¬ x2 = (44 : Int32) → ((x2 = (46 : Int32) → w_M_inMemory_L259 Qr x0 x8 x9 x10 h) ∧ (¬ x2 = (46 : Int32) → ((x2 = (48 : Int32) → w_M_inMemory_L259 Qr x0 x8 x9 x10 h) ∧ (¬ x2 = (48 : Int32) → ((x2 = (50 : Int32) → w_M_inMemory_L259 Qr x0 x8 x9 x10 h) ∧ (¬ x2 = (50 : Int32) → ((¬ x2 = (52 : Int32) → w_M_inMemory_L264 Qr x0 x8 x9 x10 0 h) ∧ (x2 = (52 : Int32) → w_M_inMemory_L259 Qr x0 x8 x9 x10 h))))))))))) ∧ (¬ x14 < (0 : Int32) → xb_k h x0 = 9 ∧ w_M_byteAt x0 x4 (x12 + (Int32.toInt64 x14)) h (fun (r9 : Int32) (h8 : xb_H) => xb_ext h h8 → ∀ v10 : Int64, v10 = ((xb_lshl x10 8) ||| (Int32.toInt64 r9)) → w_M_inMemory_L197 Qr n9 x0 x2 x4 x8 x9 v10 x12 (x14 + (-1)) h8)))

def w_M_inMemory_L156 (Qr : xb_H → Prop) : Nat → Nat → Int32 → Int32 → Int64 → Int64 → Int32 → xb_H → Prop
  | 0, _, _, _, _, _, _, _ => False
  | n9 + 1, x0, x4, x9, x10, x12, x14, h =>
    ((x9 ≤ x14 → Qr h) ∧ (¬ x9 ≤ x14 → xb_k h x0 = 9 ∧ w_M_storeByte x0 x4 (x12 + (Int32.toInt64 x14)) (Int64.toInt32 (xb_lshr x10 (8 * x14))) h (fun (h3 : xb_H) => xb_ext h h3 → w_M_inMemory_L156 Qr n9 x0 x4 x9 x10 x12 (x14 + 1) h3)))

def w_M_inMemory_L96 (Qr : xb_H → Prop) (x0 : Nat) (x2 : Int32) (x4 : Int32) (x5 : Int64) (x7 : Int32) (x8 : Int32) (x9 : Int32) (y0 : Int64) (h : xb_H) : Prop :=
    xb_k h x0 = 9 ∧ w_M_pop x0 127 h (fun (r3 : Int64) (h2 : xb_H) => xb_ext h h2 → ∀ v4 : Int64, v4 = ((r3 &&& 4294967295) + x5) → ∀ h5 : xb_H, h5 = xb_I h2 x0 15 x7 → ∃ b6 : Nat, (xb_r h5 x0 54) = some b6 ∧ xb_k h5 b6 = 102 ∧ vp_in x4 (xb_n h5 b6) ∧ (((v4 + (Int32.toInt64 x9)) ≤ (65536 * (Int32.toInt64 (xb_i h5 b6 (Int32.toNatClampNeg x4)))) → ((x2 < (54 : Int32) → ∀ v11 : Int32, v11 = (x9 - 1) → (∃ n8 : Nat, w_M_inMemory_L197 Qr n8 x0 x2 x4 x8 x9 y0 v4 v11 h5)) ∧ (¬ x2 < (54 : Int32) → (∃ n8 : Nat, w_M_inMemory_L156 Qr n8 x0 x4 x9 y0 v4 0 h5)))) ∧ (¬ (v4 + (Int32.toInt64 x9)) ≤ (65536 * (Int32.toInt64 (xb_i h5 b6 (Int32.toNatClampNeg x4)))) → ∀ h12 : xb_H, h12 = xb_I h5 x0 82 2 → Qr h12)))

def w_M_inMemory_L36 (Qr : xb_H → Prop) (x0 : Nat) (x2 : Int32) (x3 : Int32) (x4 : Int32) (h : xb_H) : Prop :=
    xb_k h x0 = 9 ∧ w_M_pagesOf x0 x4 x2 h (fun (h2 : xb_H) => xb_ext h h2 → ∀ h4 : xb_H, h4 = xb_I h2 x0 15 (x3 + 1) → Qr h4)

def w_M_inMemory (x0 : Nat) (x1 : Int32) (x2 : Int32) (h : xb_H) (Qr : xb_H → Prop) : Prop :=
    xb_k h x0 = 9 ∧ ∀ v2 : Int32, v2 = (xb_i h x0 15) → w_M_only x0 x1 2 h (fun (r4 : Int32) (h3 : xb_H) => xb_ext h h3 → ∃ b5 : Nat, (xb_r h3 x0 31) = some b5 ∧ xb_k h3 b5 = 102 ∧ vp_in x1 (xb_n h3 b5) ∧ w_M_go x0 (xb_i h3 b5 (Int32.toNatClampNeg x1)) v2 h3 (fun (h8 : xb_H) => xb_ext h3 h8 → ((x2 = (63 : Int32) → w_M_inMemory_L36 Qr x0 x2 v2 r4 h8) ∧ (¬ x2 = (63 : Int32) → ((¬ x2 = (64 : Int32) → w_M_count x0 h8 (fun (r13 : Int64) (h12 : xb_H) => xb_ext h8 h12 → w_M_count x0 h12 (fun (r15 : Int64) (h14 : xb_H) => xb_ext h12 h14 → ∀ v16 : Int32, v16 = (xb_i h14 x0 15) → w_M_accessType x2 h14 (fun (r18 : Int32) (h17 : xb_H) => xb_ext h14 h17 → w_M_accessBytes x2 h17 (fun (r20 : Int32) (h19 : xb_H) => xb_ext h17 h19 → ((x2 < (54 : Int32) → w_M_inMemory_L96 Qr x0 x2 r4 r15 v16 r18 r20 0 h19) ∧ (¬ x2 < (54 : Int32) → w_M_pop x0 r18 h19 (fun (r23 : Int64) (h22 : xb_H) => xb_ext h19 h22 → w_M_inMemory_L96 Qr x0 x2 r4 r15 v16 r18 r20 r23 h22)))))))) ∧ (x2 = (64 : Int32) → w_M_inMemory_L36 Qr x0 x2 v2 r4 h8))))))


def w_M_invoke_L121 (Qr : xb_H → Prop) : Nat → Nat → Int32 → Int32 → xb_H → Prop
  | 0, _, _, _, _ => False
  | n9 + 1, x0, x5, x6, h =>
    xb_k h x0 = 9 ∧ (((xb_i h x0 66) ≤ x6 → ∀ h3 : xb_H, h3 = xb_I h x0 93 (xb_i h x0 66) → ∀ h4 : xb_H, h4 = xb_I h3 x0 66 0 → ∀ h5 : xb_H, h5 = xb_I h4 x0 64 x5 → ∀ h6 : xb_H, h6 = xb_I h5 x0 62 1 → ∀ h7 : xb_H, h7 = xb_I h6 x0 63 0 → Qr h7) ∧ (¬ (xb_i h x0 66) ≤ x6 → ∃ b8 : Nat, (xb_r h x0 67) = some b8 ∧ ∃ b9 : Nat, (xb_r h x0 65) = some b9 ∧ xb_k h b9 = 103 ∧ vp_in x6 (xb_n h b9) ∧ xb_k h b8 = 103 ∧ vp_in x6 (xb_n h b8) ∧ ∀ h14 : xb_H, h14 = xb_L h b8 (Int32.toNatClampNeg x6) (xb_l h b9 (Int32.toNatClampNeg x6)) → w_M_invoke_L121 Qr n9 x0 x5 (x6 + 1) h14))

def w_M_invoke_L107 (Qr : xb_H → Prop) (x0 : Nat) (x5 : Int32) (y0 : Int32) (y1 : Nat) (h : xb_H) : Prop :=
    xb_k h y1 = 9 ∧ ∀ h2 : xb_H, h2 = xb_I h y1 0 y0 → xb_k h2 x0 = 9 ∧ (((xb_i h2 x0 0) ≤ (0 : Int32) → (∃ n8 : Nat, w_M_invoke_L121 Qr n8 x0 x5 0 h2)) ∧ (¬ (xb_i h2 x0 0) ≤ (0 : Int32) → Qr h2))

def w_M_invoke_L91 (Qr : xb_H → Prop) (x0 : Nat) (x5 : Int32) (y0 : Nat) (h : xb_H) : Prop :=
    w_M_invoke_L107 Qr x0 x5 2 y0 h

def w_M_invoke_L70 (Qr : xb_H → Prop) (x0 : Nat) (x4 : Int32) (y0 : Int32) (h : xb_H) : Prop :=
    ((x4 = (0 : Int32) → w_M_invoke_L91 Qr x0 y0 x0 h) ∧ (¬ x4 = (0 : Int32) → xb_k h x0 = 9 ∧ w_M_parametersOf x0 y0 h (fun (r4 : Int32) (h3 : xb_H) => xb_ext h h3 → ((r4 = (xb_i h3 x0 66) → (((xb_i h3 x0 62) = (0 : Int32) → w_M_invoke_L107 Qr x0 y0 0 x0 h3) ∧ (¬ (xb_i h3 x0 62) = (0 : Int32) → w_M_invoke_L107 Qr x0 y0 3 x0 h3))) ∧ (¬ r4 = (xb_i h3 x0 66) → w_M_invoke_L91 Qr x0 y0 x0 h3)))))

def w_M_invoke_L47 (Qr : xb_H → Prop) (x0 : Nat) (x1 : Int32) (x2 : Int32) (x3 : Int32) (y0 : Int32) (h : xb_H) : Prop :=
    ((y0 = (0 : Int32) → w_M_invoke_L70 Qr x0 y0 0 h) ∧ (¬ y0 = (0 : Int32) → xb_k h x0 = 9 ∧ w_M_exportNumber x0 x3 x2 h (fun (r4 : Int32) (h3 : xb_H) => xb_ext h h3 → w_M_meant x0 x1 0 r4 h3 (fun (r6 : Int32) (h5 : xb_H) => xb_ext h3 h5 → w_M_invoke_L70 Qr x0 y0 r6 h5))))

def w_M_invoke_L15 (Qr : xb_H → Prop) (x0 : Nat) (x1 : Int32) (x2 : Int32) (y0 : Int32) (y1 : Nat) (h : xb_H) : Prop :=
    xb_k h y1 = 9 ∧ ∀ h2 : xb_H, h2 = xb_I h y1 0 y0 → xb_k h2 x0 = 9 ∧ (((xb_i h2 x0 0) ≤ (0 : Int32) → ∃ b5 : Nat, (xb_r h2 x0 31) = some b5 ∧ xb_k h2 b5 = 102 ∧ vp_in x1 (xb_n h2 b5) ∧ ∀ v8 : Int32, v8 = (xb_i h2 b5 (Int32.toNatClampNeg x1)) → w_M_exportKind x0 v8 x2 h2 (fun (r10 : Int32) (h9 : xb_H) => xb_ext h2 h9 → ((¬ r10 = (0 : Int32) → w_M_invoke_L47 Qr x0 x1 x2 v8 0 h9) ∧ (r10 = (0 : Int32) → w_M_invoke_L47 Qr x0 x1 x2 v8 1 h9)))) ∧ (¬ (xb_i h2 x0 0) ≤ (0 : Int32) → Qr h2))

def w_M_invoke (x0 : Nat) (x1 : Int32) (x2 : Int32) (h : xb_H) (Qr : xb_H → Prop) : Prop :=
    xb_k h x0 = 9 ∧ w_M_isExport x0 x1 x2 h (fun (r3 : Int32) (h2 : xb_H) => xb_ext h h2 → ((r3 = (0 : Int32) → w_M_invoke_L15 Qr x0 x1 x2 1 x0 h2) ∧ (¬ r3 = (0 : Int32) → w_M_invoke_L15 Qr x0 x1 x2 0 x0 h2)))


def w_M_isByte_L43 (Qr : Int32 → xb_H → Prop) (y0 : Int32) (h : xb_H) : Prop :=
    (y0 = 0 ∨ y0 = 1) ∧ Qr y0 h

def w_M_isByte_L42 (Qr : Int32 → xb_H → Prop) (h : xb_H) : Prop :=
    w_M_isByte_L43 Qr 0 h

def w_M_isByte (x0 : Nat) (x1 : Int32) (x2 : Int32) (h : xb_H) (Qr : Int32 → xb_H → Prop) : Prop :=
    xb_k h x0 = 9 ∧ w_M_isInstance x0 x1 h (fun (r3 : Int32) (h2 : xb_H) => xb_ext h h2 → ((¬ r3 = (0 : Int32) → w_M_only x0 x1 2 h2 (fun (r6 : Int32) (h5 : xb_H) => xb_ext h2 h5 → ((r6 < (0 : Int32) → w_M_isByte_L42 Qr h5) ∧ (¬ r6 < (0 : Int32) → ((x2 < (0 : Int32) → w_M_isByte_L42 Qr h5) ∧ (¬ x2 < (0 : Int32) → ∃ b9 : Nat, (xb_r h5 x0 54) = some b9 ∧ xb_k h5 b9 = 102 ∧ vp_in r6 (xb_n h5 b9) ∧ (((65536 * (xb_i h5 b9 (Int32.toNatClampNeg r6))) ≤ x2 → w_M_isByte_L42 Qr h5) ∧ (¬ (65536 * (xb_i h5 b9 (Int32.toNatClampNeg r6))) ≤ x2 → w_M_isByte_L43 Qr 1 h5)))))))) ∧ (r3 = (0 : Int32) → Qr 0 h2)))


def w_M_pages_L47 (Qr : Int32 → xb_H → Prop) (y0 : Int32) (h : xb_H) : Prop :=
    Qr y0 h

def w_M_pages_L14 (Qr : Int32 → xb_H → Prop) (x0 : Nat) (x1 : Int32) (y0 : Int32) (y1 : Nat) (h : xb_H) : Prop :=
    xb_k h y1 = 9 ∧ ∀ h2 : xb_H, h2 = xb_I h y1 0 y0 → xb_k h2 x0 = 9 ∧ (((xb_i h2 x0 0) ≤ (0 : Int32) → w_M_only x0 x1 2 h2 (fun (r6 : Int32) (h5 : xb_H) => xb_ext h2 h5 → (((0 : Int32) ≤ r6 → ∃ b8 : Nat, (xb_r h5 x0 54) = some b8 ∧ xb_k h5 b8 = 102 ∧ vp_in r6 (xb_n h5 b8) ∧ w_M_pages_L47 Qr (xb_i h5 b8 (Int32.toNatClampNeg r6)) h5) ∧ (¬ (0 : Int32) ≤ r6 → w_M_pages_L47 Qr (-1) h5)))) ∧ (¬ (xb_i h2 x0 0) ≤ (0 : Int32) → Qr 0 h2))

def w_M_pages (x0 : Nat) (x1 : Int32) (h : xb_H) (Qr : Int32 → xb_H → Prop) : Prop :=
    xb_k h x0 = 9 ∧ w_M_isInstance x0 x1 h (fun (r3 : Int32) (h2 : xb_H) => xb_ext h h2 → ((r3 = (0 : Int32) → w_M_pages_L14 Qr x0 x1 1 x0 h2) ∧ (¬ r3 = (0 : Int32) → w_M_pages_L14 Qr x0 x1 0 x0 h2)))


def w_M_rowsFit_L130 (K28 : Nat → Int32 → Int32 → Int32 → Int32 → Int32 → xb_H → Prop) (Qr : Int32 → xb_H → Prop) (x5 : Int32) (y0 : Int32) (y1 : Nat) (h : xb_H) : Prop :=
    xb_k h y1 = 9 ∧ w_M_refuse y1 y0 x5 h (fun (r3 : Int32) (h2 : xb_H) => xb_ext h h2 → Qr 0 h2)

def w_M_rowsFit_L103 (K28 : Nat → Int32 → Int32 → Int32 → Int32 → Int32 → xb_H → Prop) (Qr : Int32 → xb_H → Prop) (x0 : Nat) (x1 : Int32) (x2 : Int32) (x3 : Int32) (x4 : Int32) (x5 : Int32) (x6 : Int64) (x8 : Int64) (y0 : Int64) (h : xb_H) : Prop :=
    (((x6 + x8) ≤ y0 → K28 x0 x1 x2 x3 x4 (x5 + 1) h) ∧ (¬ (x6 + x8) ≤ y0 → ((¬ x2 = (9 : Int32) → w_M_rowsFit_L130 K28 Qr x5 46 x0 h) ∧ (x2 = (9 : Int32) → w_M_rowsFit_L130 K28 Qr x5 45 x0 h))))

def w_M_rowsFit_L28 (Qr : Int32 → xb_H → Prop) : Nat → Nat → Int32 → Int32 → Int32 → Int32 → Int32 → xb_H → Prop
  | 0, _, _, _, _, _, _, _ => False
  | n9 + 1, x0, x1, x2, x3, x4, x5, h =>
    xb_k h x0 = 9 ∧ w_M_manyOf x0 x3 x2 h (fun (r3 : Int32) (h2 : xb_H) => xb_ext h h2 → ((r3 ≤ x5 → Qr 1 h2) ∧ (¬ r3 ≤ x5 → w_M_placeOf x0 x3 x2 x5 h2 (fun (r6 : Int32) (h5 : xb_H) => xb_ext h2 h5 → w_M_go x0 x3 r6 h5 (fun (h7 : xb_H) => xb_ext h5 h7 → w_M_count x0 h7 (fun (r10 : Int64) (h9 : xb_H) => xb_ext h7 h9 → w_M_constant x0 x1 h9 (fun (r12 : Int64) (h11 : xb_H) => xb_ext h9 h11 → ∀ v13 : Int64, v13 = (r12 &&& 4294967295) → w_M_count x0 h11 (fun (r15 : Int64) (h14 : xb_H) => xb_ext h11 h14 → ((¬ x2 = (9 : Int32) → ∃ b17 : Nat, (xb_r h14 x0 54) = some b17 ∧ xb_k h14 b17 = 102 ∧ vp_in x4 (xb_n h14 b17) ∧ w_M_rowsFit_L103 (w_M_rowsFit_L28 Qr n9) Qr x0 x1 x2 x3 x4 x5 v13 r15 (65536 * (Int32.toInt64 (xb_i h14 b17 (Int32.toNatClampNeg x4)))) h14) ∧ (x2 = (9 : Int32) → ∃ b20 : Nat, (xb_r h14 x0 49) = some b20 ∧ xb_k h14 b20 = 102 ∧ vp_in x4 (xb_n h14 b20) ∧ w_M_rowsFit_L103 (w_M_rowsFit_L28 Qr n9) Qr x0 x1 x2 x3 x4 x5 v13 r15 (Int32.toInt64 (xb_i h14 b20 (Int32.toNatClampNeg x4))) h14))))))))))

def w_M_rowsFit_L20 (Qr : Int32 → xb_H → Prop) (x0 : Nat) (x1 : Int32) (x2 : Int32) (x3 : Int32) (y0 : Int32) (y1 : Int32) (y2 : Nat) (h : xb_H) : Prop :=
    xb_k h y2 = 9 ∧ w_M_only y2 y1 y0 h (fun (r3 : Int32) (h2 : xb_H) => xb_ext h h2 → (∃ n8 : Nat, w_M_rowsFit_L28 Qr n8 x0 x1 x2 x3 r3 0 h2))

def w_M_rowsFit (x0 : Nat) (x1 : Int32) (x2 : Int32) (h : xb_H) (Qr : Int32 → xb_H → Prop) : Prop :=
    xb_k h x0 = 9 ∧ ∃ b2 : Nat, (xb_r h x0 31) = some b2 ∧ xb_k h b2 = 102 ∧ vp_in x1 (xb_n h b2) ∧ ∀ v5 : Int32, v5 = (xb_i h b2 (Int32.toNatClampNeg x1)) → ((¬ x2 = (9 : Int32) → w_M_rowsFit_L20 Qr x0 x1 x2 v5 2 x1 x0 h) ∧ (x2 = (9 : Int32) → w_M_rowsFit_L20 Qr x0 x1 x2 v5 1 x1 x0 h))


def w_M_section_L116 (Qr : xb_H → Nat → Nat → Prop) (h : xb_H) (bc : Nat) (bs : Nat) : Prop :=
    Qr h bc bs

def w_M_section_L91 (Qr : xb_H → Nat → Nat → Prop) (x0 : Nat) (x2 : Int32) (h : xb_H) (bc : Nat) (bs : Nat) : Prop :=
    xb_k h x0 = 9 ∧ ((¬ (xb_i h x0 17) = (0 : Int32) → w_M_section_L116 Qr h bc bs) ∧ ((xb_i h x0 17) = (0 : Int32) → ((x2 ≤ (xb_i h x0 15) → w_M_section_L116 Qr h bc bs) ∧ (¬ x2 ≤ (xb_i h x0 15) → w_M_fail x0 7 (xb_i h x0 15) h (fun (h4 : xb_H) => xb_ext h h4 → w_M_section_L116 Qr h4 bc bs)))))

def w_M_section_L63 (Qr : xb_H → Nat → Nat → Prop) : Nat → Nat → Int32 → Int32 → Int64 → Int64 → xb_H → Nat → Nat → Prop
  | 0, _, _, _, _, _, _, _, _ => False
  | n9 + 1, x0, x1, x2, x3, x5, h, bc, bs =>
    ((x3 ≤ x5 → w_M_section_L91 Qr x0 x2 h bc bs) ∧ (¬ x3 ≤ x5 → xb_k h x0 = 9 ∧ ((¬ (xb_i h x0 17) = (0 : Int32) → w_M_section_L91 Qr x0 x2 h bc bs) ∧ ((xb_i h x0 17) = (0 : Int32) → w_M_sectionEntry x0 x1 h bc bs (fun (h4 : xb_H) (bc5 bs5 : Nat) => xb_ext h h4 → ∀ v6 : Int64, v6 = (x5 + 1) → w_M_section_L63 Qr n9 x0 x1 x2 x3 v6 h4 bc5 bs5)))))

def w_M_section_L29 (Qr : xb_H → Nat → Nat → Prop) (x0 : Nat) (x2 : Int32) (y0 : Int32) (y1 : Nat) (h : xb_H) (bc : Nat) (bs : Nat) : Prop :=
    xb_k h y1 = 9 ∧ ∀ h2 : xb_H, h2 = xb_I h y1 15 y0 → w_M_section_L91 Qr x0 x2 h2 bc bs

def w_M_section (x0 : Nat) (x1 : Int32) (h : xb_H) (bc : Nat) (bs : Nat) (Qr : xb_H → Nat → Nat → Prop) : Prop :=
    xb_k h x0 = 9 ∧ ∀ v2 : Int32, v2 = (xb_i h x0 16) → ((¬ x1 = (0 : Int32) → ((¬ x1 = (8 : Int32) → w_M_count x0 h (fun (r6 : Int64) (h5 : xb_H) => xb_ext h h5 → (∃ n8 : Nat, w_M_section_L63 Qr n8 x0 x1 v2 r6 0 h5 bc bs))) ∧ (x1 = (8 : Int32) → w_M_note x0 8 h bc bs (fun (h7 : xb_H) (bc8 bs8 : Nat) => xb_ext h h7 → w_M_count x0 h7 (fun (r10 : Int64) (h9 : xb_H) => xb_ext h7 h9 → w_M_section_L91 Qr x0 v2 h9 bc8 bs8))))) ∧ (x1 = (0 : Int32) → w_M_name0 x0 h (fun (h11 : xb_H) => xb_ext h h11 → ((¬ (xb_i h11 x0 17) = (0 : Int32) → w_M_section_L29 Qr x0 v2 (xb_i h11 x0 15) x0 h11 bc bs) ∧ ((xb_i h11 x0 17) = (0 : Int32) → w_M_section_L29 Qr x0 v2 v2 x0 h11 bc bs)))))


def w_M_writeRows_L206 (K149 : Nat → Int32 → Int32 → Int32 → xb_H → Prop) (Qr : xb_H → Prop) : Nat → Nat → Int32 → Int32 → Int32 → Int32 → Int64 → Int64 → Int64 → xb_H → Prop
  | 0, _, _, _, _, _, _, _, _, _ => False
  | n9 + 1, x0, x1, x2, x3, x4, x5, x7, x9, h =>
    ((x7 ≤ x9 → K149 x0 x1 x2 (x3 + 1) h) ∧ (¬ x7 ≤ x9 → xb_k h x0 = 9 ∧ ∃ b3 : Nat, (xb_r h x0 3) = some b3 ∧ xb_k h b3 = 100 ∧ vp_in ((xb_i h x0 15) + (Int64.toInt32 x9)) (xb_n h b3) ∧ w_M_storeByte x0 x4 (x5 + x9) (xb_i h b3 (Int32.toNatClampNeg ((xb_i h x0 15) + (Int64.toInt32 x9)))) h (fun (h6 : xb_H) => xb_ext h h6 → ∀ v8 : Int64, v8 = (x9 + 1) → w_M_writeRows_L206 K149 Qr n9 x0 x1 x2 x3 x4 x5 x7 v8 h6)))

def w_M_writeRows_L149 (Qr : xb_H → Prop) : Nat → Nat → Int32 → Int32 → Int32 → xb_H → Prop
  | 0, _, _, _, _, _ => False
  | n9 + 1, x0, x1, x2, x3, h =>
    xb_k h x0 = 9 ∧ w_M_manyOf x0 x2 11 h (fun (r3 : Int32) (h2 : xb_H) => xb_ext h h2 → ((r3 ≤ x3 → Qr h2) ∧ (¬ r3 ≤ x3 → w_M_only x0 x1 2 h2 (fun (r6 : Int32) (h5 : xb_H) => xb_ext h2 h5 → w_M_placeOf x0 x2 11 x3 h5 (fun (r8 : Int32) (h7 : xb_H) => xb_ext h5 h7 → w_M_go x0 x2 r8 h7 (fun (h9 : xb_H) => xb_ext h7 h9 → w_M_count x0 h9 (fun (r12 : Int64) (h11 : xb_H) => xb_ext h9 h11 → w_M_constant x0 x1 h11 (fun (r14 : Int64) (h13 : xb_H) => xb_ext h11 h13 → ∀ v15 : Int64, v15 = (r14 &&& 4294967295) → w_M_count x0 h13 (fun (r17 : Int64) (h16 : xb_H) => xb_ext h13 h16 → (∃ n8 : Nat, w_M_writeRows_L206 (w_M_writeRows_L149 Qr n9) Qr n8 x0 x1 x2 x3 r6 v15 r17 0 h16))))))))))

def w_M_writeRows_L66 (K9 : Nat → Int32 → Int32 → Int32 → xb_H → Prop) (Qr : xb_H → Prop) : Nat → Nat → Int32 → Int32 → Int32 → Int32 → Int64 → Int64 → Int64 → xb_H → Prop
  | 0, _, _, _, _, _, _, _, _, _ => False
  | n9 + 1, x0, x1, x2, x3, x4, x5, x7, x9, h =>
    ((x7 ≤ x9 → K9 x0 x1 x2 (x3 + 1) h) ∧ (¬ x7 ≤ x9 → xb_k h x0 = 9 ∧ w_M_go x0 x2 (xb_i h x0 15) h (fun (h3 : xb_H) => xb_ext h h3 → w_M_count x0 h3 (fun (r6 : Int64) (h5 : xb_H) => xb_ext h3 h5 → ∀ v7 : Int32, v7 = (Int64.toInt32 r6) → ∀ v8 : Int32, v8 = (xb_i h5 x0 15) → ∃ b9 : Nat, (xb_r h5 x0 51) = some b9 ∧ ∃ b10 : Nat, (xb_r h5 x0 48) = some b10 ∧ xb_k h5 b10 = 102 ∧ vp_in x4 (xb_n h5 b10) ∧ w_M_meant x0 x1 0 v7 h5 (fun (r14 : Int32) (h13 : xb_H) => xb_ext h5 h13 → xb_k h13 b9 = 102 ∧ vp_in ((xb_i h5 b10 (Int32.toNatClampNeg x4)) + (Int64.toInt32 (x5 + x9))) (xb_n h13 b9) ∧ ∀ h17 : xb_H, h17 = xb_I h13 b9 (Int32.toNatClampNeg ((xb_i h5 b10 (Int32.toNatClampNeg x4)) + (Int64.toInt32 (x5 + x9)))) (1 + r14) → w_M_go x0 x2 v8 h17 (fun (h18 : xb_H) => xb_ext h17 h18 → ∀ v20 : Int64, v20 = (x9 + 1) → w_M_writeRows_L66 K9 Qr n9 x0 x1 x2 x3 x4 x5 x7 v20 h18))))))

def w_M_writeRows_L9 (Qr : xb_H → Prop) : Nat → Nat → Int32 → Int32 → Int32 → xb_H → Prop
  | 0, _, _, _, _, _ => False
  | n9 + 1, x0, x1, x2, x3, h =>
    xb_k h x0 = 9 ∧ w_M_manyOf x0 x2 9 h (fun (r3 : Int32) (h2 : xb_H) => xb_ext h h2 → ((r3 ≤ x3 → (∃ n8 : Nat, w_M_writeRows_L149 Qr n8 x0 x1 x2 0 h2)) ∧ (¬ r3 ≤ x3 → w_M_only x0 x1 1 h2 (fun (r6 : Int32) (h5 : xb_H) => xb_ext h2 h5 → w_M_placeOf x0 x2 9 x3 h5 (fun (r8 : Int32) (h7 : xb_H) => xb_ext h5 h7 → w_M_go x0 x2 r8 h7 (fun (h9 : xb_H) => xb_ext h7 h9 → w_M_count x0 h9 (fun (r12 : Int64) (h11 : xb_H) => xb_ext h9 h11 → w_M_constant x0 x1 h11 (fun (r14 : Int64) (h13 : xb_H) => xb_ext h11 h13 → ∀ v15 : Int64, v15 = (r14 &&& 4294967295) → w_M_count x0 h13 (fun (r17 : Int64) (h16 : xb_H) => xb_ext h13 h16 → (∃ n8 : Nat, w_M_writeRows_L66 (w_M_writeRows_L9 Qr n9) Qr n8 x0 x1 x2 x3 r6 v15 r17 0 h16))))))))))

def w_M_writeRows (x0 : Nat) (x1 : Int32) (h : xb_H) (Qr : xb_H → Prop) : Prop :=
    xb_k h x0 = 9 ∧ ∃ b2 : Nat, (xb_r h x0 31) = some b2 ∧ xb_k h b2 = 102 ∧ vp_in x1 (xb_n h b2) ∧ ∀ v5 : Int32, v5 = (xb_i h b2 (Int32.toNatClampNeg x1)) → (∃ n8 : Nat, w_M_writeRows_L9 Qr n8 x0 x1 v5 0 h)


def w_Law_run (x0 : Nat) (x1 : Int32) (x2 : Nat) (h : xb_H) (bc : Nat) (bs : Nat) (Qr : Int32 → xb_H → Nat → Nat → Prop) : Prop :=
    xb_k h x0 = 1 ∧ w_H_run x0 x1 h bc bs (fun (r3 : Int32) (h2 : xb_H) (bc3 bs3 : Nat) => xb_ext h h2 → xb_k h2 x2 = 103 ∧ vp_in 0 (xb_n h2 x2) ∧ ∀ h6 : xb_H, h6 = xb_L h2 x2 (Int32.toNatClampNeg 0) (Int32.toInt64 r3) → Qr 0 h6 bc3 bs3) (fun (XX : String) (h2 : xb_H) (bc3 bs3 : Nat) => xb_ext h h2 → ∀ ax : Nat, (XX = "java/lang/IllegalArgumentException" ∧ Qr 1 h2 bc3 bs3) ∨ (XX = "java/lang/IllegalStateException" ∧ Qr 2 h2 bc3 bs3))


def w_M_calling_L290 (Qr : xb_H → Prop) (x0 : Nat) (x6 : Int32) (h : xb_H) : Prop :=
    xb_k h x0 = 9 ∧ w_M_call x0 x6 h (fun (h2 : xb_H) => xb_ext h h2 → Qr h2)

def w_M_calling_L273 (Qr : xb_H → Prop) (x0 : Nat) (x10 : Int32) (y0 : Int32) (y1 : Nat) (h : xb_H) : Prop :=
    xb_k h y1 = 9 ∧ ∀ h2 : xb_H, h2 = xb_I h y1 82 y0 → xb_k h2 x0 = 9 ∧ (((xb_i h2 x0 82) ≤ (0 : Int32) → ∀ v5 : Int32, v5 = (x10 - 1) → w_M_calling_L290 Qr x0 v5 h2) ∧ (¬ (xb_i h2 x0 82) ≤ (0 : Int32) → Qr h2))

def w_M_calling_L220 (Qr : xb_H → Prop) (x0 : Nat) (x4 : Int32) (x5 : Int32) (x7 : Int64) (x9 : Int32) (y0 : Int32) (h : xb_H) : Prop :=
    xb_k h x0 = 9 ∧ ∃ b2 : Nat, (xb_r h x0 49) = some b2 ∧ xb_k h b2 = 102 ∧ vp_in x9 (xb_n h b2) ∧ ((x7 < (Int32.toInt64 (xb_i h b2 (Int32.toNatClampNeg x9))) → ((¬ y0 = (0 : Int32) → w_M_hasType x0 (y0 - 1) x4 x5 h (fun (r8 : Int32) (h7 : xb_H) => xb_ext h h7 → ((¬ r8 = (0 : Int32) → w_M_calling_L273 Qr x0 y0 0 x0 h7) ∧ (r8 = (0 : Int32) → w_M_calling_L273 Qr x0 y0 8 x0 h7)))) ∧ (y0 = (0 : Int32) → w_M_calling_L273 Qr x0 y0 7 x0 h))) ∧ (¬ x7 < (Int32.toInt64 (xb_i h b2 (Int32.toNatClampNeg x9))) → w_M_calling_L273 Qr x0 y0 6 x0 h))

def w_M_calling_L104 (Qr : xb_H → Prop) (x0 : Nat) (x1 : Int32) (h : xb_H) : Prop :=
    xb_k h x0 = 9 ∧ ∃ b2 : Nat, (xb_r h x0 70) = some b2 ∧ xb_k h b2 = 102 ∧ vp_in x1 (xb_n h b2) ∧ ∀ h5 : xb_H, h5 = xb_I h b2 (Int32.toNatClampNeg x1) (xb_i h x0 15) → Qr h5

def w_M_calling_L99 (Qr : xb_H → Prop) (x0 : Nat) (x1 : Int32) (x7 : Int32) (y0 : Int64) (y1 : Nat) (h : xb_H) : Prop :=
    xb_k h y1 = 9 ∧ w_M_add y1 y0 x7 h (fun (h2 : xb_H) => xb_ext h h2 → w_M_calling_L104 Qr x0 x1 h2)

def w_M_calling_L61 (Qr : xb_H → Prop) (x0 : Nat) (x1 : Int32) (x3 : Int32) (x5 : Int64) (y0 : Int32) (h : xb_H) : Prop :=
    xb_k h x0 = 9 ∧ w_M_pop x0 0 h (fun (r3 : Int64) (h2 : xb_H) => xb_ext h h2 → ((¬ x3 = (27 : Int32) → w_M_calling_L104 Qr x0 x1 h2) ∧ (x3 = (27 : Int32) → w_M_pop x0 y0 h2 (fun (r6 : Int64) (h5 : xb_H) => xb_ext h2 h5 → ((x5 = (0 : Int64) → w_M_calling_L99 Qr x0 x1 y0 r3 x0 h5) ∧ (¬ x5 = (0 : Int64) → w_M_calling_L99 Qr x0 x1 y0 r6 x0 h5))))))

def w_M_calling_L36 (Qr : xb_H → Prop) (x0 : Nat) (x1 : Int32) (x3 : Int32) (y0 : Int64) (h : xb_H) : Prop :=
    xb_k h x0 = 9 ∧ (((xb_i h x0 76) ≤ (0 : Int32) → w_M_calling_L61 Qr x0 x1 x3 y0 127 h) ∧ (¬ (xb_i h x0 76) ≤ (0 : Int32) → ∃ b3 : Nat, (xb_r h x0 75) = some b3 ∧ xb_k h b3 = 100 ∧ vp_in ((xb_i h x0 76) - 1) (xb_n h b3) ∧ w_M_calling_L61 Qr x0 x1 x3 y0 (xb_i h b3 (Int32.toNatClampNeg ((xb_i h x0 76) - 1))) h))

def w_M_calling_L20 (Qr : xb_H → Prop) (x0 : Nat) (x1 : Int32) (x3 : Int32) (h : xb_H) : Prop :=
    ((¬ x3 = (27 : Int32) → w_M_calling_L36 Qr x0 x1 x3 0 h) ∧ (x3 = (27 : Int32) → xb_k h x0 = 9 ∧ w_M_pop x0 127 h (fun (r4 : Int64) (h3 : xb_H) => xb_ext h h3 → w_M_calling_L36 Qr x0 x1 x3 r4 h3)))

def w_M_calling (x0 : Nat) (x1 : Int32) (x2 : Int32) (x3 : Int32) (h : xb_H) (Qr : xb_H → Prop) : Prop :=
    xb_k h x0 = 9 ∧ ∃ b2 : Nat, (xb_r h x0 31) = some b2 ∧ xb_k h b2 = 102 ∧ vp_in x2 (xb_n h b2) ∧ ∀ v5 : Int32, v5 = (xb_i h b2 (Int32.toNatClampNeg x2)) → ((x3 = (26 : Int32) → w_M_calling_L20 Qr x0 x1 x3 h) ∧ (¬ x3 = (26 : Int32) → ((¬ x3 = (27 : Int32) → w_M_count x0 h (fun (r9 : Int64) (h8 : xb_H) => xb_ext h h8 → ∀ v10 : Int32, v10 = (Int64.toInt32 r9) → ((¬ x3 = (16 : Int32) → ∃ b12 : Nat, (xb_r h8 x0 70) = some b12 ∧ xb_k h8 b12 = 102 ∧ vp_in x1 (xb_n h8 b12) ∧ ∀ h15 : xb_H, h15 = xb_I h8 b12 (Int32.toNatClampNeg x1) ((xb_i h8 x0 15) + 1) → w_M_pop x0 127 h15 (fun (r17 : Int64) (h16 : xb_H) => xb_ext h15 h16 → ∀ v18 : Int64, v18 = (r17 &&& 4294967295) → w_M_only x0 x2 1 h16 (fun (r20 : Int32) (h19 : xb_H) => xb_ext h16 h19 → ∃ b21 : Nat, (xb_r h19 x0 49) = some b21 ∧ xb_k h19 b21 = 102 ∧ vp_in r20 (xb_n h19 b21) ∧ (((Int32.toInt64 (xb_i h19 b21 (Int32.toNatClampNeg r20))) ≤ v18 → w_M_calling_L220 Qr x0 v5 v10 v18 r20 0 h19) ∧ (¬ (Int32.toInt64 (xb_i h19 b21 (Int32.toNatClampNeg r20))) ≤ v18 → ∃ b25 : Nat, (xb_r h19 x0 51) = some b25 ∧ ∃ b26 : Nat, (xb_r h19 x0 48) = some b26 ∧ xb_k h19 b26 = 102 ∧ vp_in r20 (xb_n h19 b26) ∧ xb_k h19 b25 = 102 ∧ vp_in ((xb_i h19 b26 (Int32.toNatClampNeg r20)) + (Int64.toInt32 v18)) (xb_n h19 b25) ∧ w_M_calling_L220 Qr x0 v5 v10 v18 r20 (xb_i h19 b25 (Int32.toNatClampNeg ((xb_i h19 b26 (Int32.toNatClampNeg r20)) + (Int64.toInt32 v18)))) h19))))) ∧ (x3 = (16 : Int32) → ∃ b31 : Nat, (xb_r h8 x0 70) = some b31 ∧ xb_k h8 b31 = 102 ∧ vp_in x1 (xb_n h8 b31) ∧ ∀ h34 : xb_H, h34 = xb_I h8 b31 (Int32.toNatClampNeg x1) (xb_i h8 x0 15) → w_M_meant x0 x2 0 v10 h34 (fun (r36 : Int32) (h35 : xb_H) => xb_ext h34 h35 → w_M_calling_L290 Qr x0 r36 h35))))) ∧ (x3 = (27 : Int32) → w_M_calling_L20 Qr x0 x1 x3 h))))


def w_M_checkInstruction_L139 (Qr : xb_H → Prop) (h : xb_H) : Prop :=
    Qr h

def w_M_checkInstruction_L91 (Qr : xb_H → Prop) (x0 : Nat) (x2 : Int32) (y0 : Int32) (y1 : Nat) (h : xb_H) : Prop :=
    xb_k h y1 = 9 ∧ w_M_need y1 y0 20 h (fun (h2 : xb_H) => xb_ext h h2 → xb_k h2 x0 = 9 ∧ w_M_checkMemory x0 x2 h2 (fun (h5 : xb_H) => xb_ext h2 h5 → w_M_checkInstruction_L139 Qr h5))

def w_M_checkInstruction_L24 (Qr : xb_H → Prop) (x0 : Nat) (x2 : Int32) (h : xb_H) : Prop :=
    w_Exact_first x2 h (fun (r2 : Int32) (h1 : xb_H) => xb_ext h h1 → xb_k h1 x0 = 9 ∧ w_M_take x0 (127 - r2) h1 (fun (r5 : Int32) (h4 : xb_H) => xb_ext h1 h4 → w_Exact_result x2 h4 (fun (r7 : Int32) (h6 : xb_H) => xb_ext h4 h6 → w_M_put x0 (127 - r7) h6 (fun (h8 : xb_H) => xb_ext h6 h8 → w_M_checkInstruction_L139 Qr h8))))

def w_M_checkInstruction (x0 : Nat) (x1 : Int32) (x2 : Int32) (h : xb_H) (Qr : xb_H → Prop) : Prop :=
    ((x2 < (69 : Int32) → ((x2 < (65 : Int32) → ((x2 < (40 : Int32) → ((x2 < (32 : Int32) → ((x2 < (16 : Int32) → xb_k h x0 = 9 ∧ w_M_checkFlow x0 x2 h (fun (h7 : xb_H) => xb_ext h h7 → w_M_checkInstruction_L139 Qr h7)) ∧ (¬ x2 < (16 : Int32) → xb_k h x0 = 9 ∧ w_M_checkCalls x0 x1 x2 h (fun (h10 : xb_H) => xb_ext h h10 → w_M_checkInstruction_L139 Qr h10)))) ∧ (¬ x2 < (32 : Int32) → xb_k h x0 = 9 ∧ w_M_checkPlace x0 x1 x2 h (fun (h13 : xb_H) => xb_ext h h13 → w_M_checkInstruction_L139 Qr h13)))) ∧ (¬ x2 < (40 : Int32) → xb_k h x0 = 9 ∧ w_M_total x0 x1 2 h (fun (r17 : Int64) (h16 : xb_H) => xb_ext h h16 → ((r17 ≤ (0 : Int64) → w_M_checkInstruction_L91 Qr x0 x2 0 x0 h16) ∧ (¬ r17 ≤ (0 : Int64) → w_M_checkInstruction_L91 Qr x0 x2 1 x0 h16)))))) ∧ (¬ x2 < (65 : Int32) → xb_k h x0 = 9 ∧ w_M_put x0 (192 - x2) h (fun (h20 : xb_H) => xb_ext h h20 → w_M_checkInstruction_L139 Qr h20)))) ∧ (¬ x2 < (69 : Int32) → w_Exact_second x2 h (fun (r23 : Int32) (h22 : xb_H) => xb_ext h h22 → ((r23 < (0 : Int32) → w_M_checkInstruction_L24 Qr x0 x2 h22) ∧ (¬ r23 < (0 : Int32) → xb_k h22 x0 = 9 ∧ w_M_take x0 (127 - r23) h22 (fun (r27 : Int32) (h26 : xb_H) => xb_ext h22 h26 → w_M_checkInstruction_L24 Qr x0 x2 h26))))))


def w_M_checkRows_L216 (Qr : xb_H → Prop) (h : xb_H) : Prop :=
    Qr h

def w_M_checkRows_L210 (K146 : Nat → Int32 → Int32 → xb_H → Prop) (Qr : xb_H → Prop) (x0 : Nat) (x1 : Int32) (x2 : Int32) (h : xb_H) : Prop :=
    K146 x0 x1 (x2 + 1) h

def w_M_checkRows_L146 (Qr : xb_H → Prop) : Nat → Nat → Int32 → Int32 → xb_H → Prop
  | 0, _, _, _, _ => False
  | n9 + 1, x0, x1, x2, h =>
    xb_k h x0 = 9 ∧ w_M_manyOf x0 x1 11 h (fun (r3 : Int32) (h2 : xb_H) => xb_ext h h2 → ((r3 ≤ x2 → w_M_checkRows_L216 Qr h2) ∧ (¬ r3 ≤ x2 → ((¬ (xb_i h2 x0 17) = (0 : Int32) → w_M_checkRows_L216 Qr h2) ∧ ((xb_i h2 x0 17) = (0 : Int32) → w_M_placeOf x0 x1 11 x2 h2 (fun (r7 : Int32) (h6 : xb_H) => xb_ext h2 h6 → w_M_go x0 x1 r7 h6 (fun (h8 : xb_H) => xb_ext h6 h8 → w_M_count x0 h8 (fun (r11 : Int64) (h10 : xb_H) => xb_ext h8 h10 → w_M_total x0 x1 2 h10 (fun (r13 : Int64) (h12 : xb_H) => xb_ext h10 h12 → ((r11 < r13 → w_M_checkConstant x0 x1 127 h12 (fun (h15 : xb_H) => xb_ext h12 h15 → w_M_checkRows_L210 (w_M_checkRows_L146 Qr n9) Qr x0 x1 x2 h15)) ∧ (¬ r11 < r13 → w_M_fail x0 20 r7 h12 (fun (h17 : xb_H) => xb_ext h12 h17 → w_M_checkRows_L210 (w_M_checkRows_L146 Qr n9) Qr x0 x1 x2 h17))))))))))))

def w_M_checkRows_L144 (Qr : xb_H → Prop) (x0 : Nat) (x1 : Int32) (h : xb_H) : Prop :=
    (∃ n8 : Nat, w_M_checkRows_L146 Qr n8 x0 x1 0 h)

def w_M_checkRows_L138 (K2 : Nat → Int32 → Int32 → xb_H → Prop) (Qr : xb_H → Prop) (x0 : Nat) (x1 : Int32) (x2 : Int32) (h : xb_H) : Prop :=
    K2 x0 x1 (x2 + 1) h

def w_M_checkRows_L129 (K2 : Nat → Int32 → Int32 → xb_H → Prop) (K86 : Nat → Int32 → Int32 → Int64 → Int64 → xb_H → Prop) (Qr : xb_H → Prop) (x0 : Nat) (x1 : Int32) (x2 : Int32) (x4 : Int64) (x6 : Int64) (h : xb_H) : Prop :=
    ∀ v1 : Int64, v1 = (x6 + 1) → K86 x0 x1 x2 x4 v1 h

def w_M_checkRows_L86 (K2 : Nat → Int32 → Int32 → xb_H → Prop) (Qr : xb_H → Prop) : Nat → Nat → Int32 → Int32 → Int64 → Int64 → xb_H → Prop
  | 0, _, _, _, _, _, _ => False
  | n9 + 1, x0, x1, x2, x4, x6, h =>
    ((x4 ≤ x6 → w_M_checkRows_L138 K2 Qr x0 x1 x2 h) ∧ (¬ x4 ≤ x6 → xb_k h x0 = 9 ∧ ((¬ (xb_i h x0 17) = (0 : Int32) → w_M_checkRows_L138 K2 Qr x0 x1 x2 h) ∧ ((xb_i h x0 17) = (0 : Int32) → ∀ v4 : Int32, v4 = (xb_i h x0 15) → w_M_count x0 h (fun (r6 : Int64) (h5 : xb_H) => xb_ext h h5 → w_M_total x0 x1 0 h5 (fun (r8 : Int64) (h7 : xb_H) => xb_ext h5 h7 → ((r6 < r8 → w_M_checkRows_L129 K2 (w_M_checkRows_L86 K2 Qr n9) Qr x0 x1 x2 x4 x6 h7) ∧ (¬ r6 < r8 → w_M_fail x0 20 v4 h7 (fun (h10 : xb_H) => xb_ext h7 h10 → w_M_checkRows_L129 K2 (w_M_checkRows_L86 K2 Qr n9) Qr x0 x1 x2 x4 x6 h10)))))))))

def w_M_checkRows_L81 (K2 : Nat → Int32 → Int32 → xb_H → Prop) (Qr : xb_H → Prop) (x0 : Nat) (x1 : Int32) (x2 : Int32) (y0 : Int64) (h : xb_H) : Prop :=
    (∃ n8 : Nat, w_M_checkRows_L86 K2 Qr n8 x0 x1 x2 y0 0 h)

def w_M_checkRows_L66 (K2 : Nat → Int32 → Int32 → xb_H → Prop) (Qr : xb_H → Prop) (x0 : Nat) (x1 : Int32) (x2 : Int32) (h : xb_H) : Prop :=
    xb_k h x0 = 9 ∧ ((¬ (xb_i h x0 17) = (0 : Int32) → w_M_checkRows_L81 K2 Qr x0 x1 x2 0 h) ∧ ((xb_i h x0 17) = (0 : Int32) → w_M_count x0 h (fun (r4 : Int64) (h3 : xb_H) => xb_ext h h3 → w_M_checkRows_L81 K2 Qr x0 x1 x2 r4 h3)))

def w_M_checkRows_L2 (Qr : xb_H → Prop) : Nat → Nat → Int32 → Int32 → xb_H → Prop
  | 0, _, _, _, _ => False
  | n9 + 1, x0, x1, x2, h =>
    xb_k h x0 = 9 ∧ w_M_manyOf x0 x1 9 h (fun (r3 : Int32) (h2 : xb_H) => xb_ext h h2 → ((r3 ≤ x2 → w_M_checkRows_L144 Qr x0 x1 h2) ∧ (¬ r3 ≤ x2 → ((¬ (xb_i h2 x0 17) = (0 : Int32) → w_M_checkRows_L144 Qr x0 x1 h2) ∧ ((xb_i h2 x0 17) = (0 : Int32) → w_M_placeOf x0 x1 9 x2 h2 (fun (r7 : Int32) (h6 : xb_H) => xb_ext h2 h6 → w_M_go x0 x1 r7 h6 (fun (h8 : xb_H) => xb_ext h6 h8 → w_M_count x0 h8 (fun (r11 : Int64) (h10 : xb_H) => xb_ext h8 h10 → w_M_total x0 x1 1 h10 (fun (r13 : Int64) (h12 : xb_H) => xb_ext h10 h12 → ((r11 < r13 → w_M_checkConstant x0 x1 127 h12 (fun (h15 : xb_H) => xb_ext h12 h15 → w_M_checkRows_L66 (w_M_checkRows_L2 Qr n9) Qr x0 x1 x2 h15)) ∧ (¬ r11 < r13 → w_M_fail x0 20 r7 h12 (fun (h17 : xb_H) => xb_ext h12 h17 → w_M_checkRows_L66 (w_M_checkRows_L2 Qr n9) Qr x0 x1 x2 h17))))))))))))

def w_M_checkRows (x0 : Nat) (x1 : Int32) (h : xb_H) (Qr : xb_H → Prop) : Prop :=
    (∃ n8 : Nat, w_M_checkRows_L2 Qr n8 x0 x1 0 h)


def w_M_found_L212 (Qr : Int32 → xb_H → Prop) (y0 : Int32) (h : xb_H) : Prop :=
    Qr y0 h

def w_M_found_L183 (Qr : Int32 → xb_H → Prop) (x0 : Nat) (x1 : Int32) (x2 : Int32) (x3 : Int32) (x9 : Int32) (h : xb_H) : Prop :=
    (((0 : Int32) ≤ x9 → xb_k h x0 = 9 ∧ w_M_fits x0 x1 x2 x3 x9 h (fun (r4 : Int32) (h3 : xb_H) => xb_ext h h3 → ((r4 = (0 : Int32) → w_M_found_L212 Qr (-43) h3) ∧ (¬ r4 = (0 : Int32) → w_M_found_L212 Qr x9 h3)))) ∧ (¬ (0 : Int32) ≤ x9 → w_M_found_L212 Qr x9 h))

def w_M_found_L181 (Qr : Int32 → xb_H → Prop) (x0 : Nat) (x1 : Int32) (x2 : Int32) (x3 : Int32) (y0 : Int32) (h : xb_H) : Prop :=
    w_M_found_L183 Qr x0 x1 x2 x3 y0 h

def w_M_found_L139 (Qr : Int32 → xb_H → Prop) (y0 : Int32) (h : xb_H) : Prop :=
    Qr y0 h

def w_M_found_L127 (Qr : Int32 → xb_H → Prop) (x10 : Int32) (h : xb_H) : Prop :=
    (((0 : Int32) ≤ x10 → w_M_found_L139 Qr (-42) h) ∧ (¬ (0 : Int32) ≤ x10 → w_M_found_L139 Qr (-41) h))

def w_M_found_L115 (Qr : Int32 → xb_H → Prop) (x0 : Nat) (x1 : Int32) (x2 : Int32) (x3 : Int32) (x10 : Int32) (y0 : Int32) (h : xb_H) : Prop :=
    ((x10 < (0 : Int32) → w_M_found_L127 Qr x10 h) ∧ (¬ x10 < (0 : Int32) → (((0 : Int32) ≤ y0 → xb_k h x0 = 9 ∧ ∃ b4 : Nat, (xb_r h x0 31) = some b4 ∧ xb_k h b4 = 102 ∧ vp_in x10 (xb_n h b4) ∧ ∀ v7 : Int32, v7 = (xb_i h b4 (Int32.toNatClampNeg x10)) → w_M_exportKind x0 v7 y0 h (fun (r9 : Int32) (h8 : xb_H) => xb_ext h h8 → ((¬ r9 = x3 → w_M_found_L181 Qr x0 x1 x2 x3 (-43) h8) ∧ (r9 = x3 → w_M_exportNumber x0 v7 y0 h8 (fun (r12 : Int32) (h11 : xb_H) => xb_ext h8 h11 → w_M_meant x0 x10 x3 r12 h11 (fun (r14 : Int32) (h13 : xb_H) => xb_ext h11 h13 → w_M_found_L181 Qr x0 x1 x2 x3 r14 h13)))))) ∧ (¬ (0 : Int32) ≤ y0 → w_M_found_L127 Qr x10 h))))

def w_M_found (x0 : Nat) (x1 : Int32) (x2 : Int32) (h : xb_H) (Qr : Int32 → xb_H → Prop) : Prop :=
    xb_k h x0 = 9 ∧ w_M_importAt x0 x1 x2 h (fun (r3 : Int32) (h2 : xb_H) => xb_ext h h2 → w_M_placeOf x0 x1 2 x2 h2 (fun (r5 : Int32) (h4 : xb_H) => xb_ext h2 h4 → w_M_go x0 x1 r5 h4 (fun (h6 : xb_H) => xb_ext h4 h6 → w_M_count x0 h6 (fun (r9 : Int64) (h8 : xb_H) => xb_ext h6 h8 → ∀ v10 : Int32, v10 = (Int64.toInt32 r9) → ∀ v11 : Int32, v11 = (xb_i h8 x0 15) → ∀ v12 : Int32, v12 = (v11 + v10) → w_M_go x0 x1 v12 h8 (fun (h13 : xb_H) => xb_ext h8 h13 → w_M_count x0 h13 (fun (r16 : Int64) (h15 : xb_H) => xb_ext h13 h15 → ∀ v17 : Int32, v17 = (Int64.toInt32 r16) → ∀ v18 : Int32, v18 = (xb_i h15 x0 15) → w_M_isHost x0 v11 v10 h15 (fun (r20 : Int32) (h19 : xb_H) => xb_ext h15 h19 → ((r20 = (0 : Int32) → w_M_instanceNamed x0 v11 v10 h19 (fun (r23 : Int32) (h22 : xb_H) => xb_ext h19 h22 → (((0 : Int32) ≤ r23 → w_M_exportNamed x0 r23 v18 v17 h22 (fun (r26 : Int32) (h25 : xb_H) => xb_ext h22 h25 → w_M_found_L115 Qr x0 x1 x2 r3 r23 r26 h25)) ∧ (¬ (0 : Int32) ≤ r23 → w_M_found_L115 Qr x0 x1 x2 r3 r23 (-1) h22)))) ∧ (¬ r20 = (0 : Int32) → w_M_ofHost x0 x1 r3 v12 h19 (fun (r28 : Int32) (h27 : xb_H) => xb_ext h19 h27 → w_M_found_L183 Qr x0 x1 x2 r3 r28 h27))))))))))


def w_M_peek_L41 (Qr : Int32 → xb_H → Prop) (y0 : Int32) (h : xb_H) : Prop :=
    Qr y0 h

def w_M_peek_L15 (Qr : Int32 → xb_H → Prop) (x0 : Nat) (x1 : Int32) (x2 : Int32) (y0 : Int32) (y1 : Nat) (h : xb_H) : Prop :=
    xb_k h y1 = 9 ∧ ∀ h2 : xb_H, h2 = xb_I h y1 0 y0 → xb_k h2 x0 = 9 ∧ (((xb_i h2 x0 0) ≤ (0 : Int32) → w_M_only x0 x1 2 h2 (fun (r6 : Int32) (h5 : xb_H) => xb_ext h2 h5 → w_M_byteAt x0 r6 (Int32.toInt64 x2) h5 (fun (r8 : Int32) (h7 : xb_H) => xb_ext h5 h7 → w_M_peek_L41 Qr r8 h7))) ∧ (¬ (xb_i h2 x0 0) ≤ (0 : Int32) → w_M_peek_L41 Qr 0 h2))

def w_M_peek (x0 : Nat) (x1 : Int32) (x2 : Int32) (h : xb_H) (Qr : Int32 → xb_H → Prop) : Prop :=
    xb_k h x0 = 9 ∧ w_M_isByte x0 x1 x2 h (fun (r3 : Int32) (h2 : xb_H) => xb_ext h h2 → ((r3 = (0 : Int32) → w_M_peek_L15 Qr x0 x1 x2 1 x0 h2) ∧ (¬ r3 = (0 : Int32) → w_M_peek_L15 Qr x0 x1 x2 0 x0 h2)))


def w_M_poke_L38 (Qr : xb_H → Prop) (h : xb_H) : Prop :=
    Qr h

def w_M_poke_L15 (Qr : xb_H → Prop) (x0 : Nat) (x1 : Int32) (x2 : Int32) (x3 : Int32) (y0 : Int32) (y1 : Nat) (h : xb_H) : Prop :=
    xb_k h y1 = 9 ∧ ∀ h2 : xb_H, h2 = xb_I h y1 0 y0 → xb_k h2 x0 = 9 ∧ ((¬ (xb_i h2 x0 0) = (0 : Int32) → w_M_poke_L38 Qr h2) ∧ ((xb_i h2 x0 0) = (0 : Int32) → w_M_only x0 x1 2 h2 (fun (r6 : Int32) (h5 : xb_H) => xb_ext h2 h5 → w_M_storeByte x0 r6 (Int32.toInt64 x2) x3 h5 (fun (h7 : xb_H) => xb_ext h5 h7 → w_M_poke_L38 Qr h7))))

def w_M_poke (x0 : Nat) (x1 : Int32) (x2 : Int32) (x3 : Int32) (h : xb_H) (Qr : xb_H → Prop) : Prop :=
    xb_k h x0 = 9 ∧ w_M_isByte x0 x1 x2 h (fun (r3 : Int32) (h2 : xb_H) => xb_ext h h2 → ((r3 = (0 : Int32) → w_M_poke_L15 Qr x0 x1 x2 x3 1 x0 h2) ∧ (¬ r3 = (0 : Int32) → w_M_poke_L15 Qr x0 x1 x2 x3 0 x0 h2)))


def w_M_readModule_L327 (Qr : xb_H → Nat → Nat → Prop) (h : xb_H) (bc : Nat) (bs : Nat) : Prop :=
    Qr h bc bs

def w_M_readModule_L281 (Qr : xb_H → Nat → Nat → Prop) (x0 : Nat) (x1 : Int32) (h : xb_H) (bc : Nat) (bs : Nat) : Prop :=
    xb_k h x0 = 9 ∧ ((¬ (xb_i h x0 17) = (0 : Int32) → w_M_readModule_L327 Qr h bc bs) ∧ ((xb_i h x0 17) = (0 : Int32) → ∃ b3 : Nat, (xb_r h x0 9) = some b3 ∧ xb_k h b3 = 102 ∧ vp_in ((12 * (xb_i h x0 5)) + 10) (xb_n h b3) ∧ ∃ b6 : Nat, (xb_r h x0 9) = some b6 ∧ xb_k h b6 = 102 ∧ vp_in ((12 * (xb_i h x0 5)) + 3) (xb_n h b6) ∧ (((xb_i h b3 (Int32.toNatClampNeg ((12 * (xb_i h x0 5)) + 10))) = (xb_i h b6 (Int32.toNatClampNeg ((12 * (xb_i h x0 5)) + 3))) → w_M_readModule_L327 Qr h bc bs) ∧ (¬ (xb_i h b3 (Int32.toNatClampNeg ((12 * (xb_i h x0 5)) + 10))) = (xb_i h b6 (Int32.toNatClampNeg ((12 * (xb_i h x0 5)) + 3))) → w_M_fail x0 8 x1 h (fun (h10 : xb_H) => xb_ext h h10 → w_M_readModule_L327 Qr h10 bc bs)))))

def w_M_readModule_L278 (K111 : Nat → Int32 → Int32 → xb_H → Nat → Nat → Prop) (Qr : xb_H → Nat → Nat → Prop) (x0 : Nat) (x1 : Int32) (x3 : Int32) (h : xb_H) (bc : Nat) (bs : Nat) : Prop :=
    K111 x0 x1 x3 h bc bs

def w_M_readModule_L277 (K111 : Nat → Int32 → Int32 → xb_H → Nat → Nat → Prop) (Qr : xb_H → Nat → Nat → Prop) (x0 : Nat) (x1 : Int32) (y0 : Int32) (h : xb_H) (bc : Nat) (bs : Nat) : Prop :=
    w_M_readModule_L278 K111 Qr x0 x1 y0 h bc bs

def w_M_readModule_L222 (K111 : Nat → Int32 → Int32 → xb_H → Nat → Nat → Prop) (Qr : xb_H → Nat → Nat → Prop) (x0 : Nat) (x1 : Int32) (x3 : Int32) (x5 : Int32) (x6 : Int64) (h : xb_H) (bc : Nat) (bs : Nat) : Prop :=
    xb_k h x0 = 9 ∧ ((¬ (xb_i h x0 17) = (0 : Int32) → w_M_readModule_L278 K111 Qr x0 x1 x3 h bc bs) ∧ ((xb_i h x0 17) = (0 : Int32) → ∀ h3 : xb_H, h3 = xb_I h x0 16 ((xb_i h x0 15) + (Int64.toInt32 x6)) → ∃ b4 : Nat, (xb_r h3 x0 8) = some b4 ∧ xb_k h3 b4 = 102 ∧ vp_in ((12 * (xb_i h3 x0 5)) + x5) (xb_n h3 b4) ∧ ∀ h7 : xb_H, h7 = xb_I h3 b4 (Int32.toNatClampNeg ((12 * (xb_i h3 x0 5)) + x5)) (xb_i h3 x0 13) → w_M_section x0 x5 h7 bc bs (fun (h8 : xb_H) (bc9 bs9 : Nat) => xb_ext h7 h8 → ((x5 ≤ (0 : Int32) → w_M_readModule_L277 K111 Qr x0 x1 x3 h8 bc9 bs9) ∧ (¬ x5 ≤ (0 : Int32) → w_M_readModule_L277 K111 Qr x0 x1 x5 h8 bc9 bs9)))))

def w_M_readModule_L194 (K111 : Nat → Int32 → Int32 → xb_H → Nat → Nat → Prop) (Qr : xb_H → Nat → Nat → Prop) (x0 : Nat) (x1 : Int32) (x3 : Int32) (x5 : Int32) (y0 : Int64) (h : xb_H) (bc : Nat) (bs : Nat) : Prop :=
    xb_k h x0 = 9 ∧ ((¬ (xb_i h x0 17) = (0 : Int32) → w_M_readModule_L222 K111 Qr x0 x1 x3 x5 y0 h bc bs) ∧ ((xb_i h x0 17) = (0 : Int32) → ((y0 ≤ (Int32.toInt64 (x1 - (xb_i h x0 15))) → w_M_readModule_L222 K111 Qr x0 x1 x3 x5 y0 h bc bs) ∧ (¬ y0 ≤ (Int32.toInt64 (x1 - (xb_i h x0 15))) → w_M_fail x0 2 x1 h (fun (h4 : xb_H) => xb_ext h h4 → w_M_readModule_L222 K111 Qr x0 x1 x3 x5 y0 h4 bc bs)))))

def w_M_readModule_L179 (K111 : Nat → Int32 → Int32 → xb_H → Nat → Nat → Prop) (Qr : xb_H → Nat → Nat → Prop) (x0 : Nat) (x1 : Int32) (x3 : Int32) (x5 : Int32) (h : xb_H) (bc : Nat) (bs : Nat) : Prop :=
    xb_k h x0 = 9 ∧ ((¬ (xb_i h x0 17) = (0 : Int32) → w_M_readModule_L194 K111 Qr x0 x1 x3 x5 0 h bc bs) ∧ ((xb_i h x0 17) = (0 : Int32) → w_M_count x0 h (fun (r4 : Int64) (h3 : xb_H) => xb_ext h h3 → w_M_readModule_L194 K111 Qr x0 x1 x3 x5 r4 h3 bc bs)))

def w_M_readModule_L111 (Qr : xb_H → Nat → Nat → Prop) : Nat → Nat → Int32 → Int32 → xb_H → Nat → Nat → Prop
  | 0, _, _, _, _, _, _ => False
  | n9 + 1, x0, x1, x3, h, bc, bs =>
    xb_k h x0 = 9 ∧ ((¬ (xb_i h x0 17) = (0 : Int32) → w_M_readModule_L281 Qr x0 x1 h bc bs) ∧ ((xb_i h x0 17) = (0 : Int32) → ((x1 ≤ (xb_i h x0 15) → w_M_readModule_L281 Qr x0 x1 h bc bs) ∧ (¬ x1 ≤ (xb_i h x0 15) → ∀ v4 : Int32, v4 = (xb_i h x0 15) → ∀ h5 : xb_H, h5 = xb_I h x0 16 x1 → w_M_next x0 h5 (fun (r7 : Int32) (h6 : xb_H) => xb_ext h5 h6 → ((r7 ≤ (11 : Int32) → ((r7 ≤ (0 : Int32) → w_M_readModule_L179 (w_M_readModule_L111 Qr n9) Qr x0 x1 x3 r7 h6 bc bs) ∧ (¬ r7 ≤ (0 : Int32) → ((x3 < r7 → w_M_readModule_L179 (w_M_readModule_L111 Qr n9) Qr x0 x1 x3 r7 h6 bc bs) ∧ (¬ x3 < r7 → w_M_fail x0 6 v4 h6 (fun (h11 : xb_H) => xb_ext h6 h11 → w_M_readModule_L179 (w_M_readModule_L111 Qr n9) Qr x0 x1 x3 r7 h11 bc bs)))))) ∧ (¬ r7 ≤ (11 : Int32) → w_M_fail x0 5 v4 h6 (fun (h13 : xb_H) => xb_ext h6 h13 → w_M_readModule_L179 (w_M_readModule_L111 Qr n9) Qr x0 x1 x3 r7 h13 bc bs))))))))

def w_M_readModule_L92 (K44 : Nat → Int32 → Nat → Int32 → xb_H → Nat → Nat → Prop) (Qr : xb_H → Nat → Nat → Prop) (x0 : Nat) (x1 : Int32) (x2 : Nat) (x3 : Int32) (h : xb_H) (bc : Nat) (bs : Nat) : Prop :=
    K44 x0 x1 x2 (x3 + 1) h bc bs

def w_M_readModule_L81 (K44 : Nat → Int32 → Nat → Int32 → xb_H → Nat → Nat → Prop) (Qr : xb_H → Nat → Nat → Prop) (x0 : Nat) (x1 : Int32) (x2 : Nat) (x3 : Int32) (h : xb_H) (bc : Nat) (bs : Nat) : Prop :=
    xb_k h x0 = 9 ∧ w_M_fail x0 1 ((xb_i h x0 14) + x3) h (fun (h2 : xb_H) => xb_ext h h2 → w_M_readModule_L92 K44 Qr x0 x1 x2 x3 h2 bc bs)

def w_M_readModule_L44 (Qr : xb_H → Nat → Nat → Prop) : Nat → Nat → Int32 → Nat → Int32 → xb_H → Nat → Nat → Prop
  | 0, _, _, _, _, _, _, _ => False
  | n9 + 1, x0, x1, x2, x3, h, bc, bs =>
    (((8 : Int32) ≤ x3 → xb_k h x0 = 9 ∧ ∀ h3 : xb_H, h3 = xb_I h x0 15 ((xb_i h x0 14) + 8) → (∃ n8 : Nat, w_M_readModule_L111 Qr n8 x0 x1 0 h3 bc bs)) ∧ (¬ (8 : Int32) ≤ x3 → xb_k h x0 = 9 ∧ ((x1 ≤ ((xb_i h x0 14) + x3) → w_M_readModule_L81 (w_M_readModule_L44 Qr n9) Qr x0 x1 x2 x3 h bc bs) ∧ (¬ x1 ≤ ((xb_i h x0 14) + x3) → ∃ b6 : Nat, (xb_r h x0 3) = some b6 ∧ xb_k h b6 = 100 ∧ vp_in ((xb_i h x0 14) + x3) (xb_n h b6) ∧ xb_k h x2 = 102 ∧ vp_in x3 (xb_n h x2) ∧ ((((xb_i h b6 (Int32.toNatClampNeg ((xb_i h x0 14) + x3))) &&& 255) = (xb_i h x2 (Int32.toNatClampNeg x3)) → w_M_readModule_L92 (w_M_readModule_L44 Qr n9) Qr x0 x1 x2 x3 h bc bs) ∧ (¬ ((xb_i h b6 (Int32.toNatClampNeg ((xb_i h x0 14) + x3))) &&& 255) = (xb_i h x2 (Int32.toNatClampNeg x3)) → w_M_readModule_L81 (w_M_readModule_L44 Qr n9) Qr x0 x1 x2 x3 h bc bs))))))

def w_M_readModule (x0 : Nat) (x1 : Int32) (h : xb_H) (bc : Nat) (bs : Nat) (Qr : xb_H → Nat → Nat → Prop) : Prop :=
    1 ≤ bc ∧ 8 ≤ bs ∧ ∀ q1 : Nat, xb_k h q1 = 0 → ∀ h2 : xb_H, h2 = xb_new h q1 102 8 → vp_in 0 (xb_n h2 q1) ∧ ∀ h5 : xb_H, h5 = xb_I h2 q1 (Int32.toNatClampNeg 0) 0 → vp_in 1 (xb_n h5 q1) ∧ ∀ h7 : xb_H, h7 = xb_I h5 q1 (Int32.toNatClampNeg 1) 97 → vp_in 2 (xb_n h7 q1) ∧ ∀ h9 : xb_H, h9 = xb_I h7 q1 (Int32.toNatClampNeg 2) 115 → vp_in 3 (xb_n h9 q1) ∧ ∀ h11 : xb_H, h11 = xb_I h9 q1 (Int32.toNatClampNeg 3) 109 → vp_in 4 (xb_n h11 q1) ∧ ∀ h13 : xb_H, h13 = xb_I h11 q1 (Int32.toNatClampNeg 4) 1 → vp_in 5 (xb_n h13 q1) ∧ ∀ h15 : xb_H, h15 = xb_I h13 q1 (Int32.toNatClampNeg 5) 0 → vp_in 6 (xb_n h15 q1) ∧ ∀ h17 : xb_H, h17 = xb_I h15 q1 (Int32.toNatClampNeg 6) 0 → vp_in 7 (xb_n h17 q1) ∧ ∀ h19 : xb_H, h19 = xb_I h17 q1 (Int32.toNatClampNeg 7) 0 → (∃ n8 : Nat, w_M_readModule_L44 Qr n8 x0 x1 q1 0 h19 (bc - 1) (bs - 8))


def w_M_checkBody_L140 (Qr : xb_H → Prop) (x0 : Nat) (x1 : Int32) (x2 : Int32) (h : xb_H) : Prop :=
    xb_k h x0 = 9 ∧ ∃ b2 : Nat, (xb_r h x0 12) = some b2 ∧ ∃ b3 : Nat, (xb_r h x0 8) = some b3 ∧ xb_k h b3 = 102 ∧ vp_in ((12 * x1) + 10) (xb_n h b3) ∧ xb_k h b2 = 102 ∧ vp_in ((xb_i h b3 (Int32.toNatClampNeg ((12 * x1) + 10))) + x2) (xb_n h b2) ∧ ∀ h8 : xb_H, h8 = xb_I h b2 (Int32.toNatClampNeg ((xb_i h b3 (Int32.toNatClampNeg ((12 * x1) + 10))) + x2)) (xb_i h x0 23) → Qr h8

def w_M_checkBody_L137 (K72 : Nat → Int32 → Int32 → xb_H → Prop) (Qr : xb_H → Prop) (x0 : Nat) (x1 : Int32) (x2 : Int32) (h : xb_H) : Prop :=
    K72 x0 x1 x2 h

def w_M_checkBody_L72 (Qr : xb_H → Prop) : Nat → Nat → Int32 → Int32 → xb_H → Prop
  | 0, _, _, _, _ => False
  | n9 + 1, x0, x1, x2, h =>
    xb_k h x0 = 9 ∧ (((xb_i h x0 29) ≤ (0 : Int32) → w_M_checkBody_L140 Qr x0 x1 x2 h) ∧ (¬ (xb_i h x0 29) ≤ (0 : Int32) → ((¬ (xb_i h x0 17) = (0 : Int32) → w_M_checkBody_L140 Qr x0 x1 x2 h) ∧ ((xb_i h x0 17) = (0 : Int32) → ∀ h4 : xb_H, h4 = xb_I h x0 92 (xb_i h x0 15) → w_M_next x0 h4 (fun (r6 : Int32) (h5 : xb_H) => xb_ext h4 h5 → ∀ v7 : Int32, v7 = (xb_i h5 x0 15) → w_M_checkInstruction x0 x1 r6 h5 (fun (h8 : xb_H) => xb_ext h5 h8 → ((¬ (xb_i h8 x0 17) = (0 : Int32) → w_M_checkBody_L137 (w_M_checkBody_L72 Qr n9) Qr x0 x1 x2 h8) ∧ ((xb_i h8 x0 17) = (0 : Int32) → w_M_go x0 x1 v7 h8 (fun (h11 : xb_H) => xb_ext h8 h11 → w_M_written x0 r6 (xb_i h11 x0 92) h11 (fun (h13 : xb_H) => xb_ext h11 h13 → w_M_checkBody_L137 (w_M_checkBody_L72 Qr n9) Qr x0 x1 x2 h13))))))))))

def w_M_checkBody (x0 : Nat) (x1 : Int32) (x2 : Int32) (h : xb_H) (Qr : xb_H → Prop) : Prop :=
    xb_k h x0 = 9 ∧ ∃ b2 : Nat, (xb_r h x0 10) = some b2 ∧ xb_k h b2 = 102 ∧ vp_in (4 * x1) (xb_n h b2) ∧ w_M_typeOf x0 x1 ((xb_i h b2 (Int32.toNatClampNeg (4 * x1))) + x2) h (fun (r6 : Int32) (h5 : xb_H) => xb_ext h h5 → w_M_resultOf x0 x1 r6 h5 (fun (r8 : Int32) (h7 : xb_H) => xb_ext h5 h7 → w_M_placeOf x0 x1 10 x2 h7 (fun (r10 : Int32) (h9 : xb_H) => xb_ext h7 h9 → w_M_go x0 x1 r10 h9 (fun (h11 : xb_H) => xb_ext h9 h11 → w_M_count x0 h11 (fun (r14 : Int64) (h13 : xb_H) => xb_ext h11 h13 → w_M_readLocals x0 x1 r6 h13 (fun (h15 : xb_H) => xb_ext h13 h15 → ∀ h17 : xb_H, h17 = xb_I h15 x0 22 0 → ∀ h18 : xb_H, h18 = xb_I h17 x0 23 0 → ∀ h19 : xb_H, h19 = xb_I h18 x0 29 0 → w_M_begin x0 0 r8 r8 h19 (fun (h20 : xb_H) => xb_ext h19 h20 → (∃ n8 : Nat, w_M_checkBody_L72 Qr n8 x0 x1 x2 h20))))))))


def w_M_instantiate_L554 (Qr : Int32 → xb_H → Nat → Nat → Prop) (x12 : Int32) (h : xb_H) (bc : Nat) (bs : Nat) : Prop :=
    Qr x12 h bc bs

def w_M_instantiate_L478 (Qr : Int32 → xb_H → Nat → Nat → Prop) (h : xb_H) (bc : Nat) (bs : Nat) : Prop :=
    Qr (-1) h bc bs

def w_M_instantiate_L431 (K365 : Nat → Int32 → Int32 → Int32 → xb_H → Nat → Nat → Prop) (Qr : Int32 → xb_H → Nat → Nat → Prop) (x0 : Nat) (x1 : Int32) (x12 : Int32) (x13 : Int32) (y0 : Int32) (y1 : Int32) (y2 : Nat) (h : xb_H) (bc : Nat) (bs : Nat) : Prop :=
    xb_k h y2 = 101 ∧ vp_in y1 (xb_n h y2) ∧ ∀ h3 : xb_H, h3 = xb_I h y2 (Int32.toNatClampNeg y1) (vp_nar .boolean y0) → xb_k h3 x0 = 9 ∧ ∃ b5 : Nat, (xb_r h3 x0 61) = some b5 ∧ w_M_constant x0 x12 h3 (fun (r7 : Int64) (h6 : xb_H) => xb_ext h3 h6 → xb_k h6 b5 = 103 ∧ vp_in ((xb_i h3 x0 58) + x13) (xb_n h6 b5) ∧ ∀ h10 : xb_H, h10 = xb_L h6 b5 (Int32.toNatClampNeg ((xb_i h3 x0 58) + x13)) r7 → K365 x0 x1 x12 (x13 + 1) h10 bc bs)

def w_M_instantiate_L365 (Qr : Int32 → xb_H → Nat → Nat → Prop) : Nat → Nat → Int32 → Int32 → Int32 → xb_H → Nat → Nat → Prop
  | 0, _, _, _, _, _, _, _ => False
  | n9 + 1, x0, x1, x12, x13, h, bc, bs =>
    xb_k h x0 = 9 ∧ w_M_manyOf x0 x1 6 h (fun (r3 : Int32) (h2 : xb_H) => xb_ext h h2 → ((r3 ≤ x13 → w_M_rowsFit x0 x12 9 h2 (fun (r6 : Int32) (h5 : xb_H) => xb_ext h2 h5 → ((r6 = (0 : Int32) → w_M_instantiate_L478 Qr h5 bc bs) ∧ (¬ r6 = (0 : Int32) → w_M_rowsFit x0 x12 11 h5 (fun (r9 : Int32) (h8 : xb_H) => xb_ext h5 h8 → ((¬ r9 = (0 : Int32) → w_M_settle x0 x12 x1 h8 (fun (h11 : xb_H) => xb_ext h8 h11 → w_M_writeRows x0 x12 h11 (fun (h13 : xb_H) => xb_ext h11 h13 → w_M_refuse x0 0 0 h13 (fun (r16 : Int32) (h15 : xb_H) => xb_ext h13 h15 → w_M_manyOf x0 x1 8 h15 (fun (r18 : Int32) (h17 : xb_H) => xb_ext h15 h17 → ((r18 ≤ (0 : Int32) → w_M_instantiate_L554 Qr x12 h17 bc bs) ∧ (¬ r18 ≤ (0 : Int32) → w_M_placeOf x0 x1 8 0 h17 (fun (r21 : Int32) (h20 : xb_H) => xb_ext h17 h20 → w_M_go x0 x1 r21 h20 (fun (h22 : xb_H) => xb_ext h20 h22 → w_M_count x0 h22 (fun (r25 : Int64) (h24 : xb_H) => xb_ext h22 h24 → w_M_meant x0 x12 0 (Int64.toInt32 r25) h24 (fun (r27 : Int32) (h26 : xb_H) => xb_ext h24 h26 → ∀ h28 : xb_H, h28 = xb_I h26 x0 64 r27 → ∀ h29 : xb_H, h29 = xb_I h28 x0 62 1 → ∀ h30 : xb_H, h30 = xb_I h29 x0 63 0 → ∀ h31 : xb_H, h31 = xb_I h30 x0 93 0 → w_M_instantiate_L554 Qr x12 h31 bc bs))))))))))) ∧ (r9 = (0 : Int32) → w_M_instantiate_L478 Qr h8 bc bs))))))) ∧ (¬ r3 ≤ x13 → w_M_placeOf x0 x1 6 x13 h2 (fun (r33 : Int32) (h32 : xb_H) => xb_ext h2 h32 → w_M_go x0 x1 r33 h32 (fun (h34 : xb_H) => xb_ext h32 h34 → ∃ b36 : Nat, (xb_r h34 x0 59) = some b36 ∧ w_M_next x0 h34 (fun (r38 : Int32) (h37 : xb_H) => xb_ext h34 h37 → xb_k h37 b36 = 102 ∧ vp_in ((xb_i h34 x0 58) + x13) (xb_n h37 b36) ∧ ∀ h41 : xb_H, h41 = xb_I h37 b36 (Int32.toNatClampNeg ((xb_i h34 x0 58) + x13)) r38 → ∃ b42 : Nat, (xb_r h41 x0 60) = some b42 ∧ w_M_next x0 h41 (fun (r44 : Int32) (h43 : xb_H) => xb_ext h41 h43 → ((¬ r44 = (1 : Int32) → w_M_instantiate_L431 (w_M_instantiate_L365 Qr n9) Qr x0 x1 x12 x13 0 ((xb_i h41 x0 58) + x13) b42 h43 bc bs) ∧ (r44 = (1 : Int32) → w_M_instantiate_L431 (w_M_instantiate_L365 Qr n9) Qr x0 x1 x12 x13 1 ((xb_i h41 x0 58) + x13) b42 h43 bc bs)))))))))

def w_M_instantiate_L362 (Qr : Int32 → xb_H → Nat → Nat → Prop) (x0 : Nat) (x1 : Int32) (x12 : Int32) (h : xb_H) (bc : Nat) (bs : Nat) : Prop :=
    (∃ n8 : Nat, w_M_instantiate_L365 Qr n8 x0 x1 x12 0 h bc bs)

def w_M_instantiate_L330 (Qr : Int32 → xb_H → Nat → Nat → Prop) (x0 : Nat) (x1 : Int32) (x7 : Int64) (x9 : Int64) (x12 : Int32) (h : xb_H) (bc : Nat) (bs : Nat) : Prop :=
    xb_k h x0 = 9 ∧ w_M_manyOf x0 x1 5 h (fun (r3 : Int32) (h2 : xb_H) => xb_ext h h2 → ((r3 ≤ (0 : Int32) → w_M_instantiate_L362 Qr x0 x1 x12 h2 bc bs) ∧ (¬ r3 ≤ (0 : Int32) → ∃ b5 : Nat, (xb_r h2 x0 54) = some b5 ∧ xb_k h2 b5 = 102 ∧ vp_in (xb_i h2 x0 52) (xb_n h2 b5) ∧ ∀ h8 : xb_H, h8 = xb_I h2 b5 (Int32.toNatClampNeg (xb_i h2 x0 52)) (Int64.toInt32 x7) → ∃ b9 : Nat, (xb_r h8 x0 55) = some b9 ∧ xb_k h8 b9 = 103 ∧ vp_in (xb_i h8 x0 52) (xb_n h8 b9) ∧ ∀ h12 : xb_H, h12 = xb_L h8 b9 (Int32.toNatClampNeg (xb_i h8 x0 52)) x9 → w_M_instantiate_L362 Qr x0 x1 x12 h12 bc bs)))

def w_M_instantiate_L202 (Qr : Int32 → xb_H → Nat → Nat → Prop) (x0 : Nat) (x1 : Int32) (x3 : Int64) (x5 : Int64) (x7 : Int64) (x9 : Int64) (y0 : Int32) (h : xb_H) (bc : Nat) (bs : Nat) : Prop :=
    ((¬ y0 = (0 : Int32) → xb_k h x0 = 9 ∧ ∀ v3 : Int32, v3 = (xb_i h x0 30) → ∃ b4 : Nat, (xb_r h x0 31) = some b4 ∧ xb_k h b4 = 102 ∧ vp_in v3 (xb_n h b4) ∧ ∀ h7 : xb_H, h7 = xb_I h b4 (Int32.toNatClampNeg v3) x1 → ∃ b8 : Nat, (xb_r h7 x0 32) = some b8 ∧ xb_k h7 b8 = 102 ∧ vp_in v3 (xb_n h7 b8) ∧ ∀ h11 : xb_H, h11 = xb_I h7 b8 (Int32.toNatClampNeg v3) (xb_i h7 x0 34) → ∃ b12 : Nat, (xb_r h11 x0 35) = some b12 ∧ xb_k h11 b12 = 102 ∧ vp_in v3 (xb_n h11 b12) ∧ ∀ h15 : xb_H, h15 = xb_I h11 b12 (Int32.toNatClampNeg v3) (xb_i h11 x0 43) → ∃ b16 : Nat, (xb_r h15 x0 36) = some b16 ∧ xb_k h15 b16 = 102 ∧ vp_in v3 (xb_n h15 b16) ∧ ∀ h19 : xb_H, h19 = xb_I h15 b16 (Int32.toNatClampNeg v3) (xb_i h15 x0 58) → ∃ b20 : Nat, (xb_r h19 x0 37) = some b20 ∧ xb_k h19 b20 = 102 ∧ vp_in v3 (xb_n h19 b20) ∧ ∀ h23 : xb_H, h23 = xb_I h19 b20 (Int32.toNatClampNeg v3) (xb_i h19 x0 46) → ∃ b24 : Nat, (xb_r h23 x0 38) = some b24 ∧ xb_k h23 b24 = 102 ∧ vp_in v3 (xb_n h23 b24) ∧ ∀ h27 : xb_H, h27 = xb_I h23 b24 (Int32.toNatClampNeg v3) (xb_i h23 x0 52) → w_M_manyOf x0 x1 4 h27 (fun (r29 : Int32) (h28 : xb_H) => xb_ext h27 h28 → ((r29 ≤ (0 : Int32) → w_M_instantiate_L330 Qr x0 x1 x7 x9 v3 h28 bc bs) ∧ (¬ r29 ≤ (0 : Int32) → ∃ b31 : Nat, (xb_r h28 x0 48) = some b31 ∧ xb_k h28 b31 = 102 ∧ vp_in (xb_i h28 x0 46) (xb_n h28 b31) ∧ ∀ h34 : xb_H, h34 = xb_I h28 b31 (Int32.toNatClampNeg (xb_i h28 x0 46)) (xb_i h28 x0 47) → ∃ b35 : Nat, (xb_r h34 x0 49) = some b35 ∧ xb_k h34 b35 = 102 ∧ vp_in (xb_i h34 x0 46) (xb_n h34 b35) ∧ ∀ h38 : xb_H, h38 = xb_I h34 b35 (Int32.toNatClampNeg (xb_i h34 x0 46)) (Int64.toInt32 x3) → ∃ b39 : Nat, (xb_r h38 x0 50) = some b39 ∧ xb_k h38 b39 = 103 ∧ vp_in (xb_i h38 x0 46) (xb_n h38 b39) ∧ ∀ h42 : xb_H, h42 = xb_L h38 b39 (Int32.toNatClampNeg (xb_i h38 x0 46)) x5 → w_M_instantiate_L330 Qr x0 x1 x7 x9 v3 h42 bc bs)))) ∧ (y0 = (0 : Int32) → xb_k h x0 = 9 ∧ w_M_refuse x0 44 0 h (fun (r45 : Int32) (h44 : xb_H) => xb_ext h h44 → Qr r45 h44 bc bs)))

def w_M_instantiate_L201 (Qr : Int32 → xb_H → Nat → Nat → Prop) (x0 : Nat) (x1 : Int32) (x3 : Int64) (x5 : Int64) (x7 : Int64) (x9 : Int64) (h : xb_H) (bc : Nat) (bs : Nat) : Prop :=
    w_M_instantiate_L202 Qr x0 x1 x3 x5 x7 x9 0 h bc bs

def w_M_instantiate_L51 (Qr : Int32 → xb_H → Nat → Nat → Prop) : Nat → Nat → Int32 → Int32 → Int32 → xb_H → Nat → Nat → Prop
  | 0, _, _, _, _, _, _, _ => False
  | n9 + 1, x0, x1, x2, x3, h, bc, bs =>
    ((x2 ≤ x3 → xb_k h x0 = 9 ∧ w_M_ownLeast x0 x1 4 h (fun (r4 : Int64) (h3 : xb_H) => xb_ext h h3 → ∀ v5 : Int64, v5 = (xb_l h3 x0 91) → w_M_ownLeast x0 x1 5 h3 (fun (r7 : Int64) (h6 : xb_H) => xb_ext h3 h6 → ∀ v8 : Int64, v8 = (xb_l h6 x0 91) → (((24 : Int32) ≤ (xb_i h6 x0 30) → w_M_instantiate_L201 Qr x0 x1 r4 v5 r7 v8 h6 bc bs) ∧ (¬ (24 : Int32) ≤ (xb_i h6 x0 30) → w_M_manyOf x0 x1 3 h6 (fun (r11 : Int32) (h10 : xb_H) => xb_ext h6 h10 → (((8192 : Int32) < ((xb_i h6 x0 43) + r11) → w_M_instantiate_L201 Qr x0 x1 r4 v5 r7 v8 h10 bc bs) ∧ (¬ (8192 : Int32) < ((xb_i h6 x0 43) + r11) → w_M_manyOf x0 x1 6 h10 (fun (r14 : Int32) (h13 : xb_H) => xb_ext h10 h13 → (((4096 : Int32) < ((xb_i h10 x0 58) + r14) → w_M_instantiate_L201 Qr x0 x1 r4 v5 r7 v8 h13 bc bs) ∧ (¬ (4096 : Int32) < ((xb_i h10 x0 58) + r14) → (((16384 : Int64) < ((Int32.toInt64 (xb_i h13 x0 47)) + r4) → w_M_instantiate_L201 Qr x0 x1 r4 v5 r7 v8 h13 bc bs) ∧ (¬ (16384 : Int64) < ((Int32.toInt64 (xb_i h13 x0 47)) + r4) → (((16 : Int64) < ((Int32.toInt64 (xb_i h13 x0 53)) + r7) → w_M_instantiate_L201 Qr x0 x1 r4 v5 r7 v8 h13 bc bs) ∧ (¬ (16 : Int64) < ((Int32.toInt64 (xb_i h13 x0 53)) + r7) → w_M_instantiate_L202 Qr x0 x1 r4 v5 r7 v8 1 h13 bc bs))))))))))))))) ∧ (¬ x2 ≤ x3 → xb_k h x0 = 9 ∧ w_M_found x0 x1 x3 h (fun (r20 : Int32) (h19 : xb_H) => xb_ext h h19 → (((0 : Int32) ≤ r20 → ∃ b22 : Nat, (xb_r h19 x0 33) = some b22 ∧ xb_k h19 b22 = 102 ∧ vp_in ((xb_i h19 x0 34) + x3) (xb_n h19 b22) ∧ ∀ h25 : xb_H, h25 = xb_I h19 b22 (Int32.toNatClampNeg ((xb_i h19 x0 34) + x3)) r20 → w_M_instantiate_L51 Qr n9 x0 x1 x2 (x3 + 1) h25 bc bs) ∧ (¬ (0 : Int32) ≤ r20 → w_M_refuse x0 (-r20) x3 h19 (fun (r27 : Int32) (h26 : xb_H) => xb_ext h19 h26 → Qr r27 h26 bc bs))))))

def w_M_instantiate_L25 (Qr : Int32 → xb_H → Nat → Nat → Prop) (x0 : Nat) (x1 : Int32) (y0 : Int32) (y1 : Nat) (h : xb_H) (bc : Nat) (bs : Nat) : Prop :=
    xb_k h y1 = 9 ∧ ∀ h2 : xb_H, h2 = xb_I h y1 0 y0 → xb_k h2 x0 = 9 ∧ (((xb_i h2 x0 0) ≤ (0 : Int32) → w_M_manyOf x0 x1 2 h2 (fun (r6 : Int32) (h5 : xb_H) => xb_ext h2 h5 → w_M_reserveImports x0 r6 h5 bc bs (fun (h7 : xb_H) (bc8 bs8 : Nat) => xb_ext h5 h7 → (∃ n8 : Nat, w_M_instantiate_L51 Qr n8 x0 x1 r6 0 h7 bc8 bs8)))) ∧ (¬ (xb_i h2 x0 0) ≤ (0 : Int32) → Qr 0 h2 bc bs))

def w_M_instantiate (x0 : Nat) (x1 : Int32) (h : xb_H) (bc : Nat) (bs : Nat) (Qr : Int32 → xb_H → Nat → Nat → Prop) : Prop :=
    xb_k h x0 = 9 ∧ w_M_isModule x0 x1 h (fun (r3 : Int32) (h2 : xb_H) => xb_ext h h2 → ((¬ r3 = (0 : Int32) → (((xb_i h2 x0 62) = (0 : Int32) → w_M_instantiate_L25 Qr x0 x1 0 x0 h2 bc bs) ∧ (¬ (xb_i h2 x0 62) = (0 : Int32) → w_M_instantiate_L25 Qr x0 x1 2 x0 h2 bc bs))) ∧ (r3 = (0 : Int32) → w_M_instantiate_L25 Qr x0 x1 1 x0 h2 bc bs)))


def w_M_perform_L104 (Qr : xb_H → Prop) (h : xb_H) : Prop :=
    Qr h

def w_M_perform_L79 (Qr : xb_H → Prop) (x0 : Nat) (x1 : Int32) (h : xb_H) : Prop :=
    xb_k h x0 = 9 ∧ (((xb_i h x0 68) ≤ x1 → w_M_perform_L104 Qr h) ∧ (¬ (xb_i h x0 68) ≤ x1 → ((¬ (xb_i h x0 82) = (0 : Int32) → w_M_perform_L104 Qr h) ∧ ((xb_i h x0 82) = (0 : Int32) → ∃ b4 : Nat, (xb_r h x0 70) = some b4 ∧ xb_k h b4 = 102 ∧ vp_in x1 (xb_n h b4) ∧ ∀ h7 : xb_H, h7 = xb_I h b4 (Int32.toNatClampNeg x1) (xb_i h x0 15) → w_M_perform_L104 Qr h7))))

def w_M_perform (x0 : Nat) (x1 : Int32) (x2 : Int32) (x3 : Int32) (h : xb_H) (Qr : xb_H → Prop) : Prop :=
    ((x3 < (69 : Int32) → ((x3 < (65 : Int32) → ((x3 < (40 : Int32) → ((x3 < (32 : Int32) → ((x3 < (16 : Int32) → xb_k h x0 = 9 ∧ w_M_flow x0 x1 x3 h (fun (h7 : xb_H) => xb_ext h h7 → w_M_perform_L79 Qr x0 x1 h7)) ∧ (¬ x3 < (16 : Int32) → xb_k h x0 = 9 ∧ w_M_calling x0 x1 x2 x3 h (fun (h10 : xb_H) => xb_ext h h10 → Qr h10)))) ∧ (¬ x3 < (32 : Int32) → xb_k h x0 = 9 ∧ w_M_ofPlace x0 x1 x2 x3 h (fun (h13 : xb_H) => xb_ext h h13 → w_M_perform_L79 Qr x0 x1 h13)))) ∧ (¬ x3 < (40 : Int32) → xb_k h x0 = 9 ∧ w_M_inMemory x0 x2 x3 h (fun (h16 : xb_H) => xb_ext h h16 → w_M_perform_L79 Qr x0 x1 h16)))) ∧ (¬ x3 < (65 : Int32) → xb_k h x0 = 9 ∧ w_M_constantOf x0 x3 h (fun (h19 : xb_H) => xb_ext h h19 → w_M_perform_L79 Qr x0 x1 h19)))) ∧ (¬ x3 < (69 : Int32) → xb_k h x0 = 9 ∧ w_M_reckon x0 x3 h (fun (h22 : xb_H) => xb_ext h h22 → w_M_perform_L79 Qr x0 x1 h22)))


def w_M_checkModule_L409 (Qr : xb_H → Prop) (h : xb_H) : Prop :=
    Qr h

def w_M_checkModule_L379 (Qr : xb_H → Prop) : Nat → Nat → Int32 → Int32 → xb_H → Prop
  | 0, _, _, _, _ => False
  | n9 + 1, x0, x1, x2, h =>
    xb_k h x0 = 9 ∧ w_M_manyOf x0 x1 10 h (fun (r3 : Int32) (h2 : xb_H) => xb_ext h h2 → ((r3 ≤ x2 → w_M_checkModule_L409 Qr h2) ∧ (¬ r3 ≤ x2 → ((¬ (xb_i h2 x0 17) = (0 : Int32) → w_M_checkModule_L409 Qr h2) ∧ ((xb_i h2 x0 17) = (0 : Int32) → w_M_checkBody x0 x1 x2 h2 (fun (h6 : xb_H) => xb_ext h2 h6 → w_M_checkModule_L379 Qr n9 x0 x1 (x2 + 1) h6))))))

def w_M_checkModule_L377 (Qr : xb_H → Prop) (x0 : Nat) (x1 : Int32) (h : xb_H) : Prop :=
    (∃ n8 : Nat, w_M_checkModule_L379 Qr n8 x0 x1 0 h)

def w_M_checkModule_L365 (Qr : xb_H → Prop) (x0 : Nat) (x1 : Int32) (h : xb_H) : Prop :=
    xb_k h x0 = 9 ∧ ((¬ (xb_i h x0 17) = (0 : Int32) → w_M_checkModule_L377 Qr x0 x1 h) ∧ ((xb_i h x0 17) = (0 : Int32) → w_M_checkRows x0 x1 h (fun (h3 : xb_H) => xb_ext h h3 → w_M_checkModule_L377 Qr x0 x1 h3)))

def w_M_checkModule_L353 (Qr : xb_H → Prop) (x0 : Nat) (x1 : Int32) (h : xb_H) : Prop :=
    xb_k h x0 = 9 ∧ ((¬ (xb_i h x0 17) = (0 : Int32) → w_M_checkModule_L365 Qr x0 x1 h) ∧ ((xb_i h x0 17) = (0 : Int32) → w_M_checkStart x0 x1 h (fun (h3 : xb_H) => xb_ext h h3 → w_M_checkModule_L365 Qr x0 x1 h3)))

def w_M_checkModule_L341 (Qr : xb_H → Prop) (x0 : Nat) (x1 : Int32) (h : xb_H) : Prop :=
    xb_k h x0 = 9 ∧ ((¬ (xb_i h x0 17) = (0 : Int32) → w_M_checkModule_L353 Qr x0 x1 h) ∧ ((xb_i h x0 17) = (0 : Int32) → w_M_checkExports x0 x1 h (fun (h3 : xb_H) => xb_ext h h3 → w_M_checkModule_L353 Qr x0 x1 h3)))

def w_M_checkModule_L283 (Qr : xb_H → Prop) : Nat → Nat → Int32 → Int32 → xb_H → Prop
  | 0, _, _, _, _ => False
  | n9 + 1, x0, x1, x2, h =>
    xb_k h x0 = 9 ∧ w_M_manyOf x0 x1 6 h (fun (r3 : Int32) (h2 : xb_H) => xb_ext h h2 → ((r3 ≤ x2 → w_M_checkModule_L341 Qr x0 x1 h2) ∧ (¬ r3 ≤ x2 → ((¬ (xb_i h2 x0 17) = (0 : Int32) → w_M_checkModule_L341 Qr x0 x1 h2) ∧ ((xb_i h2 x0 17) = (0 : Int32) → w_M_placeOf x0 x1 6 x2 h2 (fun (r7 : Int32) (h6 : xb_H) => xb_ext h2 h6 → w_M_go x0 x1 r7 h6 (fun (h8 : xb_H) => xb_ext h6 h8 → w_M_next x0 h8 (fun (r11 : Int32) (h10 : xb_H) => xb_ext h8 h10 → ∀ h12 : xb_H, h12 = xb_I h10 x0 15 ((xb_i h10 x0 15) + 1) → w_M_checkConstant x0 x1 r11 h12 (fun (h13 : xb_H) => xb_ext h12 h13 → w_M_checkModule_L283 Qr n9 x0 x1 (x2 + 1) h13)))))))))

def w_M_checkModule_L281 (Qr : xb_H → Prop) (x0 : Nat) (x1 : Int32) (h : xb_H) : Prop :=
    (∃ n8 : Nat, w_M_checkModule_L283 Qr n8 x0 x1 0 h)

def w_M_checkModule_L272 (K214 : Nat → Int32 → Int32 → xb_H → Prop) (Qr : xb_H → Prop) (x0 : Nat) (x1 : Int32) (x2 : Int32) (y0 : Int32) (y1 : Int32) (y2 : Int32) (y3 : Nat) (h : xb_H) : Prop :=
    xb_k h y3 = 9 ∧ w_M_limitsFault y3 y2 y1 y0 h (fun (h2 : xb_H) => xb_ext h h2 → K214 x0 x1 (x2 + 1) h2)

def w_M_checkModule_L214 (Qr : xb_H → Prop) : Nat → Nat → Int32 → Int32 → xb_H → Prop
  | 0, _, _, _, _ => False
  | n9 + 1, x0, x1, x2, h =>
    xb_k h x0 = 9 ∧ w_M_manyOf x0 x1 5 h (fun (r3 : Int32) (h2 : xb_H) => xb_ext h h2 → ((r3 ≤ x2 → w_M_checkModule_L281 Qr x0 x1 h2) ∧ (¬ r3 ≤ x2 → ((¬ (xb_i h2 x0 17) = (0 : Int32) → w_M_checkModule_L281 Qr x0 x1 h2) ∧ ((xb_i h2 x0 17) = (0 : Int32) → w_M_placeOf x0 x1 5 x2 h2 (fun (r7 : Int32) (h6 : xb_H) => xb_ext h2 h6 → w_M_go x0 x1 r7 h6 (fun (h8 : xb_H) => xb_ext h6 h8 → w_M_placeOf x0 x1 5 x2 h8 (fun (r11 : Int32) (h10 : xb_H) => xb_ext h8 h10 → ∃ b12 : Nat, (xb_r h10 x0 10) = some b12 ∧ xb_k h10 b12 = 102 ∧ vp_in ((4 * x1) + 2) (xb_n h10 b12) ∧ ((((xb_i h10 b12 (Int32.toNatClampNeg ((4 * x1) + 2))) + x2) ≤ (0 : Int32) → w_M_checkModule_L272 (w_M_checkModule_L214 Qr n9) Qr x0 x1 x2 0 r11 1 x0 h10) ∧ (¬ ((xb_i h10 b12 (Int32.toNatClampNeg ((4 * x1) + 2))) + x2) ≤ (0 : Int32) → w_M_checkModule_L272 (w_M_checkModule_L214 Qr n9) Qr x0 x1 x2 1 r11 1 x0 h10))))))))))

def w_M_checkModule_L212 (Qr : xb_H → Prop) (x0 : Nat) (x1 : Int32) (h : xb_H) : Prop :=
    (∃ n8 : Nat, w_M_checkModule_L214 Qr n8 x0 x1 0 h)

def w_M_checkModule_L203 (K143 : Nat → Int32 → Int32 → xb_H → Prop) (Qr : xb_H → Prop) (x0 : Nat) (x1 : Int32) (x2 : Int32) (y0 : Int32) (y1 : Int32) (y2 : Int32) (y3 : Nat) (h : xb_H) : Prop :=
    xb_k h y3 = 9 ∧ w_M_limitsFault y3 y2 y1 y0 h (fun (h2 : xb_H) => xb_ext h h2 → K143 x0 x1 (x2 + 1) h2)

def w_M_checkModule_L143 (Qr : xb_H → Prop) : Nat → Nat → Int32 → Int32 → xb_H → Prop
  | 0, _, _, _, _ => False
  | n9 + 1, x0, x1, x2, h =>
    xb_k h x0 = 9 ∧ w_M_manyOf x0 x1 4 h (fun (r3 : Int32) (h2 : xb_H) => xb_ext h h2 → ((r3 ≤ x2 → w_M_checkModule_L212 Qr x0 x1 h2) ∧ (¬ r3 ≤ x2 → ((¬ (xb_i h2 x0 17) = (0 : Int32) → w_M_checkModule_L212 Qr x0 x1 h2) ∧ ((xb_i h2 x0 17) = (0 : Int32) → w_M_placeOf x0 x1 4 x2 h2 (fun (r7 : Int32) (h6 : xb_H) => xb_ext h2 h6 → w_M_go x0 x1 (r7 + 1) h6 (fun (h8 : xb_H) => xb_ext h6 h8 → w_M_placeOf x0 x1 4 x2 h8 (fun (r11 : Int32) (h10 : xb_H) => xb_ext h8 h10 → ∃ b12 : Nat, (xb_r h10 x0 10) = some b12 ∧ xb_k h10 b12 = 102 ∧ vp_in ((4 * x1) + 1) (xb_n h10 b12) ∧ ((((xb_i h10 b12 (Int32.toNatClampNeg ((4 * x1) + 1))) + x2) ≤ (0 : Int32) → w_M_checkModule_L203 (w_M_checkModule_L143 Qr n9) Qr x0 x1 x2 0 r11 0 x0 h10) ∧ (¬ ((xb_i h10 b12 (Int32.toNatClampNeg ((4 * x1) + 1))) + x2) ≤ (0 : Int32) → w_M_checkModule_L203 (w_M_checkModule_L143 Qr n9) Qr x0 x1 x2 1 r11 0 x0 h10))))))))))

def w_M_checkModule_L141 (Qr : xb_H → Prop) (x0 : Nat) (x1 : Int32) (h : xb_H) : Prop :=
    (∃ n8 : Nat, w_M_checkModule_L143 Qr n8 x0 x1 0 h)

def w_M_checkModule_L135 (K78 : Nat → Int32 → Int32 → xb_H → Prop) (Qr : xb_H → Prop) (x0 : Nat) (x1 : Int32) (x2 : Int32) (h : xb_H) : Prop :=
    K78 x0 x1 (x2 + 1) h

def w_M_checkModule_L78 (Qr : xb_H → Prop) : Nat → Nat → Int32 → Int32 → xb_H → Prop
  | 0, _, _, _, _ => False
  | n9 + 1, x0, x1, x2, h =>
    xb_k h x0 = 9 ∧ w_M_manyOf x0 x1 3 h (fun (r3 : Int32) (h2 : xb_H) => xb_ext h h2 → ((r3 ≤ x2 → w_M_checkModule_L141 Qr x0 x1 h2) ∧ (¬ r3 ≤ x2 → ((¬ (xb_i h2 x0 17) = (0 : Int32) → w_M_checkModule_L141 Qr x0 x1 h2) ∧ ((xb_i h2 x0 17) = (0 : Int32) → w_M_placeOf x0 x1 3 x2 h2 (fun (r7 : Int32) (h6 : xb_H) => xb_ext h2 h6 → w_M_go x0 x1 r7 h6 (fun (h8 : xb_H) => xb_ext h6 h8 → w_M_count x0 h8 (fun (r11 : Int64) (h10 : xb_H) => xb_ext h8 h10 → w_M_manyOf x0 x1 1 h10 (fun (r13 : Int32) (h12 : xb_H) => xb_ext h10 h12 → ((r11 < (Int32.toInt64 r13) → w_M_checkModule_L135 (w_M_checkModule_L78 Qr n9) Qr x0 x1 x2 h12) ∧ (¬ r11 < (Int32.toInt64 r13) → w_M_placeOf x0 x1 3 x2 h12 (fun (r16 : Int32) (h15 : xb_H) => xb_ext h12 h15 → w_M_fail x0 20 r16 h15 (fun (h17 : xb_H) => xb_ext h15 h17 → w_M_checkModule_L135 (w_M_checkModule_L78 Qr n9) Qr x0 x1 x2 h17)))))))))))))

def w_M_checkModule_L76 (Qr : xb_H → Prop) (x0 : Nat) (x1 : Int32) (h : xb_H) : Prop :=
    (∃ n8 : Nat, w_M_checkModule_L78 Qr n8 x0 x1 0 h)

def w_M_checkModule_L64 (Qr : xb_H → Prop) (x0 : Nat) (x1 : Int32) (h : xb_H) : Prop :=
    xb_k h x0 = 9 ∧ ((¬ (xb_i h x0 17) = (0 : Int32) → w_M_checkModule_L76 Qr x0 x1 h) ∧ ((xb_i h x0 17) = (0 : Int32) → w_M_checkImports x0 x1 h (fun (h3 : xb_H) => xb_ext h h3 → w_M_checkModule_L76 Qr x0 x1 h3)))

def w_M_checkModule_L58 (K2 : Nat → Int32 → Int32 → xb_H → Prop) (Qr : xb_H → Prop) (x0 : Nat) (x1 : Int32) (x2 : Int32) (h : xb_H) : Prop :=
    K2 x0 x1 (x2 + 1) h

def w_M_checkModule_L2 (Qr : xb_H → Prop) : Nat → Nat → Int32 → Int32 → xb_H → Prop
  | 0, _, _, _, _ => False
  | n9 + 1, x0, x1, x2, h =>
    xb_k h x0 = 9 ∧ w_M_manyOf x0 x1 1 h (fun (r3 : Int32) (h2 : xb_H) => xb_ext h h2 → ((r3 ≤ x2 → w_M_checkModule_L64 Qr x0 x1 h2) ∧ (¬ r3 ≤ x2 → ((¬ (xb_i h2 x0 17) = (0 : Int32) → w_M_checkModule_L64 Qr x0 x1 h2) ∧ ((xb_i h2 x0 17) = (0 : Int32) → w_M_parameters x0 x1 x2 h2 (fun (r7 : Int32) (h6 : xb_H) => xb_ext h2 h6 → ∀ h8 : xb_H, h8 = xb_I h6 x0 15 ((xb_i h6 x0 15) + r7) → w_M_count x0 h8 (fun (r10 : Int64) (h9 : xb_H) => xb_ext h8 h9 → ((r10 ≤ (1 : Int64) → w_M_checkModule_L58 (w_M_checkModule_L2 Qr n9) Qr x0 x1 x2 h9) ∧ (¬ r10 ≤ (1 : Int64) → w_M_placeOf x0 x1 1 x2 h9 (fun (r13 : Int32) (h12 : xb_H) => xb_ext h9 h12 → w_M_fail x0 28 r13 h12 (fun (h14 : xb_H) => xb_ext h12 h14 → w_M_checkModule_L58 (w_M_checkModule_L2 Qr n9) Qr x0 x1 x2 h14)))))))))))

def w_M_checkModule (x0 : Nat) (x1 : Int32) (h : xb_H) (Qr : xb_H → Prop) : Prop :=
    (∃ n8 : Nat, w_M_checkModule_L2 Qr n8 x0 x1 0 h)


def w_M_run_L313 (Qr : Int32 → xb_H → Prop) (y0 : Int64) (y1 : Nat) (h : xb_H) : Prop :=
    xb_k h y1 = 9 ∧ ∀ h2 : xb_H, h2 = xb_L h y1 85 y0 → Qr 0 h2

def w_M_run_L276 (Qr : Int32 → xb_H → Prop) (x0 : Nat) (h : xb_H) : Prop :=
    xb_k h x0 = 9 ∧ ∀ h2 : xb_H, h2 = xb_I h x0 62 0 → (((xb_i h2 x0 82) ≤ (0 : Int32) → (((xb_i h2 x0 76) ≤ (0 : Int32) → w_M_run_L313 Qr 0 x0 h2) ∧ (¬ (xb_i h2 x0 76) ≤ (0 : Int32) → ∃ b5 : Nat, (xb_r h2 x0 74) = some b5 ∧ xb_k h2 b5 = 103 ∧ vp_in 0 (xb_n h2 b5) ∧ w_M_run_L313 Qr (xb_l h2 b5 0) x0 h2))) ∧ (¬ (xb_i h2 x0 82) ≤ (0 : Int32) → ∀ h8 : xb_H, h8 = xb_I h2 x0 68 0 → Qr 1 h8))

def w_M_run_L259 (K125 : Nat → xb_H → Prop) (Qr : Int32 → xb_H → Prop) (x0 : Nat) (x4 : Int32) (y0 : Int32) (y1 : Nat) (h : xb_H) : Prop :=
    xb_k h y1 = 9 ∧ ∀ h2 : xb_H, h2 = xb_I h y1 84 y0 → xb_k h2 x0 = 9 ∧ ∀ h4 : xb_H, h4 = xb_I h2 x0 94 0 → w_M_noteTrap x0 x4 h4 (fun (h5 : xb_H) => xb_ext h4 h5 → K125 x0 h5)

def w_M_run_L201 (K125 : Nat → xb_H → Prop) (Qr : Int32 → xb_H → Prop) (x0 : Nat) (x2 : Int32) (x3 : Int32) (x4 : Int32) (x5 : Int32) (h : xb_H) : Prop :=
    xb_k h x0 = 9 ∧ ∀ h2 : xb_H, h2 = xb_I h x0 94 0 → ∃ b3 : Nat, (xb_r h2 x0 31) = some b3 ∧ ∃ b4 : Nat, (xb_r h2 x0 44) = some b4 ∧ xb_k h2 b4 = 102 ∧ vp_in x3 (xb_n h2 b4) ∧ xb_k h2 b3 = 102 ∧ vp_in (xb_i h2 b4 (Int32.toNatClampNeg x3)) (xb_n h2 b3) ∧ w_M_go x0 (xb_i h2 b3 (Int32.toNatClampNeg (xb_i h2 b4 (Int32.toNatClampNeg x3)))) (x4 + 1) h2 (fun (h9 : xb_H) => xb_ext h2 h9 → ∃ b11 : Nat, (xb_r h9 x0 44) = some b11 ∧ xb_k h9 b11 = 102 ∧ vp_in x3 (xb_n h9 b11) ∧ w_M_perform x0 x2 (xb_i h9 b11 (Int32.toNatClampNeg x3)) x5 h9 (fun (h14 : xb_H) => xb_ext h9 h14 → (((xb_i h14 x0 94) = (0 : Int32) → w_M_run_L259 K125 Qr x0 x4 (xb_i h14 x0 84) x0 h14) ∧ (¬ (xb_i h14 x0 94) = (0 : Int32) → w_M_run_L259 K125 Qr x0 x4 ((xb_i h14 x0 84) + 1) x0 h14))))

def w_M_run_L125 (Qr : Int32 → xb_H → Prop) : Nat → Nat → xb_H → Prop
  | 0, _, _ => False
  | n9 + 1, x0, h =>
    xb_k h x0 = 9 ∧ (((xb_i h x0 68) ≤ (0 : Int32) → w_M_run_L276 Qr x0 h) ∧ (¬ (xb_i h x0 68) ≤ (0 : Int32) → ((¬ (xb_i h x0 82) = (0 : Int32) → w_M_run_L276 Qr x0 h) ∧ ((xb_i h x0 82) = (0 : Int32) → ∀ v4 : Int32, v4 = ((xb_i h x0 68) - 1) → ∃ b5 : Nat, (xb_r h x0 69) = some b5 ∧ xb_k h b5 = 102 ∧ vp_in v4 (xb_n h b5) ∧ ∀ v8 : Int32, v8 = (xb_i h b5 (Int32.toNatClampNeg v4)) → ∃ b9 : Nat, (xb_r h x0 70) = some b9 ∧ xb_k h b9 = 102 ∧ vp_in v4 (xb_n h b9) ∧ ∀ v12 : Int32, v12 = (xb_i h b9 (Int32.toNatClampNeg v4)) → ∃ b13 : Nat, (xb_r h x0 3) = some b13 ∧ xb_k h b13 = 100 ∧ vp_in v12 (xb_n h b13) ∧ ∀ v16 : Int32, v16 = ((xb_i h b13 (Int32.toNatClampNeg v12)) &&& 255) → w_M_isStep v16 h (fun (r18 : Int32) (h17 : xb_H) => xb_ext h h17 → ((r18 = (0 : Int32) → w_M_run_L201 (w_M_run_L125 Qr n9) Qr x0 v4 v8 v12 v16 h17) ∧ (¬ r18 = (0 : Int32) → ((¬ (xb_i h17 x0 95) = (0 : Int32) → ∀ h21 : xb_H, h21 = xb_I h17 x0 95 ((xb_i h17 x0 95) - 1) → w_M_run_L201 (w_M_run_L125 Qr n9) Qr x0 v4 v8 v12 v16 h21) ∧ ((xb_i h17 x0 95) = (0 : Int32) → Qr 2 h17)))))))))

def w_M_run_L79 (Qr : Int32 → xb_H → Prop) : Nat → Nat → Int32 → xb_H → Prop
  | 0, _, _, _ => False
  | n9 + 1, x0, x2, h =>
    xb_k h x0 = 9 ∧ (((xb_i h x0 93) ≤ x2 → w_M_call x0 (xb_i h x0 64) h (fun (h3 : xb_H) => xb_ext h h3 → w_M_noteTrap x0 (-1) h3 (fun (h5 : xb_H) => xb_ext h3 h5 → (∃ n8 : Nat, w_M_run_L125 Qr n8 x0 h5)))) ∧ (¬ (xb_i h x0 93) ≤ x2 → ∃ b7 : Nat, (xb_r h x0 67) = some b7 ∧ xb_k h b7 = 103 ∧ vp_in x2 (xb_n h b7) ∧ w_M_parameterOf x0 (xb_i h x0 64) x2 h (fun (r11 : Int32) (h10 : xb_H) => xb_ext h h10 → w_M_add x0 (xb_l h b7 (Int32.toNatClampNeg x2)) r11 h10 (fun (h12 : xb_H) => xb_ext h10 h12 → w_M_run_L79 Qr n9 x0 (x2 + 1) h12))))

def w_M_run_L28 (Qr : Int32 → xb_H → Prop) (x0 : Nat) (x1 : Int32) (y0 : Int32) (y1 : Nat) (h : xb_H) : Prop :=
    xb_k h y1 = 9 ∧ ∀ h2 : xb_H, h2 = xb_I h y1 0 y0 → xb_k h2 x0 = 9 ∧ (((xb_i h2 x0 0) ≤ (0 : Int32) → ∀ h5 : xb_H, h5 = xb_I h2 x0 95 x1 → ((¬ (xb_i h5 x0 63) = (0 : Int32) → (∃ n8 : Nat, w_M_run_L125 Qr n8 x0 h5)) ∧ ((xb_i h5 x0 63) = (0 : Int32) → ∀ h7 : xb_H, h7 = xb_I h5 x0 63 1 → ∀ h8 : xb_H, h8 = xb_I h7 x0 82 0 → ∀ h9 : xb_H, h9 = xb_I h8 x0 76 0 → ∀ h10 : xb_H, h10 = xb_I h9 x0 81 0 → ∀ h11 : xb_H, h11 = xb_I h10 x0 68 0 → (∃ n8 : Nat, w_M_run_L79 Qr n8 x0 0 h11)))) ∧ (¬ (xb_i h2 x0 0) ≤ (0 : Int32) → Qr 0 h2))

def w_M_run_L12 (Qr : Int32 → xb_H → Prop) (x0 : Nat) (x1 : Int32) (y0 : Nat) (h : xb_H) : Prop :=
    w_M_run_L28 Qr x0 x1 1 y0 h

def w_M_run (x0 : Nat) (x1 : Int32) (h : xb_H) (Qr : Int32 → xb_H → Prop) : Prop :=
    ((x1 < (0 : Int32) → w_M_run_L12 Qr x0 x1 x0 h) ∧ (¬ x1 < (0 : Int32) → ((x1 ≤ (1000000 : Int32) → xb_k h x0 = 9 ∧ ((¬ (xb_i h x0 62) = (0 : Int32) → w_M_run_L28 Qr x0 x1 0 x0 h) ∧ ((xb_i h x0 62) = (0 : Int32) → w_M_run_L28 Qr x0 x1 2 x0 h))) ∧ (¬ x1 ≤ (1000000 : Int32) → w_M_run_L12 Qr x0 x1 x0 h))))


def w_M_load_L239 (Qr : Int32 → xb_H → Nat → Nat → Prop) (x0 : Nat) (x1 : Int32) (x2 : Int32) (y0 : Int32) (h : xb_H) (bc : Nat) (bs : Nat) : Prop :=
    xb_k h x0 = 9 ∧ ∀ h2 : xb_H, h2 = xb_I h x0 17 0 → ((¬ y0 = (0 : Int32) → ∀ h4 : xb_H, h4 = xb_I h2 x0 5 ((xb_i h2 x0 5) + 1) → Qr ((xb_i h4 x0 5) - 1) h4 bc bs) ∧ (y0 = (0 : Int32) → ∀ h5 : xb_H, h5 = xb_I h2 x0 4 x1 → ∀ h6 : xb_H, h6 = xb_I h5 x0 13 x2 → Qr (-1) h6 bc bs))

def w_M_load_L226 (Qr : Int32 → xb_H → Nat → Nat → Prop) (x0 : Nat) (x1 : Int32) (x2 : Int32) (y0 : Int32) (y1 : Int32) (y2 : Nat) (h : xb_H) (bc : Nat) (bs : Nat) : Prop :=
    xb_k h y2 = 102 ∧ vp_in y1 (xb_n h y2) ∧ ∀ h3 : xb_H, h3 = xb_I h y2 (Int32.toNatClampNeg y1) y0 → xb_k h3 x0 = 9 ∧ ((¬ (xb_i h3 x0 17) = (0 : Int32) → w_M_load_L239 Qr x0 x1 x2 0 h3 bc bs) ∧ ((xb_i h3 x0 17) = (0 : Int32) → w_M_load_L239 Qr x0 x1 x2 1 h3 bc bs))

def w_M_load_L196 (Qr : Int32 → xb_H → Nat → Nat → Prop) (x0 : Nat) (x1 : Int32) (x2 : Int32) (h : xb_H) (bc : Nat) (bs : Nat) : Prop :=
    xb_k h x0 = 9 ∧ ∃ b2 : Nat, (xb_r h x0 89) = some b2 ∧ xb_k h b2 = 102 ∧ vp_in 0 (xb_n h b2) ∧ ∀ h5 : xb_H, h5 = xb_I h b2 (Int32.toNatClampNeg 0) (xb_i h x0 17) → ∃ b6 : Nat, (xb_r h5 x0 89) = some b6 ∧ ((¬ (xb_i h5 x0 17) = (0 : Int32) → w_M_load_L226 Qr x0 x1 x2 (xb_i h5 x0 18) 1 b6 h5 bc bs) ∧ ((xb_i h5 x0 17) = (0 : Int32) → w_M_load_L226 Qr x0 x1 x2 0 1 b6 h5 bc bs))

def w_M_load_L124 (Qr : Int32 → xb_H → Nat → Nat → Prop) : Nat → Nat → Int32 → Int32 → Int32 → Int32 → xb_H → Nat → Nat → Prop
  | 0, _, _, _, _, _, _, _, _ => False
  | n9 + 1, x0, x1, x2, x3, x4, h, bc, bs =>
    (((4 : Int32) ≤ x4 → xb_k h x0 = 9 ∧ ∀ h3 : xb_H, h3 = xb_I h x0 17 0 → ∀ h4 : xb_H, h4 = xb_I h3 x0 18 0 → w_M_readModule x0 ((xb_i h4 x0 14) + x3) h4 bc bs (fun (h5 : xb_H) (bc6 bs6 : Nat) => xb_ext h4 h5 → ((¬ (xb_i h5 x0 17) = (0 : Int32) → w_M_load_L196 Qr x0 x1 x2 h5 bc6 bs6) ∧ ((xb_i h5 x0 17) = (0 : Int32) → ∀ h8 : xb_H, h8 = xb_I h5 x0 16 ((xb_i h5 x0 14) + x3) → w_M_checkModule x0 (xb_i h8 x0 5) h8 (fun (h9 : xb_H) => xb_ext h8 h9 → w_M_load_L196 Qr x0 x1 x2 h9 bc6 bs6))))) ∧ (¬ (4 : Int32) ≤ x4 → xb_k h x0 = 9 ∧ ∃ b12 : Nat, (xb_r h x0 10) = some b12 ∧ xb_k h b12 = 102 ∧ vp_in ((4 * (xb_i h x0 5)) + x4) (xb_n h b12) ∧ ∀ h15 : xb_H, h15 = xb_I h b12 (Int32.toNatClampNeg ((4 * (xb_i h x0 5)) + x4)) 0 → w_M_load_L124 Qr n9 x0 x1 x2 x3 (x4 + 1) h15 bc bs))

def w_M_load_L76 (Qr : Int32 → xb_H → Nat → Nat → Prop) : Nat → Nat → Int32 → Int32 → Int32 → Int32 → xb_H → Nat → Nat → Prop
  | 0, _, _, _, _, _, _, _, _ => False
  | n9 + 1, x0, x1, x2, x3, x4, h, bc, bs =>
    (((12 : Int32) ≤ x4 → (∃ n8 : Nat, w_M_load_L124 Qr n8 x0 x1 x2 x3 0 h bc bs)) ∧ (¬ (12 : Int32) ≤ x4 → xb_k h x0 = 9 ∧ ∃ b3 : Nat, (xb_r h x0 9) = some b3 ∧ xb_k h b3 = 102 ∧ vp_in ((12 * (xb_i h x0 5)) + x4) (xb_n h b3) ∧ ∀ h6 : xb_H, h6 = xb_I h b3 (Int32.toNatClampNeg ((12 * (xb_i h x0 5)) + x4)) 0 → ∃ b7 : Nat, (xb_r h6 x0 8) = some b7 ∧ xb_k h6 b7 = 102 ∧ vp_in ((12 * (xb_i h6 x0 5)) + x4) (xb_n h6 b7) ∧ ∀ h10 : xb_H, h10 = xb_I h6 b7 (Int32.toNatClampNeg ((12 * (xb_i h6 x0 5)) + x4)) 0 → w_M_load_L76 Qr n9 x0 x1 x2 x3 (x4 + 1) h10 bc bs))

def w_M_load_L15 (Qr : Int32 → xb_H → Nat → Nat → Prop) (x0 : Nat) (y0 : Int32) (y1 : Nat) (h : xb_H) (bc : Nat) (bs : Nat) : Prop :=
    xb_k h y1 = 9 ∧ ∀ h2 : xb_H, h2 = xb_I h y1 0 y0 → xb_k h2 x0 = 9 ∧ (((xb_i h2 x0 0) ≤ (0 : Int32) → ∀ v5 : Int32, v5 = (xb_i h2 x0 4) → ∀ v6 : Int32, v6 = (xb_i h2 x0 13) → ∀ v7 : Int32, v7 = (xb_i h2 x0 2) → w_M_keepTape x0 h2 bc bs (fun (r9 : Int32) (h8 : xb_H) (bc9 bs9 : Nat) => xb_ext h2 h8 → ∀ h10 : xb_H, h10 = xb_I h8 x0 14 r9 → ∃ b11 : Nat, (xb_r h10 x0 6) = some b11 ∧ xb_k h10 b11 = 102 ∧ vp_in (xb_i h10 x0 5) (xb_n h10 b11) ∧ ∀ h14 : xb_H, h14 = xb_I h10 b11 (Int32.toNatClampNeg (xb_i h10 x0 5)) (xb_i h10 x0 14) → ∃ b15 : Nat, (xb_r h14 x0 7) = some b15 ∧ xb_k h14 b15 = 102 ∧ vp_in (xb_i h14 x0 5) (xb_n h14 b15) ∧ ∀ h18 : xb_H, h18 = xb_I h14 b15 (Int32.toNatClampNeg (xb_i h14 x0 5)) v7 → (∃ n8 : Nat, w_M_load_L76 Qr n8 x0 v5 v6 v7 0 h18 bc9 bs9))) ∧ (¬ (xb_i h2 x0 0) ≤ (0 : Int32) → Qr 0 h2 bc bs))

def w_M_load (x0 : Nat) (h : xb_H) (bc : Nat) (bs : Nat) (Qr : Int32 → xb_H → Nat → Nat → Prop) : Prop :=
    xb_k h x0 = 9 ∧ ((¬ (xb_i h x0 5) = (64 : Int32) → w_M_load_L15 Qr x0 0 x0 h bc bs) ∧ ((xb_i h x0 5) = (64 : Int32) → w_M_load_L15 Qr x0 1 x0 h bc bs))


def w_Law_law_L1465 (σ : Nat) (K23 : Nat → Nat → Nat → Nat → Int32 → xb_H → Nat → Nat → Prop) (Qr : Int32 → xb_H → Nat → Nat → Prop) (x0 : Nat) (x1 : Nat) (x2 : Nat) (x3 : Nat) (x4 : Int32) (h : xb_H) (bc : Nat) (bs : Nat) : Prop :=
    K23 x0 x1 x2 x3 (x4 + 6) h bc bs

def w_Law_law_L1449 (σ : Nat) (K23 : Nat → Nat → Nat → Nat → Int32 → xb_H → Nat → Nat → Prop) (Qr : Int32 → xb_H → Nat → Nat → Prop) (x0 : Nat) (x1 : Nat) (x2 : Nat) (x3 : Nat) (x4 : Int32) (h : xb_H) (bc : Nat) (bs : Nat) : Prop :=
    w_Law_law_L1465 σ K23 Qr x0 x1 x2 x3 x4 h bc bs

def w_Law_law_L1368 (σ : Nat) (K23 : Nat → Nat → Nat → Nat → Int32 → xb_H → Nat → Nat → Prop) (Qr : Int32 → xb_H → Nat → Nat → Prop) (x0 : Nat) (x1 : Nat) (x2 : Nat) (x3 : Nat) (x4 : Int32) (h : xb_H) (bc : Nat) (bs : Nat) : Prop :=
    w_Law_law_L1465 σ K23 Qr x0 x1 x2 x3 x4 h bc bs

def w_Law_law_L1300 (σ : Nat) (K23 : Nat → Nat → Nat → Nat → Int32 → xb_H → Nat → Nat → Prop) (Qr : Int32 → xb_H → Nat → Nat → Prop) (x0 : Nat) (x1 : Nat) (x2 : Nat) (x3 : Nat) (x4 : Int32) (h : xb_H) (bc : Nat) (bs : Nat) : Prop :=
    w_Law_law_L1465 σ K23 Qr x0 x1 x2 x3 x4 h bc bs

def w_Law_law_L1173 (σ : Nat) (K23 : Nat → Nat → Nat → Nat → Int32 → xb_H → Nat → Nat → Prop) (Qr : Int32 → xb_H → Nat → Nat → Prop) (x0 : Nat) (x1 : Nat) (x2 : Nat) (x3 : Nat) (x4 : Int32) (h : xb_H) (bc : Nat) (bs : Nat) : Prop :=
    w_Law_law_L1465 σ K23 Qr x0 x1 x2 x3 x4 h bc bs

def w_Law_law_L1105 (σ : Nat) (K23 : Nat → Nat → Nat → Nat → Int32 → xb_H → Nat → Nat → Prop) (Qr : Int32 → xb_H → Nat → Nat → Prop) (x0 : Nat) (x1 : Nat) (x2 : Nat) (x3 : Nat) (x4 : Int32) (h : xb_H) (bc : Nat) (bs : Nat) : Prop :=
    w_Law_law_L1465 σ K23 Qr x0 x1 x2 x3 x4 h bc bs

def w_Law_law_L1049 (σ : Nat) (K23 : Nat → Nat → Nat → Nat → Int32 → xb_H → Nat → Nat → Prop) (Qr : Int32 → xb_H → Nat → Nat → Prop) (x0 : Nat) (x1 : Nat) (x2 : Nat) (x3 : Nat) (x4 : Int32) (h : xb_H) (bc : Nat) (bs : Nat) : Prop :=
    w_Law_law_L1465 σ K23 Qr x0 x1 x2 x3 x4 h bc bs

def w_Law_law_L953 (σ : Nat) (K23 : Nat → Nat → Nat → Nat → Int32 → xb_H → Nat → Nat → Prop) (Qr : Int32 → xb_H → Nat → Nat → Prop) (x0 : Nat) (x1 : Nat) (x2 : Nat) (x3 : Nat) (x4 : Int32) (h : xb_H) (bc : Nat) (bs : Nat) : Prop :=
    w_Law_law_L1465 σ K23 Qr x0 x1 x2 x3 x4 h bc bs

def w_Law_law_L849 (σ : Nat) (K23 : Nat → Nat → Nat → Nat → Int32 → xb_H → Nat → Nat → Prop) (Qr : Int32 → xb_H → Nat → Nat → Prop) (x0 : Nat) (x1 : Nat) (x2 : Nat) (x3 : Nat) (x4 : Int32) (h : xb_H) (bc : Nat) (bs : Nat) : Prop :=
    w_Law_law_L1465 σ K23 Qr x0 x1 x2 x3 x4 h bc bs

def w_Law_law_L761 (σ : Nat) (K23 : Nat → Nat → Nat → Nat → Int32 → xb_H → Nat → Nat → Prop) (Qr : Int32 → xb_H → Nat → Nat → Prop) (x0 : Nat) (x1 : Nat) (x2 : Nat) (x3 : Nat) (x4 : Int32) (h : xb_H) (bc : Nat) (bs : Nat) : Prop :=
    w_Law_law_L1465 σ K23 Qr x0 x1 x2 x3 x4 h bc bs

def w_Law_law_L681 (σ : Nat) (K23 : Nat → Nat → Nat → Nat → Int32 → xb_H → Nat → Nat → Prop) (Qr : Int32 → xb_H → Nat → Nat → Prop) (x0 : Nat) (x1 : Nat) (x2 : Nat) (x3 : Nat) (x4 : Int32) (h : xb_H) (bc : Nat) (bs : Nat) : Prop :=
    w_Law_law_L1465 σ K23 Qr x0 x1 x2 x3 x4 h bc bs

def w_Law_law_L589 (σ : Nat) (K23 : Nat → Nat → Nat → Nat → Int32 → xb_H → Nat → Nat → Prop) (Qr : Int32 → xb_H → Nat → Nat → Prop) (x0 : Nat) (x1 : Nat) (x2 : Nat) (x3 : Nat) (x4 : Int32) (h : xb_H) (bc : Nat) (bs : Nat) : Prop :=
    w_Law_law_L1465 σ K23 Qr x0 x1 x2 x3 x4 h bc bs

def w_Law_law_L533 (σ : Nat) (K23 : Nat → Nat → Nat → Nat → Int32 → xb_H → Nat → Nat → Prop) (Qr : Int32 → xb_H → Nat → Nat → Prop) (x0 : Nat) (x1 : Nat) (x2 : Nat) (x3 : Nat) (x4 : Int32) (h : xb_H) (bc : Nat) (bs : Nat) : Prop :=
    w_Law_law_L1465 σ K23 Qr x0 x1 x2 x3 x4 h bc bs

def w_Law_law_L465 (σ : Nat) (K23 : Nat → Nat → Nat → Nat → Int32 → xb_H → Nat → Nat → Prop) (Qr : Int32 → xb_H → Nat → Nat → Prop) (x0 : Nat) (x1 : Nat) (x2 : Nat) (x3 : Nat) (x4 : Int32) (h : xb_H) (bc : Nat) (bs : Nat) : Prop :=
    w_Law_law_L1465 σ K23 Qr x0 x1 x2 x3 x4 h bc bs

def w_Law_law_L397 (σ : Nat) (K23 : Nat → Nat → Nat → Nat → Int32 → xb_H → Nat → Nat → Prop) (Qr : Int32 → xb_H → Nat → Nat → Prop) (x0 : Nat) (x1 : Nat) (x2 : Nat) (x3 : Nat) (x4 : Int32) (h : xb_H) (bc : Nat) (bs : Nat) : Prop :=
    w_Law_law_L1465 σ K23 Qr x0 x1 x2 x3 x4 h bc bs

def w_Law_law_L341 (σ : Nat) (K23 : Nat → Nat → Nat → Nat → Int32 → xb_H → Nat → Nat → Prop) (Qr : Int32 → xb_H → Nat → Nat → Prop) (x0 : Nat) (x1 : Nat) (x2 : Nat) (x3 : Nat) (x4 : Int32) (h : xb_H) (bc : Nat) (bs : Nat) : Prop :=
    w_Law_law_L1465 σ K23 Qr x0 x1 x2 x3 x4 h bc bs

def w_Law_law_L261 (σ : Nat) (K23 : Nat → Nat → Nat → Nat → Int32 → xb_H → Nat → Nat → Prop) (Qr : Int32 → xb_H → Nat → Nat → Prop) (x0 : Nat) (x1 : Nat) (x2 : Nat) (x3 : Nat) (x4 : Int32) (h : xb_H) (bc : Nat) (bs : Nat) : Prop :=
    w_Law_law_L1465 σ K23 Qr x0 x1 x2 x3 x4 h bc bs

set_option maxRecDepth 100000 in
def w_Law_law_L23 (σ : Nat) (Qr : Int32 → xb_H → Nat → Nat → Prop) : Nat → Nat → Nat → Nat → Nat → Int32 → xb_H → Nat → Nat → Prop
  | 0, _, _, _, _, _, _, _, _ => False
  | n9 + 1, x0, x1, x2, x3, x4, h, bc, bs =>
    xb_k h x0 = 102 ∧ ((((nI (xb_n h x0)) - 6) < x4 → Qr 1 h bc bs) ∧ (¬ ((nI (xb_n h x0)) - 6) < x4 → vp_in x4 (xb_n h x0) ∧ ((((xb_i h x0 (Int32.toNatClampNeg x4)) &&& 31) = 0 → vp_in (x4 + 1) (xb_n h x0) ∧ vp_in (x4 + 2) (xb_n h x0) ∧ vp_in (x4 + 3) (xb_n h x0) ∧ vp_in (x4 + 4) (xb_n h x0) ∧ vp_in (x4 + 5) (xb_n h x0) ∧ w_Law_feed x1 (xb_i h x0 (Int32.toNatClampNeg (x4 + 1))) (xb_i h x0 (Int32.toNatClampNeg (x4 + 2))) (xb_i h x0 (Int32.toNatClampNeg (x4 + 3))) (xb_i h x0 (Int32.toNatClampNeg (x4 + 4))) (xb_i h x0 (Int32.toNatClampNeg (x4 + 5))) x3 h bc bs (fun (r11 : Int32) (h10 : xb_H) (bc11 bs11 : Nat) => xb_ext h h10 → vp_in (x4 + 1) (xb_n h10 x0) ∧ vp_in (x4 + 2) (xb_n h10 x0) ∧ vp_in (x4 + 3) (xb_n h10 x0) ∧ vp_in (x4 + 4) (xb_n h10 x0) ∧ vp_in (x4 + 5) (xb_n h10 x0) ∧ xb_k h10 x2 = 9 ∧ w_M_feed x2 (xb_i h10 x0 (Int32.toNatClampNeg (x4 + 1))) (xb_i h10 x0 (Int32.toNatClampNeg (x4 + 2))) (xb_i h10 x0 (Int32.toNatClampNeg (x4 + 3))) (xb_i h10 x0 (Int32.toNatClampNeg (x4 + 4))) (xb_i h10 x0 (Int32.toNatClampNeg (x4 + 5))) h10 (fun (r19 : Int32) (h18 : xb_H) => xb_ext h10 h18 → w_M_thrown x2 h18 (fun (r21 : Int32) (h20 : xb_H) => xb_ext h18 h20 → ((r21 = r11 → ((¬ r11 = (0 : Int32) → w_Law_law_L261 σ (w_Law_law_L23 σ Qr n9) Qr x0 x1 x2 x3 x4 h20 bc11 bs11) ∧ (r11 = (0 : Int32) → xb_k h20 x3 = 103 ∧ vp_in 0 (xb_n h20 x3) ∧ (((xb_l h20 x3 0) = (Int32.toInt64 r19) → w_Law_law_L261 σ (w_Law_law_L23 σ Qr n9) Qr x0 x1 x2 x3 x4 h20 bc11 bs11) ∧ (¬ (xb_l h20 x3 0) = (Int32.toInt64 r19) → Qr 0 h20 bc11 bs11))))) ∧ (¬ r21 = r11 → Qr 0 h20 bc11 bs11)))))) ∧ (((xb_i h x0 (Int32.toNatClampNeg x4)) &&& 31) = 1 → vp_in (x4 + 1) (xb_n h x0) ∧ w_Law_end x1 (xb_i h x0 (Int32.toNatClampNeg (x4 + 1))) h bc bs (fun (r30 : Int32) (h29 : xb_H) (bc30 bs30 : Nat) => xb_ext h h29 → vp_in (x4 + 1) (xb_n h29 x0) ∧ xb_k h29 x2 = 9 ∧ w_M_end x2 (xb_i h29 x0 (Int32.toNatClampNeg (x4 + 1))) h29 (fun (h33 : xb_H) => xb_ext h29 h33 → w_M_thrown x2 h33 (fun (r36 : Int32) (h35 : xb_H) => xb_ext h33 h35 → ((r36 = r30 → w_Law_law_L1465 σ (w_Law_law_L23 σ Qr n9) Qr x0 x1 x2 x3 x4 h35 bc30 bs30) ∧ (¬ r36 = r30 → Qr 0 h35 bc30 bs30)))))) ∧ (((xb_i h x0 (Int32.toNatClampNeg x4)) &&& 31) = 2 → w_Law_load x1 x3 h bc bs (fun (r40 : Int32) (h39 : xb_H) (bc40 bs40 : Nat) => xb_ext h h39 → xb_k h39 x2 = 9 ∧ w_M_load x2 h39 bc40 bs40 (fun (r43 : Int32) (h42 : xb_H) (bc43 bs43 : Nat) => xb_ext h39 h42 → w_M_thrown x2 h42 (fun (r45 : Int32) (h44 : xb_H) => xb_ext h42 h44 → ((r45 = r40 → ((¬ r40 = (0 : Int32) → w_Law_law_L341 σ (w_Law_law_L23 σ Qr n9) Qr x0 x1 x2 x3 x4 h44 bc43 bs43) ∧ (r40 = (0 : Int32) → xb_k h44 x3 = 103 ∧ vp_in 0 (xb_n h44 x3) ∧ (((xb_l h44 x3 0) = (Int32.toInt64 r43) → w_Law_law_L341 σ (w_Law_law_L23 σ Qr n9) Qr x0 x1 x2 x3 x4 h44 bc43 bs43) ∧ (¬ (xb_l h44 x3 0) = (Int32.toInt64 r43) → Qr 0 h44 bc43 bs43))))) ∧ (¬ r45 = r40 → Qr 0 h44 bc43 bs43)))))) ∧ (((xb_i h x0 (Int32.toNatClampNeg x4)) &&& 31) = 3 → vp_in (x4 + 1) (xb_n h x0) ∧ w_Law_fault x1 (xb_i h x0 (Int32.toNatClampNeg (x4 + 1))) x3 h bc bs (fun (r54 : Int32) (h53 : xb_H) (bc54 bs54 : Nat) => xb_ext h h53 → vp_in (x4 + 1) (xb_n h53 x0) ∧ xb_k h53 x2 = 9 ∧ w_M_fault x2 (xb_i h53 x0 (Int32.toNatClampNeg (x4 + 1))) h53 (fun (r58 : Int32) (h57 : xb_H) => xb_ext h53 h57 → w_M_thrown x2 h57 (fun (r60 : Int32) (h59 : xb_H) => xb_ext h57 h59 → ((r60 = r54 → ((¬ r54 = (0 : Int32) → w_Law_law_L397 σ (w_Law_law_L23 σ Qr n9) Qr x0 x1 x2 x3 x4 h59 bc54 bs54) ∧ (r54 = (0 : Int32) → xb_k h59 x3 = 103 ∧ vp_in 0 (xb_n h59 x3) ∧ (((xb_l h59 x3 0) = (Int32.toInt64 r58) → w_Law_law_L397 σ (w_Law_law_L23 σ Qr n9) Qr x0 x1 x2 x3 x4 h59 bc54 bs54) ∧ (¬ (xb_l h59 x3 0) = (Int32.toInt64 r58) → Qr 0 h59 bc54 bs54))))) ∧ (¬ r60 = r54 → Qr 0 h59 bc54 bs54)))))) ∧ (((xb_i h x0 (Int32.toNatClampNeg x4)) &&& 31) = 4 → vp_in (x4 + 1) (xb_n h x0) ∧ vp_in (x4 + 2) (xb_n h x0) ∧ w_Law_module x1 (xb_i h x0 (Int32.toNatClampNeg (x4 + 1))) (xb_i h x0 (Int32.toNatClampNeg (x4 + 2))) x3 h bc bs (fun (r70 : Int32) (h69 : xb_H) (bc70 bs70 : Nat) => xb_ext h h69 → vp_in (x4 + 1) (xb_n h69 x0) ∧ vp_in (x4 + 2) (xb_n h69 x0) ∧ xb_k h69 x2 = 9 ∧ w_M_module x2 (xb_i h69 x0 (Int32.toNatClampNeg (x4 + 1))) (xb_i h69 x0 (Int32.toNatClampNeg (x4 + 2))) h69 (fun (r75 : Int32) (h74 : xb_H) => xb_ext h69 h74 → w_M_thrown x2 h74 (fun (r77 : Int32) (h76 : xb_H) => xb_ext h74 h76 → ((r77 = r70 → ((¬ r70 = (0 : Int32) → w_Law_law_L465 σ (w_Law_law_L23 σ Qr n9) Qr x0 x1 x2 x3 x4 h76 bc70 bs70) ∧ (r70 = (0 : Int32) → xb_k h76 x3 = 103 ∧ vp_in 0 (xb_n h76 x3) ∧ (((xb_l h76 x3 0) = (Int32.toInt64 r75) → w_Law_law_L465 σ (w_Law_law_L23 σ Qr n9) Qr x0 x1 x2 x3 x4 h76 bc70 bs70) ∧ (¬ (xb_l h76 x3 0) = (Int32.toInt64 r75) → Qr 0 h76 bc70 bs70))))) ∧ (¬ r77 = r70 → Qr 0 h76 bc70 bs70)))))) ∧ (((xb_i h x0 (Int32.toNatClampNeg x4)) &&& 31) = 5 → vp_in (x4 + 1) (xb_n h x0) ∧ vp_in (x4 + 2) (xb_n h x0) ∧ w_Law_room x1 (xb_i h x0 (Int32.toNatClampNeg (x4 + 1))) (xb_i h x0 (Int32.toNatClampNeg (x4 + 2))) x3 h bc bs (fun (r87 : Int32) (h86 : xb_H) (bc87 bs87 : Nat) => xb_ext h h86 → vp_in (x4 + 1) (xb_n h86 x0) ∧ vp_in (x4 + 2) (xb_n h86 x0) ∧ xb_k h86 x2 = 9 ∧ w_M_room x2 (xb_i h86 x0 (Int32.toNatClampNeg (x4 + 1))) (xb_i h86 x0 (Int32.toNatClampNeg (x4 + 2))) h86 (fun (r92 : Int32) (h91 : xb_H) => xb_ext h86 h91 → w_M_thrown x2 h91 (fun (r94 : Int32) (h93 : xb_H) => xb_ext h91 h93 → ((r94 = r87 → ((¬ r87 = (0 : Int32) → w_Law_law_L533 σ (w_Law_law_L23 σ Qr n9) Qr x0 x1 x2 x3 x4 h93 bc87 bs87) ∧ (r87 = (0 : Int32) → xb_k h93 x3 = 103 ∧ vp_in 0 (xb_n h93 x3) ∧ (((xb_l h93 x3 0) = (Int32.toInt64 r92) → w_Law_law_L533 σ (w_Law_law_L23 σ Qr n9) Qr x0 x1 x2 x3 x4 h93 bc87 bs87) ∧ (¬ (xb_l h93 x3 0) = (Int32.toInt64 r92) → Qr 0 h93 bc87 bs87))))) ∧ (¬ r94 = r87 → Qr 0 h93 bc87 bs87)))))) ∧ (((xb_i h x0 (Int32.toNatClampNeg x4)) &&& 31) = 6 → vp_in (x4 + 1) (xb_n h x0) ∧ w_Law_instantiate σ x1 (xb_i h x0 (Int32.toNatClampNeg (x4 + 1))) x3 h bc bs (fun (r103 : Int32) (h102 : xb_H) (bc103 bs103 : Nat) => xb_ext h h102 → vp_in (x4 + 1) (xb_n h102 x0) ∧ xb_k h102 x2 = 9 ∧ w_M_instantiate x2 (xb_i h102 x0 (Int32.toNatClampNeg (x4 + 1))) h102 bc103 bs103 (fun (r107 : Int32) (h106 : xb_H) (bc107 bs107 : Nat) => xb_ext h102 h106 → w_M_thrown x2 h106 (fun (r109 : Int32) (h108 : xb_H) => xb_ext h106 h108 → ((r109 = r103 → ((¬ r103 = (0 : Int32) → w_Law_law_L589 σ (w_Law_law_L23 σ Qr n9) Qr x0 x1 x2 x3 x4 h108 bc107 bs107) ∧ (r103 = (0 : Int32) → xb_k h108 x3 = 103 ∧ vp_in 0 (xb_n h108 x3) ∧ (((xb_l h108 x3 0) = (Int32.toInt64 r107) → w_Law_law_L589 σ (w_Law_law_L23 σ Qr n9) Qr x0 x1 x2 x3 x4 h108 bc107 bs107) ∧ (¬ (xb_l h108 x3 0) = (Int32.toInt64 r107) → Qr 0 h108 bc107 bs107))))) ∧ (¬ r109 = r103 → Qr 0 h108 bc107 bs107)))))) ∧ (((xb_i h x0 (Int32.toNatClampNeg x4)) &&& 31) = 7 → vp_in (x4 + 1) (xb_n h x0) ∧ w_Law_name x1 (xb_i h x0 (Int32.toNatClampNeg (x4 + 1))) h bc bs (fun (r118 : Int32) (h117 : xb_H) (bc118 bs118 : Nat) => xb_ext h h117 → vp_in (x4 + 1) (xb_n h117 x0) ∧ xb_k h117 x2 = 9 ∧ w_M_name1 x2 (xb_i h117 x0 (Int32.toNatClampNeg (x4 + 1))) h117 bc118 bs118 (fun (h121 : xb_H) (bc122 bs122 : Nat) => xb_ext h117 h121 → w_M_thrown x2 h121 (fun (r124 : Int32) (h123 : xb_H) => xb_ext h121 h123 → ((r124 = r118 → w_Law_law_L1465 σ (w_Law_law_L23 σ Qr n9) Qr x0 x1 x2 x3 x4 h123 bc122 bs122) ∧ (¬ r124 = r118 → Qr 0 h123 bc122 bs122)))))) ∧ (((xb_i h x0 (Int32.toNatClampNeg x4)) &&& 31) = 8 → vp_in (x4 + 1) (xb_n h x0) ∧ w_Law_find x1 (xb_i h x0 (Int32.toNatClampNeg (x4 + 1))) x3 h bc bs (fun (r129 : Int32) (h128 : xb_H) (bc129 bs129 : Nat) => xb_ext h h128 → vp_in (x4 + 1) (xb_n h128 x0) ∧ xb_k h128 x2 = 9 ∧ w_M_find x2 (xb_i h128 x0 (Int32.toNatClampNeg (x4 + 1))) h128 bc129 bs129 (fun (r133 : Int32) (h132 : xb_H) (bc133 bs133 : Nat) => xb_ext h128 h132 → w_M_thrown x2 h132 (fun (r135 : Int32) (h134 : xb_H) => xb_ext h132 h134 → ((r135 = r129 → ((¬ r129 = (0 : Int32) → w_Law_law_L681 σ (w_Law_law_L23 σ Qr n9) Qr x0 x1 x2 x3 x4 h134 bc133 bs133) ∧ (r129 = (0 : Int32) → xb_k h134 x3 = 103 ∧ vp_in 0 (xb_n h134 x3) ∧ (((xb_l h134 x3 0) = (Int32.toInt64 r133) → w_Law_law_L681 σ (w_Law_law_L23 σ Qr n9) Qr x0 x1 x2 x3 x4 h134 bc133 bs133) ∧ (¬ (xb_l h134 x3 0) = (Int32.toInt64 r133) → Qr 0 h134 bc133 bs133))))) ∧ (¬ r135 = r129 → Qr 0 h134 bc133 bs133)))))) ∧ (((xb_i h x0 (Int32.toNatClampNeg x4)) &&& 31) = 9 → vp_in (x4 + 1) (xb_n h x0) ∧ vp_in (x4 + 2) (xb_n h x0) ∧ vp_in (x4 + 3) (xb_n h x0) ∧ w_Law_exported x1 (xb_i h x0 (Int32.toNatClampNeg (x4 + 1))) (xb_i h x0 (Int32.toNatClampNeg (x4 + 2))) (xb_i h x0 (Int32.toNatClampNeg (x4 + 3))) x3 h bc bs (fun (r146 : Int32) (h145 : xb_H) (bc146 bs146 : Nat) => xb_ext h h145 → vp_in (x4 + 1) (xb_n h145 x0) ∧ vp_in (x4 + 2) (xb_n h145 x0) ∧ vp_in (x4 + 3) (xb_n h145 x0) ∧ xb_k h145 x2 = 9 ∧ w_M_exported x2 (xb_i h145 x0 (Int32.toNatClampNeg (x4 + 1))) (xb_i h145 x0 (Int32.toNatClampNeg (x4 + 2))) (xb_i h145 x0 (Int32.toNatClampNeg (x4 + 3))) h145 (fun (r152 : Int32) (h151 : xb_H) => xb_ext h145 h151 → w_M_thrown x2 h151 (fun (r154 : Int32) (h153 : xb_H) => xb_ext h151 h153 → ((r154 = r146 → ((¬ r146 = (0 : Int32) → w_Law_law_L761 σ (w_Law_law_L23 σ Qr n9) Qr x0 x1 x2 x3 x4 h153 bc146 bs146) ∧ (r146 = (0 : Int32) → xb_k h153 x3 = 103 ∧ vp_in 0 (xb_n h153 x3) ∧ (((xb_l h153 x3 0) = (Int32.toInt64 r152) → w_Law_law_L761 σ (w_Law_law_L23 σ Qr n9) Qr x0 x1 x2 x3 x4 h153 bc146 bs146) ∧ (¬ (xb_l h153 x3 0) = (Int32.toInt64 r152) → Qr 0 h153 bc146 bs146))))) ∧ (¬ r154 = r146 → Qr 0 h153 bc146 bs146)))))) ∧ (((xb_i h x0 (Int32.toNatClampNeg x4)) &&& 31) = 10 → vp_in (x4 + 1) (xb_n h x0) ∧ vp_in (x4 + 2) (xb_n h x0) ∧ w_Law_push x1 ((xb_lshl (Int32.toInt64 (xb_i h x0 (Int32.toNatClampNeg (x4 + 1)))) 32) ||| ((Int32.toInt64 (xb_i h x0 (Int32.toNatClampNeg (x4 + 2)))) &&& 4294967295)) x3 h bc bs (fun (r164 : Int32) (h163 : xb_H) (bc164 bs164 : Nat) => xb_ext h h163 → vp_in (x4 + 1) (xb_n h163 x0) ∧ vp_in (x4 + 2) (xb_n h163 x0) ∧ xb_k h163 x2 = 9 ∧ w_M_push x2 ((xb_lshl (Int32.toInt64 (xb_i h163 x0 (Int32.toNatClampNeg (x4 + 1)))) 32) ||| ((Int32.toInt64 (xb_i h163 x0 (Int32.toNatClampNeg (x4 + 2)))) &&& 4294967295)) h163 (fun (r169 : Int32) (h168 : xb_H) => xb_ext h163 h168 → w_M_thrown x2 h168 (fun (r171 : Int32) (h170 : xb_H) => xb_ext h168 h170 → ((r171 = r164 → ((¬ r164 = (0 : Int32) → w_Law_law_L849 σ (w_Law_law_L23 σ Qr n9) Qr x0 x1 x2 x3 x4 h170 bc164 bs164) ∧ (r164 = (0 : Int32) → xb_k h170 x3 = 103 ∧ vp_in 0 (xb_n h170 x3) ∧ (((xb_l h170 x3 0) = (Int32.toInt64 r169) → w_Law_law_L849 σ (w_Law_law_L23 σ Qr n9) Qr x0 x1 x2 x3 x4 h170 bc164 bs164) ∧ (¬ (xb_l h170 x3 0) = (Int32.toInt64 r169) → Qr 0 h170 bc164 bs164))))) ∧ (¬ r171 = r164 → Qr 0 h170 bc164 bs164)))))) ∧ (((xb_i h x0 (Int32.toNatClampNeg x4)) &&& 31) = 11 → vp_in (x4 + 1) (xb_n h x0) ∧ vp_in (x4 + 2) (xb_n h x0) ∧ w_Law_invoke x1 (xb_i h x0 (Int32.toNatClampNeg (x4 + 1))) (xb_i h x0 (Int32.toNatClampNeg (x4 + 2))) h bc bs (fun (r181 : Int32) (h180 : xb_H) (bc181 bs181 : Nat) => xb_ext h h180 → vp_in (x4 + 1) (xb_n h180 x0) ∧ vp_in (x4 + 2) (xb_n h180 x0) ∧ xb_k h180 x2 = 9 ∧ w_M_invoke x2 (xb_i h180 x0 (Int32.toNatClampNeg (x4 + 1))) (xb_i h180 x0 (Int32.toNatClampNeg (x4 + 2))) h180 (fun (h185 : xb_H) => xb_ext h180 h185 → w_M_thrown x2 h185 (fun (r188 : Int32) (h187 : xb_H) => xb_ext h185 h187 → ((r188 = r181 → w_Law_law_L1465 σ (w_Law_law_L23 σ Qr n9) Qr x0 x1 x2 x3 x4 h187 bc181 bs181) ∧ (¬ r188 = r181 → Qr 0 h187 bc181 bs181)))))) ∧ (((xb_i h x0 (Int32.toNatClampNeg x4)) &&& 31) = 12 → vp_in (x4 + 1) (xb_n h x0) ∧ w_Law_run x1 (xb_i h x0 (Int32.toNatClampNeg (x4 + 1))) x3 h bc bs (fun (r193 : Int32) (h192 : xb_H) (bc193 bs193 : Nat) => xb_ext h h192 → vp_in (x4 + 1) (xb_n h192 x0) ∧ xb_k h192 x2 = 9 ∧ w_M_run x2 (xb_i h192 x0 (Int32.toNatClampNeg (x4 + 1))) h192 (fun (r197 : Int32) (h196 : xb_H) => xb_ext h192 h196 → w_M_thrown x2 h196 (fun (r199 : Int32) (h198 : xb_H) => xb_ext h196 h198 → ((r199 = r193 → ((¬ r193 = (0 : Int32) → w_Law_law_L953 σ (w_Law_law_L23 σ Qr n9) Qr x0 x1 x2 x3 x4 h198 bc193 bs193) ∧ (r193 = (0 : Int32) → xb_k h198 x3 = 103 ∧ vp_in 0 (xb_n h198 x3) ∧ (((xb_l h198 x3 0) = (Int32.toInt64 r197) → w_Law_law_L953 σ (w_Law_law_L23 σ Qr n9) Qr x0 x1 x2 x3 x4 h198 bc193 bs193) ∧ (¬ (xb_l h198 x3 0) = (Int32.toInt64 r197) → Qr 0 h198 bc193 bs193))))) ∧ (¬ r199 = r193 → Qr 0 h198 bc193 bs193)))))) ∧ (((xb_i h x0 (Int32.toNatClampNeg x4)) &&& 31) = 13 → xb_k h x1 = 1 ∧ w_H_stop x1 h (fun (r208 : Int32) (h207 : xb_H) => xb_ext h h207 → xb_k h207 x2 = 9 ∧ w_M_stop x2 h207 (fun (r211 : Int32) (h210 : xb_H) => xb_ext h207 h210 → ((r208 = r211 → w_Law_law_L1465 σ (w_Law_law_L23 σ Qr n9) Qr x0 x1 x2 x3 x4 h210 bc bs) ∧ (¬ r208 = r211 → Qr 0 h210 bc bs))))) ∧ (((xb_i h x0 (Int32.toNatClampNeg x4)) &&& 31) = 14 → xb_k h x1 = 1 ∧ w_H_calls x1 h (fun (r216 : Int32) (h215 : xb_H) => xb_ext h h215 → xb_k h215 x2 = 9 ∧ w_M_calls x2 h215 (fun (r219 : Int32) (h218 : xb_H) => xb_ext h215 h218 → ((r216 = r219 → w_Law_law_L1465 σ (w_Law_law_L23 σ Qr n9) Qr x0 x1 x2 x3 x4 h218 bc bs) ∧ (¬ r216 = r219 → Qr 0 h218 bc bs))))) ∧ (((xb_i h x0 (Int32.toNatClampNeg x4)) &&& 31) = 15 → xb_k h x1 = 1 ∧ w_H_result x1 h (fun (r224 : Int64) (h223 : xb_H) => xb_ext h h223 → xb_k h223 x2 = 9 ∧ w_M_result x2 h223 (fun (r227 : Int64) (h226 : xb_H) => xb_ext h223 h226 → ((r224 = r227 → w_Law_law_L1465 σ (w_Law_law_L23 σ Qr n9) Qr x0 x1 x2 x3 x4 h226 bc bs) ∧ (¬ r224 = r227 → Qr 0 h226 bc bs))))) ∧ (((xb_i h x0 (Int32.toNatClampNeg x4)) &&& 31) = 16 → vp_in (x4 + 1) (xb_n h x0) ∧ w_Law_trap x1 (xb_i h x0 (Int32.toNatClampNeg (x4 + 1))) x3 h bc bs (fun (r232 : Int32) (h231 : xb_H) (bc232 bs232 : Nat) => xb_ext h h231 → vp_in (x4 + 1) (xb_n h231 x0) ∧ xb_k h231 x2 = 9 ∧ w_M_trap x2 (xb_i h231 x0 (Int32.toNatClampNeg (x4 + 1))) h231 (fun (r236 : Int32) (h235 : xb_H) => xb_ext h231 h235 → w_M_thrown x2 h235 (fun (r238 : Int32) (h237 : xb_H) => xb_ext h235 h237 → ((r238 = r232 → ((¬ r232 = (0 : Int32) → w_Law_law_L1049 σ (w_Law_law_L23 σ Qr n9) Qr x0 x1 x2 x3 x4 h237 bc232 bs232) ∧ (r232 = (0 : Int32) → xb_k h237 x3 = 103 ∧ vp_in 0 (xb_n h237 x3) ∧ (((xb_l h237 x3 0) = (Int32.toInt64 r236) → w_Law_law_L1049 σ (w_Law_law_L23 σ Qr n9) Qr x0 x1 x2 x3 x4 h237 bc232 bs232) ∧ (¬ (xb_l h237 x3 0) = (Int32.toInt64 r236) → Qr 0 h237 bc232 bs232))))) ∧ (¬ r238 = r232 → Qr 0 h237 bc232 bs232)))))) ∧ (((xb_i h x0 (Int32.toNatClampNeg x4)) &&& 31) = 17 → vp_in (x4 + 1) (xb_n h x0) ∧ w_Law_pages x1 (xb_i h x0 (Int32.toNatClampNeg (x4 + 1))) x3 h bc bs (fun (r247 : Int32) (h246 : xb_H) (bc247 bs247 : Nat) => xb_ext h h246 → vp_in (x4 + 1) (xb_n h246 x0) ∧ xb_k h246 x2 = 9 ∧ w_M_pages x2 (xb_i h246 x0 (Int32.toNatClampNeg (x4 + 1))) h246 (fun (r251 : Int32) (h250 : xb_H) => xb_ext h246 h250 → w_M_thrown x2 h250 (fun (r253 : Int32) (h252 : xb_H) => xb_ext h250 h252 → ((r253 = r247 → ((¬ r247 = (0 : Int32) → w_Law_law_L1105 σ (w_Law_law_L23 σ Qr n9) Qr x0 x1 x2 x3 x4 h252 bc247 bs247) ∧ (r247 = (0 : Int32) → xb_k h252 x3 = 103 ∧ vp_in 0 (xb_n h252 x3) ∧ (((xb_l h252 x3 0) = (Int32.toInt64 r251) → w_Law_law_L1105 σ (w_Law_law_L23 σ Qr n9) Qr x0 x1 x2 x3 x4 h252 bc247 bs247) ∧ (¬ (xb_l h252 x3 0) = (Int32.toInt64 r251) → Qr 0 h252 bc247 bs247))))) ∧ (¬ r253 = r247 → Qr 0 h252 bc247 bs247)))))) ∧ (((xb_i h x0 (Int32.toNatClampNeg x4)) &&& 31) = 18 → vp_in (x4 + 1) (xb_n h x0) ∧ vp_in (x4 + 2) (xb_n h x0) ∧ w_Law_peek x1 (xb_i h x0 (Int32.toNatClampNeg (x4 + 1))) (xb_i h x0 (Int32.toNatClampNeg (x4 + 2))) x3 h bc bs (fun (r263 : Int32) (h262 : xb_H) (bc263 bs263 : Nat) => xb_ext h h262 → vp_in (x4 + 1) (xb_n h262 x0) ∧ vp_in (x4 + 2) (xb_n h262 x0) ∧ xb_k h262 x2 = 9 ∧ w_M_peek x2 (xb_i h262 x0 (Int32.toNatClampNeg (x4 + 1))) (xb_i h262 x0 (Int32.toNatClampNeg (x4 + 2))) h262 (fun (r268 : Int32) (h267 : xb_H) => xb_ext h262 h267 → w_M_thrown x2 h267 (fun (r270 : Int32) (h269 : xb_H) => xb_ext h267 h269 → ((r270 = r263 → ((¬ r263 = (0 : Int32) → w_Law_law_L1173 σ (w_Law_law_L23 σ Qr n9) Qr x0 x1 x2 x3 x4 h269 bc263 bs263) ∧ (r263 = (0 : Int32) → xb_k h269 x3 = 103 ∧ vp_in 0 (xb_n h269 x3) ∧ (((xb_l h269 x3 0) = (Int32.toInt64 r268) → w_Law_law_L1173 σ (w_Law_law_L23 σ Qr n9) Qr x0 x1 x2 x3 x4 h269 bc263 bs263) ∧ (¬ (xb_l h269 x3 0) = (Int32.toInt64 r268) → Qr 0 h269 bc263 bs263))))) ∧ (¬ r270 = r263 → Qr 0 h269 bc263 bs263)))))) ∧ (((xb_i h x0 (Int32.toNatClampNeg x4)) &&& 31) = 19 → vp_in (x4 + 1) (xb_n h x0) ∧ vp_in (x4 + 2) (xb_n h x0) ∧ vp_in (x4 + 3) (xb_n h x0) ∧ w_Law_poke x1 (xb_i h x0 (Int32.toNatClampNeg (x4 + 1))) (xb_i h x0 (Int32.toNatClampNeg (x4 + 2))) (xb_i h x0 (Int32.toNatClampNeg (x4 + 3))) h bc bs (fun (r281 : Int32) (h280 : xb_H) (bc281 bs281 : Nat) => xb_ext h h280 → vp_in (x4 + 1) (xb_n h280 x0) ∧ vp_in (x4 + 2) (xb_n h280 x0) ∧ vp_in (x4 + 3) (xb_n h280 x0) ∧ xb_k h280 x2 = 9 ∧ w_M_poke x2 (xb_i h280 x0 (Int32.toNatClampNeg (x4 + 1))) (xb_i h280 x0 (Int32.toNatClampNeg (x4 + 2))) (xb_i h280 x0 (Int32.toNatClampNeg (x4 + 3))) h280 (fun (h286 : xb_H) => xb_ext h280 h286 → w_M_thrown x2 h286 (fun (r289 : Int32) (h288 : xb_H) => xb_ext h286 h288 → ((r289 = r281 → w_Law_law_L1465 σ (w_Law_law_L23 σ Qr n9) Qr x0 x1 x2 x3 x4 h288 bc281 bs281) ∧ (¬ r289 = r281 → Qr 0 h288 bc281 bs281)))))) ∧ (((xb_i h x0 (Int32.toNatClampNeg x4)) &&& 31) = 20 → vp_in (x4 + 1) (xb_n h x0) ∧ vp_in (x4 + 2) (xb_n h x0) ∧ w_Law_variable x1 (xb_i h x0 (Int32.toNatClampNeg (x4 + 1))) (xb_i h x0 (Int32.toNatClampNeg (x4 + 2))) x3 h bc bs (fun (r295 : Int32) (h294 : xb_H) (bc295 bs295 : Nat) => xb_ext h h294 → vp_in (x4 + 1) (xb_n h294 x0) ∧ vp_in (x4 + 2) (xb_n h294 x0) ∧ xb_k h294 x2 = 9 ∧ w_M_variable x2 (xb_i h294 x0 (Int32.toNatClampNeg (x4 + 1))) (xb_i h294 x0 (Int32.toNatClampNeg (x4 + 2))) h294 (fun (r300 : Int64) (h299 : xb_H) => xb_ext h294 h299 → w_M_thrown x2 h299 (fun (r302 : Int32) (h301 : xb_H) => xb_ext h299 h301 → ((r302 = r295 → ((¬ r295 = (0 : Int32) → w_Law_law_L1300 σ (w_Law_law_L23 σ Qr n9) Qr x0 x1 x2 x3 x4 h301 bc295 bs295) ∧ (r295 = (0 : Int32) → xb_k h301 x3 = 103 ∧ vp_in 0 (xb_n h301 x3) ∧ (((xb_l h301 x3 0) = r300 → w_Law_law_L1300 σ (w_Law_law_L23 σ Qr n9) Qr x0 x1 x2 x3 x4 h301 bc295 bs295) ∧ (¬ (xb_l h301 x3 0) = r300 → Qr 0 h301 bc295 bs295))))) ∧ (¬ r302 = r295 → Qr 0 h301 bc295 bs295)))))) ∧ (((xb_i h x0 (Int32.toNatClampNeg x4)) &&& 31) = 21 → vp_in (x4 + 1) (xb_n h x0) ∧ vp_in (x4 + 2) (xb_n h x0) ∧ w_Law_element x1 (xb_i h x0 (Int32.toNatClampNeg (x4 + 1))) (xb_i h x0 (Int32.toNatClampNeg (x4 + 2))) x3 h bc bs (fun (r312 : Int32) (h311 : xb_H) (bc312 bs312 : Nat) => xb_ext h h311 → vp_in (x4 + 1) (xb_n h311 x0) ∧ vp_in (x4 + 2) (xb_n h311 x0) ∧ xb_k h311 x2 = 9 ∧ w_M_element x2 (xb_i h311 x0 (Int32.toNatClampNeg (x4 + 1))) (xb_i h311 x0 (Int32.toNatClampNeg (x4 + 2))) h311 (fun (r317 : Int32) (h316 : xb_H) => xb_ext h311 h316 → w_M_thrown x2 h316 (fun (r319 : Int32) (h318 : xb_H) => xb_ext h316 h318 → ((r319 = r312 → ((¬ r312 = (0 : Int32) → w_Law_law_L1368 σ (w_Law_law_L23 σ Qr n9) Qr x0 x1 x2 x3 x4 h318 bc312 bs312) ∧ (r312 = (0 : Int32) → xb_k h318 x3 = 103 ∧ vp_in 0 (xb_n h318 x3) ∧ (((xb_l h318 x3 0) = (Int32.toInt64 r317) → w_Law_law_L1368 σ (w_Law_law_L23 σ Qr n9) Qr x0 x1 x2 x3 x4 h318 bc312 bs312) ∧ (¬ (xb_l h318 x3 0) = (Int32.toInt64 r317) → Qr 0 h318 bc312 bs312))))) ∧ (¬ r319 = r312 → Qr 0 h318 bc312 bs312)))))) ∧ (((xb_i h x0 (Int32.toNatClampNeg x4)) &&& 31) = 22 → xb_k h x1 = 1 ∧ w_H_wrong x1 h (fun (r328 : Int32) (h327 : xb_H) => xb_ext h h327 → xb_k h327 x2 = 9 ∧ w_M_wrong x2 h327 (fun (r331 : Int32) (h330 : xb_H) => xb_ext h327 h330 → ((r328 = r331 → w_Law_law_L1465 σ (w_Law_law_L23 σ Qr n9) Qr x0 x1 x2 x3 x4 h330 bc bs) ∧ (¬ r328 = r331 → Qr 0 h330 bc bs))))) ∧ (((xb_i h x0 (Int32.toNatClampNeg x4)) &&& 31) = 23 → xb_k h x1 = 1 ∧ w_H_outs x1 h (fun (r336 : Int32) (h335 : xb_H) => xb_ext h h335 → xb_k h335 x2 = 9 ∧ w_M_outs x2 h335 (fun (r339 : Int32) (h338 : xb_H) => xb_ext h335 h338 → ((r336 = r339 → w_Law_law_L1465 σ (w_Law_law_L23 σ Qr n9) Qr x0 x1 x2 x3 x4 h338 bc bs) ∧ (¬ r336 = r339 → Qr 0 h338 bc bs))))) ∧ (((xb_i h x0 (Int32.toNatClampNeg x4)) &&& 31) = 24 → vp_in (x4 + 1) (xb_n h x0) ∧ w_Law_out x1 (xb_i h x0 (Int32.toNatClampNeg (x4 + 1))) x3 h bc bs (fun (r344 : Int32) (h343 : xb_H) (bc344 bs344 : Nat) => xb_ext h h343 → vp_in (x4 + 1) (xb_n h343 x0) ∧ xb_k h343 x2 = 9 ∧ w_M_out x2 (xb_i h343 x0 (Int32.toNatClampNeg (x4 + 1))) h343 (fun (r348 : Int64) (h347 : xb_H) => xb_ext h343 h347 → w_M_thrown x2 h347 (fun (r350 : Int32) (h349 : xb_H) => xb_ext h347 h349 → ((r350 = r344 → ((¬ r344 = (0 : Int32) → w_Law_law_L1449 σ (w_Law_law_L23 σ Qr n9) Qr x0 x1 x2 x3 x4 h349 bc344 bs344) ∧ (r344 = (0 : Int32) → xb_k h349 x3 = 103 ∧ vp_in 0 (xb_n h349 x3) ∧ (((xb_l h349 x3 0) = r348 → w_Law_law_L1449 σ (w_Law_law_L23 σ Qr n9) Qr x0 x1 x2 x3 x4 h349 bc344 bs344) ∧ (¬ (xb_l h349 x3 0) = r348 → Qr 0 h349 bc344 bs344))))) ∧ (¬ r350 = r344 → Qr 0 h349 bc344 bs344)))))) ∧ (((xb_i h x0 (Int32.toNatClampNeg x4)) &&& 31) = 25 → xb_k h x1 = 1 ∧ w_H_clear x1 h (fun (r359 : Int32) (h358 : xb_H) => xb_ext h h358 → xb_k h358 x2 = 9 ∧ w_M_clear x2 h358 (fun (r362 : Int32) (h361 : xb_H) => xb_ext h358 h361 → ((r359 = r362 → w_Law_law_L1465 σ (w_Law_law_L23 σ Qr n9) Qr x0 x1 x2 x3 x4 h361 bc bs) ∧ (¬ r359 = r362 → Qr 0 h361 bc bs))))) ∧ (¬ ((xb_i h x0 (Int32.toNatClampNeg x4)) &&& 31) = 0 → ¬ ((xb_i h x0 (Int32.toNatClampNeg x4)) &&& 31) = 1 → ¬ ((xb_i h x0 (Int32.toNatClampNeg x4)) &&& 31) = 2 → ¬ ((xb_i h x0 (Int32.toNatClampNeg x4)) &&& 31) = 3 → ¬ ((xb_i h x0 (Int32.toNatClampNeg x4)) &&& 31) = 4 → ¬ ((xb_i h x0 (Int32.toNatClampNeg x4)) &&& 31) = 5 → ¬ ((xb_i h x0 (Int32.toNatClampNeg x4)) &&& 31) = 6 → ¬ ((xb_i h x0 (Int32.toNatClampNeg x4)) &&& 31) = 7 → ¬ ((xb_i h x0 (Int32.toNatClampNeg x4)) &&& 31) = 8 → ¬ ((xb_i h x0 (Int32.toNatClampNeg x4)) &&& 31) = 9 → ¬ ((xb_i h x0 (Int32.toNatClampNeg x4)) &&& 31) = 10 → ¬ ((xb_i h x0 (Int32.toNatClampNeg x4)) &&& 31) = 11 → ¬ ((xb_i h x0 (Int32.toNatClampNeg x4)) &&& 31) = 12 → ¬ ((xb_i h x0 (Int32.toNatClampNeg x4)) &&& 31) = 13 → ¬ ((xb_i h x0 (Int32.toNatClampNeg x4)) &&& 31) = 14 → ¬ ((xb_i h x0 (Int32.toNatClampNeg x4)) &&& 31) = 15 → ¬ ((xb_i h x0 (Int32.toNatClampNeg x4)) &&& 31) = 16 → ¬ ((xb_i h x0 (Int32.toNatClampNeg x4)) &&& 31) = 17 → ¬ ((xb_i h x0 (Int32.toNatClampNeg x4)) &&& 31) = 18 → ¬ ((xb_i h x0 (Int32.toNatClampNeg x4)) &&& 31) = 19 → ¬ ((xb_i h x0 (Int32.toNatClampNeg x4)) &&& 31) = 20 → ¬ ((xb_i h x0 (Int32.toNatClampNeg x4)) &&& 31) = 21 → ¬ ((xb_i h x0 (Int32.toNatClampNeg x4)) &&& 31) = 22 → ¬ ((xb_i h x0 (Int32.toNatClampNeg x4)) &&& 31) = 23 → ¬ ((xb_i h x0 (Int32.toNatClampNeg x4)) &&& 31) = 24 → ¬ ((xb_i h x0 (Int32.toNatClampNeg x4)) &&& 31) = 25 → w_Law_law_L1465 σ (w_Law_law_L23 σ Qr n9) Qr x0 x1 x2 x3 x4 h bc bs))))

def w_Law_law (σ : Nat) (x0 : Nat) (h : xb_H) (bc : Nat) (bs : Nat) (Qr : Int32 → xb_H → Nat → Nat → Prop) : Prop :=
    1 ≤ bc ∧ 11 ≤ bs ∧ ∀ q1 : Nat, xb_k h q1 = 0 → ∀ h2 : xb_H, h2 = xb_new h q1 1 0 → w_H_init q1 h2 (bc - 1) (bs - 11) (fun (h4 : xb_H) (bc5 bs5 : Nat) => xb_ext h2 h4 → 1 ≤ bc5 ∧ 97 ≤ bs5 ∧ ∀ q6 : Nat, xb_k h4 q6 = 0 → ∀ h7 : xb_H, h7 = xb_new h4 q6 9 0 → w_M_init q6 h7 (bc5 - 1) (bs5 - 97) (fun (h9 : xb_H) (bc10 bs10 : Nat) => xb_ext h7 h9 → 1 ≤ bc10 ∧ 1 ≤ bs10 ∧ ∀ q11 : Nat, xb_k h9 q11 = 0 → ∀ h12 : xb_H, h12 = xb_new h9 q11 103 1 → (∃ n8 : Nat, w_Law_law_L23 σ Qr n8 x0 q1 q6 q11 0 h12 (bc10 - 1) (bs10 - 1))))


