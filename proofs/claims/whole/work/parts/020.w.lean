def w_H_calls (x0 : Nat) (h : xb_H) (Qr : Int32 → xb_H → Prop) : Prop :=
    xb_k h x0 = 1 ∧ ∃ b2 : Nat, (xb_r h x0 7) = some b2 ∧ xb_k h b2 = 8 ∧ Qr (xb_i h b2 4) h


def w_H_clear (x0 : Nat) (h : xb_H) (Qr : Int32 → xb_H → Prop) : Prop :=
    xb_k h x0 = 1 ∧ ∃ b2 : Nat, (xb_r h x0 6) = some b2 ∧ xb_k h b2 = 7 ∧ ∃ b4 : Nat, (xb_r h b2 6) = some b4 ∧ xb_k h b4 = 2 ∧ ∀ v6 : Int32, v6 = (xb_i h b4 1) → ∃ b7 : Nat, (xb_r h x0 6) = some b7 ∧ xb_k h b7 = 7 ∧ ∃ b9 : Nat, (xb_r h b7 6) = some b9 ∧ xb_k h b9 = 2 ∧ ∀ h11 : xb_H, h11 = xb_I h b9 1 0 → Qr v6 h11


def w_H_end_L12 (Qr : xb_H → Nat → Nat → Prop) (Qt : String → xb_H → Nat → Nat → Prop) (h : xb_H) (bc : Nat) (bs : Nat) : Prop :=
    1 ≤ bc ∧ 6 ≤ bs ∧ Qt "java/lang/IllegalArgumentException" h (bc - 1) (bs - 6)

def w_H_end (x0 : Nat) (x1 : Int32) (h : xb_H) (bc : Nat) (bs : Nat) (Qr : xb_H → Nat → Nat → Prop) (Qt : String → xb_H → Nat → Nat → Prop) : Prop :=
    ((x1 < (0 : Int32) → w_H_end_L12 Qr Qt h bc bs) ∧ (¬ x1 < (0 : Int32) → xb_k h x0 = 1 ∧ ((x1 ≤ (xb_i h x0 1) → ∀ h4 : xb_H, h4 = xb_I h x0 1 x1 → Qr h4 bc bs) ∧ (¬ x1 ≤ (xb_i h x0 1) → w_H_end_L12 Qr Qt h bc bs))))


def w_H_fault_L34 (Qr : Int32 → xb_H → Nat → Nat → Prop) (Qt : String → xb_H → Nat → Nat → Prop) (y0 : Int32) (h : xb_H) (bc : Nat) (bs : Nat) : Prop :=
    Qr y0 h bc bs

def w_H_fault_L9 (Qr : Int32 → xb_H → Nat → Nat → Prop) (Qt : String → xb_H → Nat → Nat → Prop) (h : xb_H) (bc : Nat) (bs : Nat) : Prop :=
    1 ≤ bc ∧ 6 ≤ bs ∧ Qt "java/lang/IndexOutOfBoundsException" h (bc - 1) (bs - 6)

def w_H_fault (x0 : Nat) (x1 : Int32) (h : xb_H) (bc : Nat) (bs : Nat) (Qr : Int32 → xb_H → Nat → Nat → Prop) (Qt : String → xb_H → Nat → Nat → Prop) : Prop :=
    ((x1 < (0 : Int32) → w_H_fault_L9 Qr Qt h bc bs) ∧ (¬ x1 < (0 : Int32) → ((x1 ≤ (1 : Int32) → ((¬ x1 = (0 : Int32) → xb_k h x0 = 1 ∧ w_H_fault_L34 Qr Qt (xb_i h x0 10) h bc bs) ∧ (x1 = (0 : Int32) → xb_k h x0 = 1 ∧ w_H_fault_L34 Qr Qt (xb_i h x0 9) h bc bs))) ∧ (¬ x1 ≤ (1 : Int32) → w_H_fault_L9 Qr Qt h bc bs))))


def w_H_feedNumber_L3 (Qr : xb_H → Prop) : Nat → Nat → Int32 → Int32 → xb_H → Prop
  | 0, _, _, _, _ => False
  | n9 + 1, x0, x1, x2, h =>
    ((x2 < (0 : Int32) → Qr h) ∧ (¬ x2 < (0 : Int32) → xb_k h x0 = 1 ∧ ∃ b3 : Nat, (xb_r h x0 0) = some b3 ∧ xb_k h b3 = 100 ∧ vp_in (xb_i h x0 1) (xb_n h b3) ∧ ∀ h6 : xb_H, h6 = xb_I h b3 (Int32.toNatClampNeg (xb_i h x0 1)) (vp_nar .byte ((Int32.toInt8 (xb_ushr x1 x2)).toInt32)) → ∀ h7 : xb_H, h7 = xb_I h6 x0 1 ((xb_i h6 x0 1) + 1) → w_H_feedNumber_L3 Qr n9 x0 x1 (x2 + (-8)) h7))

def w_H_feedNumber (x0 : Nat) (x1 : Int32) (h : xb_H) (Qr : xb_H → Prop) : Prop :=
    (∃ n8 : Nat, w_H_feedNumber_L3 Qr n8 x0 x1 24 h)


def w_H_instanceNumbered_L15 (Qr : Nat → xb_H → Nat → Nat → Prop) (Qt : String → xb_H → Nat → Nat → Prop) (h : xb_H) (bc : Nat) (bs : Nat) : Prop :=
    1 ≤ bc ∧ 6 ≤ bs ∧ Qt "java/lang/IndexOutOfBoundsException" h (bc - 1) (bs - 6)

def w_H_instanceNumbered (x0 : Nat) (x1 : Int32) (h : xb_H) (bc : Nat) (bs : Nat) (Qr : Nat → xb_H → Nat → Nat → Prop) (Qt : String → xb_H → Nat → Nat → Prop) : Prop :=
    ((x1 < (0 : Int32) → w_H_instanceNumbered_L15 Qr Qt h bc bs) ∧ (¬ x1 < (0 : Int32) → xb_k h x0 = 1 ∧ ∃ b3 : Nat, (xb_r h x0 6) = some b3 ∧ xb_k h b3 = 7 ∧ ((x1 < (xb_i h b3 1) → ∃ b6 : Nat, (xb_r h x0 6) = some b6 ∧ xb_k h b6 = 7 ∧ ∃ b8 : Nat, (xb_r h b6 0) = some b8 ∧ xb_k h b8 = 105 ∧ vp_in x1 (xb_n h b8) ∧ ∃ b11 : Nat, (xb_r h b8 (Int32.toNatClampNeg x1)) = some b11 ∧ Qr b11 h bc bs) ∧ (¬ x1 < (xb_i h b3 1) → w_H_instanceNumbered_L15 Qr Qt h bc bs))))


def w_H_moduleNumbered_L12 (Qr : Nat → xb_H → Nat → Nat → Prop) (Qt : String → xb_H → Nat → Nat → Prop) (h : xb_H) (bc : Nat) (bs : Nat) : Prop :=
    1 ≤ bc ∧ 6 ≤ bs ∧ Qt "java/lang/IndexOutOfBoundsException" h (bc - 1) (bs - 6)

def w_H_moduleNumbered (x0 : Nat) (x1 : Int32) (h : xb_H) (bc : Nat) (bs : Nat) (Qr : Nat → xb_H → Nat → Nat → Prop) (Qt : String → xb_H → Nat → Nat → Prop) : Prop :=
    ((x1 < (0 : Int32) → w_H_moduleNumbered_L12 Qr Qt h bc bs) ∧ (¬ x1 < (0 : Int32) → xb_k h x0 = 1 ∧ ((x1 < (xb_i h x0 3) → ∃ b4 : Nat, (xb_r h x0 2) = some b4 ∧ xb_k h b4 = 104 ∧ vp_in x1 (xb_n h b4) ∧ ∃ b7 : Nat, (xb_r h b4 (Int32.toNatClampNeg x1)) = some b7 ∧ Qr b7 h bc bs) ∧ (¬ x1 < (xb_i h x0 3) → w_H_moduleNumbered_L12 Qr Qt h bc bs))))


def w_H_out_L18 (Qr : Int64 → xb_H → Nat → Nat → Prop) (Qt : String → xb_H → Nat → Nat → Prop) (h : xb_H) (bc : Nat) (bs : Nat) : Prop :=
    1 ≤ bc ∧ 6 ≤ bs ∧ Qt "java/lang/IndexOutOfBoundsException" h (bc - 1) (bs - 6)

def w_H_out (x0 : Nat) (x1 : Int32) (h : xb_H) (bc : Nat) (bs : Nat) (Qr : Int64 → xb_H → Nat → Nat → Prop) (Qt : String → xb_H → Nat → Nat → Prop) : Prop :=
    ((x1 < (0 : Int32) → w_H_out_L18 Qr Qt h bc bs) ∧ (¬ x1 < (0 : Int32) → xb_k h x0 = 1 ∧ ∃ b3 : Nat, (xb_r h x0 6) = some b3 ∧ xb_k h b3 = 7 ∧ ∃ b5 : Nat, (xb_r h b3 6) = some b5 ∧ xb_k h b5 = 2 ∧ ((x1 < (xb_i h b5 1) → ∃ b8 : Nat, (xb_r h x0 6) = some b8 ∧ xb_k h b8 = 7 ∧ ∃ b10 : Nat, (xb_r h b8 6) = some b10 ∧ xb_k h b10 = 2 ∧ ∃ b12 : Nat, (xb_r h b10 0) = some b12 ∧ xb_k h b12 = 103 ∧ vp_in x1 (xb_n h b12) ∧ Qr (xb_l h b12 (Int32.toNatClampNeg x1)) h bc bs) ∧ (¬ x1 < (xb_i h b5 1) → w_H_out_L18 Qr Qt h bc bs))))


def w_H_outs (x0 : Nat) (h : xb_H) (Qr : Int32 → xb_H → Prop) : Prop :=
    xb_k h x0 = 1 ∧ ∃ b2 : Nat, (xb_r h x0 6) = some b2 ∧ xb_k h b2 = 7 ∧ ∃ b4 : Nat, (xb_r h b2 6) = some b4 ∧ xb_k h b4 = 2 ∧ Qr (xb_i h b4 1) h


def w_H_refuseModuleBeyondLimit (x0 : Nat) (h : xb_H) (bc : Nat) (bs : Nat) (Qr : xb_H → Nat → Nat → Prop) (Qt : String → xb_H → Nat → Nat → Prop) : Prop :=
    xb_k h x0 = 1 ∧ ((¬ (xb_i h x0 3) = (64 : Int32) → Qr h bc bs) ∧ ((xb_i h x0 3) = (64 : Int32) → 1 ≤ bc ∧ 6 ≤ bs ∧ Qt "java/lang/IllegalStateException" h (bc - 1) (bs - 6)))


def w_H_refuseWhileUnderWay (x0 : Nat) (h : xb_H) (bc : Nat) (bs : Nat) (Qr : xb_H → Nat → Nat → Prop) (Qt : String → xb_H → Nat → Nat → Prop) : Prop :=
    xb_k h x0 = 1 ∧ ∃ b2 : Nat, (xb_r h x0 7) = some b2 ∧ xb_k h b2 = 8 ∧ (((xb_i h b2 3) = (0 : Int32) → Qr h bc bs) ∧ (¬ (xb_i h b2 3) = (0 : Int32) → 1 ≤ bc ∧ 6 ≤ bs ∧ Qt "java/lang/IllegalStateException" h (bc - 1) (bs - 6)))


def w_H_result (x0 : Nat) (h : xb_H) (Qr : Int64 → xb_H → Prop) : Prop :=
    xb_k h x0 = 1 ∧ ∃ b2 : Nat, (xb_r h x0 7) = some b2 ∧ xb_k h b2 = 8 ∧ Qr (xb_l h b2 5) h


def w_H_trap_L16 (Qr : Int32 → xb_H → Nat → Nat → Prop) (Qt : String → xb_H → Nat → Nat → Prop) (h : xb_H) (bc : Nat) (bs : Nat) : Prop :=
    1 ≤ bc ∧ 6 ≤ bs ∧ Qt "java/lang/IndexOutOfBoundsException" h (bc - 1) (bs - 6)

def w_H_trap (x0 : Nat) (x1 : Int32) (h : xb_H) (bc : Nat) (bs : Nat) (Qr : Int32 → xb_H → Nat → Nat → Prop) (Qt : String → xb_H → Nat → Nat → Prop) : Prop :=
    ((x1 < (0 : Int32) → w_H_trap_L16 Qr Qt h bc bs) ∧ (¬ x1 < (0 : Int32) → xb_k h x0 = 1 ∧ ∃ b3 : Nat, (xb_r h x0 7) = some b3 ∧ xb_k h b3 = 8 ∧ ∃ b5 : Nat, (xb_r h b3 6) = some b5 ∧ xb_k h b5 = 102 ∧ ((x1 < (nI (xb_n h b5)) → ∃ b8 : Nat, (xb_r h x0 7) = some b8 ∧ xb_k h b8 = 8 ∧ ∃ b10 : Nat, (xb_r h b8 6) = some b10 ∧ xb_k h b10 = 102 ∧ vp_in x1 (xb_n h b10) ∧ Qr (xb_i h b10 (Int32.toNatClampNeg x1)) h bc bs) ∧ (¬ x1 < (nI (xb_n h b5)) → w_H_trap_L16 Qr Qt h bc bs))))


def w_H_wrong (x0 : Nat) (h : xb_H) (Qr : Int32 → xb_H → Prop) : Prop :=
    Qr 0 h


def w_Checker_init (x0 : Nat) (h : xb_H) (bc : Nat) (bs : Nat) (Qr : xb_H → Nat → Nat → Prop) : Prop :=
    1 ≤ bc ∧ 1 ≤ bs ∧ ∀ q1 : Nat, xb_k h q1 = 0 → ∀ h2 : xb_H, h2 = xb_new h q1 100 1 → xb_k h2 x0 = 5 ∧ ∀ h5 : xb_H, h5 = xb_P h2 x0 3 (some q1) → 1 ≤ (bc - 1) ∧ 1000 ≤ (bs - 1) ∧ ∀ q6 : Nat, xb_k h5 q6 = 0 → ∀ h7 : xb_H, h7 = xb_new h5 q6 100 1000 → ∀ h9 : xb_H, h9 = xb_P h7 x0 6 (some q6) → 1 ≤ ((bc - 1) - 1) ∧ 201 ≤ ((bs - 1) - 1000) ∧ ∀ q10 : Nat, xb_k h9 q10 = 0 → ∀ h11 : xb_H, h11 = xb_new h9 q10 102 201 → ∀ h13 : xb_H, h13 = xb_P h11 x0 10 (some q10) → 1 ≤ (((bc - 1) - 1) - 1) ∧ 201 ≤ (((bs - 1) - 1000) - 201) ∧ ∀ q14 : Nat, xb_k h13 q14 = 0 → ∀ h15 : xb_H, h15 = xb_new h13 q14 102 201 → ∀ h17 : xb_H, h17 = xb_P h15 x0 11 (some q14) → 1 ≤ ((((bc - 1) - 1) - 1) - 1) ∧ 201 ≤ ((((bs - 1) - 1000) - 201) - 201) ∧ ∀ q18 : Nat, xb_k h17 q18 = 0 → ∀ h19 : xb_H, h19 = xb_new h17 q18 102 201 → ∀ h21 : xb_H, h21 = xb_P h19 x0 12 (some q18) → 1 ≤ (((((bc - 1) - 1) - 1) - 1) - 1) ∧ 201 ≤ (((((bs - 1) - 1000) - 201) - 201) - 201) ∧ ∀ q22 : Nat, xb_k h21 q22 = 0 → ∀ h23 : xb_H, h23 = xb_new h21 q22 102 201 → ∀ h25 : xb_H, h25 = xb_P h23 x0 13 (some q22) → 1 ≤ ((((((bc - 1) - 1) - 1) - 1) - 1) - 1) ∧ 201 ≤ ((((((bs - 1) - 1000) - 201) - 201) - 201) - 201) ∧ ∀ q26 : Nat, xb_k h25 q26 = 0 → ∀ h27 : xb_H, h27 = xb_new h25 q26 102 201 → ∀ h29 : xb_H, h29 = xb_P h27 x0 14 (some q26) → 1 ≤ (((((((bc - 1) - 1) - 1) - 1) - 1) - 1) - 1) ∧ 201 ≤ (((((((bs - 1) - 1000) - 201) - 201) - 201) - 201) - 201) ∧ ∀ q30 : Nat, xb_k h29 q30 = 0 → ∀ h31 : xb_H, h31 = xb_new h29 q30 101 201 → ∀ h33 : xb_H, h33 = xb_P h31 x0 15 (some q30) → Qr h33 ((((((((bc - 1) - 1) - 1) - 1) - 1) - 1) - 1) - 1) ((((((((bs - 1) - 1000) - 201) - 201) - 201) - 201) - 201) - 201)


def w_Checker_die (x0 : Nat) (h : xb_H) (Qr : xb_H → Prop) : Prop :=
    xb_k h x0 = 5 ∧ ∃ b2 : Nat, (xb_r h x0 14) = some b2 ∧ xb_k h b2 = 102 ∧ vp_in ((xb_i h x0 16) - 1) (xb_n h b2) ∧ ∀ h5 : xb_H, h5 = xb_I h x0 4 (xb_i h b2 (Int32.toNatClampNeg ((xb_i h x0 16) - 1))) → ∃ b6 : Nat, (xb_r h5 x0 15) = some b6 ∧ xb_k h5 b6 = 101 ∧ vp_in ((xb_i h5 x0 16) - 1) (xb_n h5 b6) ∧ ∀ h9 : xb_H, h9 = xb_I h5 b6 (Int32.toNatClampNeg ((xb_i h5 x0 16) - 1)) (vp_nar .boolean 1) → Qr h9


def w_Checker_isThere_L18 (Qr : Int32 → xb_H → Prop) (y0 : Int32) (h : xb_H) : Prop :=
    (y0 = 0 ∨ y0 = 1) ∧ Qr y0 h

def w_Checker_isThere_L17 (Qr : Int32 → xb_H → Prop) (h : xb_H) : Prop :=
    w_Checker_isThere_L18 Qr 0 h

def w_Checker_isThere (x0 : Int64) (x2 : Int32) (h : xb_H) (Qr : Int32 → xb_H → Prop) : Prop :=
    ((x0 < (0 : Int64) → w_Checker_isThere_L17 Qr h) ∧ (¬ x0 < (0 : Int64) → (((Int32.toInt64 x2) ≤ x0 → w_Checker_isThere_L17 Qr h) ∧ (¬ (Int32.toInt64 x2) ≤ x0 → w_Checker_isThere_L18 Qr 1 h))))


def w_Checker_openThing (x0 : Nat) (x1 : Int32) (x2 : Int32) (x3 : Int32) (x4 : Int32) (h : xb_H) (Qr : xb_H → Prop) : Prop :=
    xb_k h x0 = 5 ∧ ∃ b2 : Nat, (xb_r h x0 10) = some b2 ∧ xb_k h b2 = 102 ∧ vp_in (xb_i h x0 16) (xb_n h b2) ∧ ∀ h5 : xb_H, h5 = xb_I h b2 (Int32.toNatClampNeg (xb_i h x0 16)) x1 → ∃ b6 : Nat, (xb_r h5 x0 11) = some b6 ∧ xb_k h5 b6 = 102 ∧ vp_in (xb_i h5 x0 16) (xb_n h5 b6) ∧ ∀ h9 : xb_H, h9 = xb_I h5 b6 (Int32.toNatClampNeg (xb_i h5 x0 16)) x2 → ∃ b10 : Nat, (xb_r h9 x0 12) = some b10 ∧ xb_k h9 b10 = 102 ∧ vp_in (xb_i h9 x0 16) (xb_n h9 b10) ∧ ∀ h13 : xb_H, h13 = xb_I h9 b10 (Int32.toNatClampNeg (xb_i h9 x0 16)) x3 → ∃ b14 : Nat, (xb_r h13 x0 13) = some b14 ∧ xb_k h13 b14 = 102 ∧ vp_in (xb_i h13 x0 16) (xb_n h13 b14) ∧ ∀ h17 : xb_H, h17 = xb_I h13 b14 (Int32.toNatClampNeg (xb_i h13 x0 16)) x4 → ∃ b18 : Nat, (xb_r h17 x0 14) = some b18 ∧ xb_k h17 b18 = 102 ∧ vp_in (xb_i h17 x0 16) (xb_n h17 b18) ∧ ∀ h21 : xb_H, h21 = xb_I h17 b18 (Int32.toNatClampNeg (xb_i h17 x0 16)) (xb_i h17 x0 4) → ∃ b22 : Nat, (xb_r h21 x0 15) = some b22 ∧ xb_k h21 b22 = 101 ∧ vp_in (xb_i h21 x0 16) (xb_n h21 b22) ∧ ∀ h25 : xb_H, h25 = xb_I h21 b22 (Int32.toNatClampNeg (xb_i h21 x0 16)) (vp_nar .boolean 0) → ∀ h26 : xb_H, h26 = xb_I h25 x0 16 ((xb_i h25 x0 16) + 1) → Qr h26


def w_Checker_put_L42 (Qr : xb_H → Prop) (h : xb_H) : Prop :=
    Qr h

def w_Checker_put (x0 : Nat) (x1 : Int32) (h : xb_H) (Qr : xb_H → Prop) : Prop :=
    ((x1 = (64 : Int32) → w_Checker_put_L42 Qr h) ∧ (¬ x1 = (64 : Int32) → xb_k h x0 = 5 ∧ ∃ b3 : Nat, (xb_r h x0 3) = some b3 ∧ xb_k h b3 = 100 ∧ vp_in (xb_i h x0 4) (xb_n h b3) ∧ ∀ h6 : xb_H, h6 = xb_I h b3 (Int32.toNatClampNeg (xb_i h x0 4)) (vp_nar .byte ((Int32.toInt8 x1).toInt32)) → ∀ h7 : xb_H, h7 = xb_I h6 x0 4 ((xb_i h6 x0 4) + 1) → ∀ h8 : xb_H, h8 = xb_I h7 x0 5 (if (xb_i h7 x0 5) < (xb_i h7 x0 4) then (xb_i h7 x0 4) else (xb_i h7 x0 5)) → w_Checker_put_L42 Qr h8))


def w_Format_init (x0 : Nat) (x1 : Int32) (x2 : Int32) (x3 : Int64) (h : xb_H) (Qr : xb_H → Prop) : Prop :=
    xb_k h x0 = 6 ∧ ∀ h2 : xb_H, h2 = xb_I h x0 0 x1 → ∀ h3 : xb_H, h3 = xb_I h2 x0 1 x2 → ∀ h4 : xb_H, h4 = xb_L h3 x0 2 x3 → ∀ h5 : xb_H, h5 = xb_L h4 x0 3 (xb_lshl ((2 * (Int32.toInt64 x2)) + 1) (x1 - 1)) → ∀ h6 : xb_H, h6 = xb_L h5 x0 4 ((xb_l h5 x0 3) ||| (xb_lshl 1 (x1 - 2))) → Qr h6


def w_Format_highProduct_L122 (Qr : Int64 → xb_H → Prop) (y0 : Int64) (h : xb_H) : Prop :=
    Qr y0 h

def w_Format_highProduct_L106 (Qr : Int64 → xb_H → Prop) (x18 : Int64) (y0 : Int32) (h : xb_H) : Prop :=
    ((y0 = (0 : Int32) → w_Format_highProduct_L122 Qr x18 h) ∧ (¬ y0 = (0 : Int32) → w_Format_highProduct_L122 Qr (x18 ||| 1) h))

def w_Format_highProduct_L101 (Qr : Int64 → xb_H → Prop) (x18 : Int64) (h : xb_H) : Prop :=
    w_Format_highProduct_L106 Qr x18 1 h

def w_Format_highProduct (x0 : Int64) (x2 : Int64) (h : xb_H) (Qr : Int64 → xb_H → Prop) : Prop :=
    ∀ v1 : Int64, v1 = (x0 &&& 4294967295) → ∀ v2 : Int64, v2 = (xb_lushr x0 32) → ∀ v3 : Int64, v3 = (x2 &&& 4294967295) → ∀ v4 : Int64, v4 = (xb_lushr x2 32) → ∀ v5 : Int64, v5 = (v1 * v3) → ∀ v6 : Int64, v6 = ((v2 * v3) + (xb_lushr v5 32)) → ∀ v7 : Int64, v7 = ((v1 * v4) + (v6 &&& 4294967295)) → ∀ v8 : Int64, v8 = (((v2 * v4) + (xb_lushr v6 32)) + (xb_lushr v7 32)) → ((¬ (v5 &&& 4294967295) = (0 : Int64) → w_Format_highProduct_L101 Qr v8 h) ∧ ((v5 &&& 4294967295) = (0 : Int64) → (((v7 &&& 4294967295) = (0 : Int64) → w_Format_highProduct_L106 Qr v8 0 h) ∧ (¬ (v7 &&& 4294967295) = (0 : Int64) → w_Format_highProduct_L101 Qr v8 h))))


def w_Format_isAway_L37 (Qr : Int32 → xb_H → Prop) (y0 : Int32) (h : xb_H) : Prop :=
    (y0 = 0 ∨ y0 = 1) ∧ Qr y0 h

def w_Format_isAway (x0 : Int32) (x1 : Int32) (x2 : Int32) (h : xb_H) (Qr : Int32 → xb_H → Prop) : Prop :=
    ((x0 = 2 → ((¬ x1 = (0 : Int32) → w_Format_isAway_L37 Qr 0 h) ∧ (x1 = (0 : Int32) → w_Format_isAway_L37 Qr 1 h))) ∧ (x0 = 3 → (x1 = 0 ∨ x1 = 1) ∧ Qr x1 h) ∧ (x0 = 4 → Qr 0 h) ∧ (¬ x0 = 2 → ¬ x0 = 3 → ¬ x0 = 4 → (x2 = 0 ∨ x2 = 1) ∧ Qr x2 h))


def w_Format_isInfinite_L21 (Qr : Int32 → xb_H → Prop) (y0 : Int32) (h : xb_H) : Prop :=
    (y0 = 0 ∨ y0 = 1) ∧ Qr y0 h

def w_Format_isInfinite (x0 : Nat) (x1 : Int64) (h : xb_H) (Qr : Int32 → xb_H → Prop) : Prop :=
    xb_k h x0 = 6 ∧ ((¬ (x1 &&& ((xb_l h x0 2) - 1)) = (xb_l h x0 3) → w_Format_isInfinite_L21 Qr 0 h) ∧ ((x1 &&& ((xb_l h x0 2) - 1)) = (xb_l h x0 3) → w_Format_isInfinite_L21 Qr 1 h))


def w_Format_isNan_L21 (Qr : Int32 → xb_H → Prop) (y0 : Int32) (h : xb_H) : Prop :=
    (y0 = 0 ∨ y0 = 1) ∧ Qr y0 h

def w_Format_isNan (x0 : Nat) (x1 : Int64) (h : xb_H) (Qr : Int32 → xb_H → Prop) : Prop :=
    xb_k h x0 = 6 ∧ (((x1 &&& ((xb_l h x0 2) - 1)) ≤ (xb_l h x0 3) → w_Format_isNan_L21 Qr 0 h) ∧ (¬ (x1 &&& ((xb_l h x0 2) - 1)) ≤ (xb_l h x0 3) → w_Format_isNan_L21 Qr 1 h))


def w_Format_isNegative_L16 (Qr : Int32 → xb_H → Prop) (y0 : Int32) (h : xb_H) : Prop :=
    (y0 = 0 ∨ y0 = 1) ∧ Qr y0 h

def w_Format_isNegative (x0 : Nat) (x1 : Int64) (h : xb_H) (Qr : Int32 → xb_H → Prop) : Prop :=
    xb_k h x0 = 6 ∧ (((x1 &&& (xb_l h x0 2)) = (0 : Int64) → w_Format_isNegative_L16 Qr 0 h) ∧ (¬ (x1 &&& (xb_l h x0 2)) = (0 : Int64) → w_Format_isNegative_L16 Qr 1 h))


def w_Format_isZero_L18 (Qr : Int32 → xb_H → Prop) (y0 : Int32) (h : xb_H) : Prop :=
    (y0 = 0 ∨ y0 = 1) ∧ Qr y0 h

def w_Format_isZero (x0 : Nat) (x1 : Int64) (h : xb_H) (Qr : Int32 → xb_H → Prop) : Prop :=
    xb_k h x0 = 6 ∧ ((¬ (x1 &&& ((xb_l h x0 2) - 1)) = (0 : Int64) → w_Format_isZero_L18 Qr 0 h) ∧ ((x1 &&& ((xb_l h x0 2) - 1)) = (0 : Int64) → w_Format_isZero_L18 Qr 1 h))


def w_Format_lowered_L30 (Qr : Int64 → xb_H → Prop) (y0 : Int32) (y1 : Int64) (h : xb_H) : Prop :=
    Qr (y1 ||| (Int32.toInt64 y0)) h

def w_Format_lowered (x0 : Int64) (x2 : Int32) (h : xb_H) (Qr : Int64 → xb_H → Prop) : Prop :=
    ((x2 ≤ (62 : Int32) → ∀ v2 : Int64, v2 = (x0 &&& ((xb_lshl 1 x2) - 1)) → ((v2 = (0 : Int64) → w_Format_lowered_L30 Qr 0 (xb_lushr x0 x2) h) ∧ (¬ v2 = (0 : Int64) → w_Format_lowered_L30 Qr 1 (xb_lushr x0 x2) h))) ∧ (¬ x2 ≤ (62 : Int32) → Qr 1 h))


def w_Format_magnitude (x0 : Nat) (x1 : Int64) (h : xb_H) (Qr : Int64 → xb_H → Prop) : Prop :=
    xb_k h x0 = 6 ∧ Qr (x1 &&& ((xb_l h x0 2) - 1)) h


def w_Format_power (x0 : Nat) (x1 : Int64) (h : xb_H) (Qr : Int32 → xb_H → Prop) : Prop :=
    xb_k h x0 = 6 ∧ Qr ((Int64.toInt32 (xb_lushr (x1 &&& ((xb_l h x0 2) - 1)) ((xb_i h x0 0) - 1))) - (xb_i h x0 1)) h


def w_Format_signed_L14 (Qr : Int64 → xb_H → Prop) (y0 : Int64) (h : xb_H) : Prop :=
    Qr y0 h

def w_Format_signed (x0 : Nat) (x1 : Int32) (x2 : Int64) (h : xb_H) (Qr : Int64 → xb_H → Prop) : Prop :=
    ((x1 = (0 : Int32) → w_Format_signed_L14 Qr x2 h) ∧ (¬ x1 = (0 : Int32) → xb_k h x0 = 6 ∧ w_Format_signed_L14 Qr (x2 ||| (xb_l h x0 2)) h))


def w_Instance_functionId_L29 (Qr : Int32 → xb_H → Prop) (y0 : Int32) (h : xb_H) : Prop :=
    Qr y0 h

def w_Instance_functionId (x0 : Nat) (x1 : Int32) (h : xb_H) (Qr : Int32 → xb_H → Prop) : Prop :=
    xb_k h x0 = 11 ∧ ∃ b2 : Nat, (xb_r h x0 2) = some b2 ∧ xb_k h b2 = 103 ∧ ∀ v4 : Int32, v4 = (nI (xb_n h b2)) → ((v4 ≤ x1 → w_Instance_functionId_L29 Qr (((xb_i h x0 4) + x1) - v4) h) ∧ (¬ v4 ≤ x1 → ∃ b6 : Nat, (xb_r h x0 2) = some b6 ∧ xb_k h b6 = 103 ∧ vp_in x1 (xb_n h b6) ∧ w_Instance_functionId_L29 Qr (Int64.toInt32 (xb_l h b6 (Int32.toNatClampNeg x1))) h))


def w_Instance_numberOf (x0 : Nat) (x1 : Int32) (h : xb_H) (Qr : Int32 → xb_H → Prop) : Prop :=
    xb_k h x0 = 11 ∧ ∃ b2 : Nat, (xb_r h x0 2) = some b2 ∧ xb_k h b2 = 103 ∧ Qr ((x1 - (xb_i h x0 4)) + (nI (xb_n h b2))) h


def w_Instance_variableId_L29 (Qr : Int32 → xb_H → Prop) (y0 : Int32) (h : xb_H) : Prop :=
    Qr y0 h

def w_Instance_variableId (x0 : Nat) (x1 : Int32) (h : xb_H) (Qr : Int32 → xb_H → Prop) : Prop :=
    xb_k h x0 = 11 ∧ ∃ b2 : Nat, (xb_r h x0 3) = some b2 ∧ xb_k h b2 = 103 ∧ ∀ v4 : Int32, v4 = (nI (xb_n h b2)) → ((v4 ≤ x1 → w_Instance_variableId_L29 Qr (((xb_i h x0 5) + x1) - v4) h) ∧ (¬ v4 ≤ x1 → ∃ b6 : Nat, (xb_r h x0 3) = some b6 ∧ xb_k h b6 = 103 ∧ vp_in x1 (xb_n h b6) ∧ w_Instance_variableId_L29 Qr (Int64.toInt32 (xb_l h b6 (Int32.toNatClampNeg x1))) h))


def w_Machine_begin (x0 : Nat) (x1 : Int32) (h : xb_H) (Qr : xb_H → Prop) : Prop :=
    xb_k h x0 = 8 ∧ ∀ h2 : xb_H, h2 = xb_I h x0 3 1 → ∀ h3 : xb_H, h3 = xb_I h2 x0 8 x1 → ∀ h4 : xb_H, h4 = xb_I h3 x0 4 0 → ∀ h5 : xb_H, h5 = xb_I h4 x0 10 0 → Qr h5


def w_Machine_chosenLabel_L51 (Qr : Int32 → xb_H → Prop) (x0 : Nat) (y0 : Int32) (h : xb_H) : Prop :=
    xb_k h x0 = 8 ∧ ∃ b2 : Nat, (xb_r h x0 14) = some b2 ∧ xb_k h b2 = 102 ∧ vp_in (((xb_i h x0 15) + 2) + y0) (xb_n h b2) ∧ Qr (xb_i h b2 (Int32.toNatClampNeg (((xb_i h x0 15) + 2) + y0))) h

def w_Machine_chosenLabel (x0 : Nat) (h : xb_H) (Qr : Int32 → xb_H → Prop) : Prop :=
    xb_k h x0 = 8 ∧ ∀ h2 : xb_H, h2 = xb_I h x0 10 ((xb_i h x0 10) - 1) → ∃ b3 : Nat, (xb_r h2 x0 14) = some b3 ∧ xb_k h2 b3 = 102 ∧ vp_in ((xb_i h2 x0 15) + 1) (xb_n h2 b3) ∧ ∀ v6 : Int32, v6 = (xb_i h2 b3 (Int32.toNatClampNeg ((xb_i h2 x0 15) + 1))) → ∃ b7 : Nat, (xb_r h2 x0 9) = some b7 ∧ xb_k h2 b7 = 103 ∧ vp_in (xb_i h2 x0 10) (xb_n h2 b7) ∧ (((Int32.toInt64 v6) ≤ (xb_l h2 b7 (Int32.toNatClampNeg (xb_i h2 x0 10))) → w_Machine_chosenLabel_L51 Qr x0 v6 h2) ∧ (¬ (Int32.toInt64 v6) ≤ (xb_l h2 b7 (Int32.toNatClampNeg (xb_i h2 x0 10))) → ∃ b11 : Nat, (xb_r h2 x0 9) = some b11 ∧ xb_k h2 b11 = 103 ∧ vp_in (xb_i h2 x0 10) (xb_n h2 b11) ∧ w_Machine_chosenLabel_L51 Qr x0 (Int64.toInt32 (xb_l h2 b11 (Int32.toNatClampNeg (xb_i h2 x0 10)))) h2))


def w_Machine_enter (x0 : Nat) (x1 : Int32) (h : xb_H) (Qr : xb_H → Prop) : Prop :=
    xb_k h x0 = 8 ∧ ∃ b2 : Nat, (xb_r h x0 0) = some b2 ∧ xb_k h b2 = 7 ∧ ∃ b4 : Nat, (xb_r h b2 0) = some b4 ∧ ∃ b5 : Nat, (xb_r h x0 11) = some b5 ∧ xb_k h b5 = 102 ∧ vp_in (x1 + 0) (xb_n h b5) ∧ xb_k h b4 = 105 ∧ vp_in (xb_i h b5 (Int32.toNatClampNeg (x1 + 0))) (xb_n h b4) ∧ ∃ b10 : Nat, (xb_r h b4 (Int32.toNatClampNeg (xb_i h b5 (Int32.toNatClampNeg (x1 + 0))))) = some b10 ∧ ∀ h11 : xb_H, h11 = xb_P h x0 12 (some b10) → ∃ b12 : Nat, (xb_r h11 x0 12) = some b12 ∧ xb_k h11 b12 = 11 ∧ ∃ b14 : Nat, (xb_r h11 b12 1) = some b14 ∧ xb_k h11 b14 = 3 ∧ ∃ b16 : Nat, (xb_r h11 b14 0) = some b16 ∧ ∀ h17 : xb_H, h17 = xb_P h11 x0 13 (some b16) → ∃ b18 : Nat, (xb_r h17 x0 12) = some b18 ∧ xb_k h17 b18 = 11 ∧ ∃ b20 : Nat, (xb_r h17 b18 1) = some b20 ∧ xb_k h17 b20 = 3 ∧ ∃ b22 : Nat, (xb_r h17 b20 1) = some b22 ∧ ∀ h23 : xb_H, h23 = xb_P h17 x0 14 (some b22) → ∃ b24 : Nat, (xb_r h23 x0 11) = some b24 ∧ xb_k h23 b24 = 102 ∧ vp_in (x1 + 3) (xb_n h23 b24) ∧ ∀ h27 : xb_H, h27 = xb_I h23 x0 16 (xb_i h23 b24 (Int32.toNatClampNeg (x1 + 3))) → ∃ b28 : Nat, (xb_r h27 x0 11) = some b28 ∧ xb_k h27 b28 = 102 ∧ vp_in (x1 + 4) (xb_n h27 b28) ∧ ∀ h31 : xb_H, h31 = xb_I h27 x0 17 (xb_i h27 b28 (Int32.toNatClampNeg (x1 + 4))) → Qr h31


def w_Machine_fall_L87 (Qr : xb_H → Prop) (x0 : Nat) (y0 : Int32) (y1 : Int32) (y2 : Nat) (h : xb_H) : Prop :=
    xb_k h y2 = 102 ∧ vp_in y1 (xb_n h y2) ∧ ∀ h3 : xb_H, h3 = xb_I h y2 (Int32.toNatClampNeg y1) y0 → xb_k h3 x0 = 8 ∧ ∀ h5 : xb_H, h5 = xb_I h3 x0 7 1 → ∀ h6 : xb_H, h6 = xb_I h5 x0 3 0 → ∀ h7 : xb_H, h7 = xb_I h6 x0 4 0 → Qr h7

def w_Machine_fall_L69 (Qr : xb_H → Prop) (x0 : Nat) (x2 : Int32) (y0 : Int32) (y1 : Int32) (y2 : Nat) (h : xb_H) : Prop :=
    xb_k h y2 = 102 ∧ vp_in y1 (xb_n h y2) ∧ ∀ h3 : xb_H, h3 = xb_I h y2 (Int32.toNatClampNeg y1) y0 → xb_k h3 x0 = 8 ∧ ∃ b5 : Nat, (xb_r h3 x0 6) = some b5 ∧ ((x2 = (0 : Int32) → w_Machine_fall_L87 Qr x0 (-1) 3 b5 h3) ∧ (¬ x2 = (0 : Int32) → w_Machine_fall_L87 Qr x0 (xb_i h3 x0 15) 3 b5 h3))

def w_Machine_fall_L40 (Qr : xb_H → Prop) (x0 : Nat) (x2 : Int32) (y0 : Int32) (y1 : Int32) (y2 : Nat) (h : xb_H) : Prop :=
    xb_k h y2 = 102 ∧ vp_in y1 (xb_n h y2) ∧ ∀ h3 : xb_H, h3 = xb_I h y2 (Int32.toNatClampNeg y1) y0 → xb_k h3 x0 = 8 ∧ ∃ b5 : Nat, (xb_r h3 x0 6) = some b5 ∧ ((x2 = (0 : Int32) → w_Machine_fall_L69 Qr x0 x2 (-1) 2 b5 h3) ∧ (¬ x2 = (0 : Int32) → ∃ b7 : Nat, (xb_r h3 x0 11) = some b7 ∧ xb_k h3 b7 = 102 ∧ vp_in ((((xb_i h3 x0 4) - 1) * 5) + 1) (xb_n h3 b7) ∧ w_Machine_fall_L69 Qr x0 x2 (xb_i h3 b7 (Int32.toNatClampNeg ((((xb_i h3 x0 4) - 1) * 5) + 1))) 2 b5 h3))

def w_Machine_fall_L12 (Qr : xb_H → Prop) (x0 : Nat) (x1 : Int32) (y0 : Int32) (h : xb_H) : Prop :=
    xb_k h x0 = 8 ∧ ∃ b2 : Nat, (xb_r h x0 6) = some b2 ∧ xb_k h b2 = 102 ∧ vp_in 0 (xb_n h b2) ∧ ∀ h5 : xb_H, h5 = xb_I h b2 (Int32.toNatClampNeg 0) x1 → ∃ b6 : Nat, (xb_r h5 x0 6) = some b6 ∧ ((y0 = (0 : Int32) → w_Machine_fall_L40 Qr x0 y0 (-1) 1 b6 h5) ∧ (¬ y0 = (0 : Int32) → ∃ b8 : Nat, (xb_r h5 x0 12) = some b8 ∧ xb_k h5 b8 = 11 ∧ w_Machine_fall_L40 Qr x0 y0 (xb_i h5 b8 0) 1 b6 h5))

def w_Machine_fall (x0 : Nat) (x1 : Int32) (h : xb_H) (Qr : xb_H → Prop) : Prop :=
    xb_k h x0 = 8 ∧ (((xb_i h x0 4) ≤ (0 : Int32) → w_Machine_fall_L12 Qr x0 x1 0 h) ∧ (¬ (xb_i h x0 4) ≤ (0 : Int32) → w_Machine_fall_L12 Qr x0 x1 1 h))


def w_Machine_finish (x0 : Nat) (x1 : Int64) (h : xb_H) (Qr : xb_H → Prop) : Prop :=
    xb_k h x0 = 8 ∧ ∀ h2 : xb_H, h2 = xb_L h x0 5 x1 → ∀ h3 : xb_H, h3 = xb_I h2 x0 3 0 → ∀ h4 : xb_H, h4 = xb_I h3 x0 4 0 → Qr h4


def w_Machine_giveUp (x0 : Nat) (h : xb_H) (Qr : Int32 → xb_H → Prop) : Prop :=
    xb_k h x0 = 8 ∧ ∀ v2 : Int32, v2 = (xb_i h x0 4) → ∀ h3 : xb_H, h3 = xb_I h x0 3 0 → ∀ h4 : xb_H, h4 = xb_I h3 x0 4 0 → Qr v2 h4


def w_Machine_putValue (x0 : Nat) (x1 : Int64) (h : xb_H) (Qr : xb_H → Prop) : Prop :=
    xb_k h x0 = 8 ∧ ∃ b2 : Nat, (xb_r h x0 9) = some b2 ∧ xb_k h b2 = 103 ∧ vp_in (xb_i h x0 10) (xb_n h b2) ∧ ∀ h5 : xb_H, h5 = xb_L h b2 (Int32.toNatClampNeg (xb_i h x0 10)) x1 → ∀ h6 : xb_H, h6 = xb_I h5 x0 10 ((xb_i h5 x0 10) + 1) → Qr h6


def w_Machine_widened_L84 (Qr : Int64 → xb_H → Prop) (x1 : Int64) (h : xb_H) : Prop :=
    Qr x1 h

def w_Machine_widened (x0 : Int32) (x1 : Int64) (h : xb_H) (Qr : Int64 → xb_H → Prop) : Prop :=
    ((x0 = 44 → Qr ((Int32.toInt64 ((Int32.toInt8 (Int64.toInt32 x1)).toInt32)) &&& 4294967295) h) ∧ (x0 = 45 → w_Machine_widened_L84 Qr x1 h) ∧ (x0 = 46 → Qr ((Int32.toInt64 ((Int32.toInt16 (Int64.toInt32 x1)).toInt32)) &&& 4294967295) h) ∧ (x0 = 47 → w_Machine_widened_L84 Qr x1 h) ∧ (x0 = 48 → Qr (Int32.toInt64 ((Int32.toInt8 (Int64.toInt32 x1)).toInt32)) h) ∧ (x0 = 49 → w_Machine_widened_L84 Qr x1 h) ∧ (x0 = 50 → Qr (Int32.toInt64 ((Int32.toInt16 (Int64.toInt32 x1)).toInt32)) h) ∧ (x0 = 51 → w_Machine_widened_L84 Qr x1 h) ∧ (x0 = 52 → Qr (Int32.toInt64 (Int64.toInt32 x1)) h) ∧ (¬ x0 = 44 → ¬ x0 = 45 → ¬ x0 = 46 → ¬ x0 = 47 → ¬ x0 = 48 → ¬ x0 = 49 → ¬ x0 = 50 → ¬ x0 = 51 → ¬ x0 = 52 → w_Machine_widened_L84 Qr x1 h))


def w_Memory_init (x0 : Nat) (x1 : Nat) (x2 : Int64) (h : xb_H) (bc : Nat) (bs : Nat) (Qr : xb_H → Nat → Nat → Prop) : Prop :=
    1 ≤ bc ∧ 16 ≤ bs ∧ ∀ q1 : Nat, xb_k h q1 = 0 → ∀ h2 : xb_H, h2 = xb_new h q1 102 16 → xb_k h2 x0 = 13 ∧ ∀ h5 : xb_H, h5 = xb_P h2 x0 2 (some q1) → ∀ h6 : xb_H, h6 = xb_P h5 x0 0 (some x1) → ∀ h7 : xb_H, h7 = xb_L h6 x0 1 x2 → Qr h7 (bc - 1) (bs - 16)


def w_Memory_bytes (x0 : Nat) (h : xb_H) (Qr : Int32 → xb_H → Prop) : Prop :=
    xb_k h x0 = 13 ∧ Qr ((xb_i h x0 3) * 65536) h


def w_Memory_wordOf (x0 : Nat) (x1 : Int32) (h : xb_H) (Qr : Int32 → xb_H → Prop) : Prop :=
    xb_k h x0 = 13 ∧ ∃ b2 : Nat, (xb_r h x0 2) = some b2 ∧ xb_k h b2 = 102 ∧ vp_in (xb_ushr x1 16) (xb_n h b2) ∧ Qr (((xb_i h b2 (Int32.toNatClampNeg (xb_ushr x1 16))) * 8192) + (xb_ushr (x1 &&& 65535) 3)) h


def w_Reader_init (x0 : Nat) (h : xb_H) (bc : Nat) (bs : Nat) (Qr : xb_H → Nat → Nat → Prop) : Prop :=
    1 ≤ bc ∧ 200 ≤ bs ∧ ∀ q1 : Nat, xb_k h q1 = 0 → ∀ h2 : xb_H, h2 = xb_new h q1 102 200 → xb_k h2 x0 = 4 ∧ ∀ h5 : xb_H, h5 = xb_P h2 x0 5 (some q1) → Qr h5 (bc - 1) (bs - 200)


def w_Reader_endsSigned_L44 (Qr : Int32 → xb_H → Prop) (y0 : Int32) (h : xb_H) : Prop :=
    (y0 = 0 ∨ y0 = 1) ∧ Qr y0 h

def w_Reader_endsSigned_L39 (Qr : Int32 → xb_H → Prop) (h : xb_H) : Prop :=
    w_Reader_endsSigned_L44 Qr 1 h

def w_Reader_endsSigned_L28 (Qr : Int32 → xb_H → Prop) (y0 : Int32) (h : xb_H) : Prop :=
    (y0 = 0 ∨ y0 = 1) ∧ Qr y0 h

def w_Reader_endsSigned_L27 (Qr : Int32 → xb_H → Prop) (h : xb_H) : Prop :=
    w_Reader_endsSigned_L28 Qr 0 h

def w_Reader_endsSigned_L23 (Qr : Int32 → xb_H → Prop) (h : xb_H) : Prop :=
    w_Reader_endsSigned_L28 Qr 1 h

def w_Reader_endsSigned (x0 : Int32) (x1 : Int32) (h : xb_H) (Qr : Int32 → xb_H → Prop) : Prop :=
    ((¬ x1 = (5 : Int32) → ((x0 = (0 : Int32) → w_Reader_endsSigned_L39 Qr h) ∧ (¬ x0 = (0 : Int32) → ((¬ x0 = (127 : Int32) → w_Reader_endsSigned_L44 Qr 0 h) ∧ (x0 = (127 : Int32) → w_Reader_endsSigned_L39 Qr h))))) ∧ (x1 = (5 : Int32) → ((x0 ≤ (7 : Int32) → w_Reader_endsSigned_L23 Qr h) ∧ (¬ x0 ≤ (7 : Int32) → ((x0 < (120 : Int32) → w_Reader_endsSigned_L27 Qr h) ∧ (¬ x0 < (120 : Int32) → (((127 : Int32) < x0 → w_Reader_endsSigned_L27 Qr h) ∧ (¬ (127 : Int32) < x0 → w_Reader_endsSigned_L23 Qr h))))))))


def w_Reader_groupLength_L202 (K164 : Nat → Int32 → Int32 → Int32 → xb_H → Prop) (Qr : Int32 → xb_H → Prop) (h : xb_H) : Prop :=
    Qr 0 h

def w_Reader_groupLength_L164 (Qr : Int32 → xb_H → Prop) : Nat → Nat → Int32 → Int32 → Int32 → xb_H → Prop
  | 0, _, _, _, _, _ => False
  | n9 + 1, x0, x1, x4, x8, h =>
    ((x4 ≤ x8 → Qr x4 h) ∧ (¬ x4 ≤ x8 → xb_k h x0 = 4 ∧ ∃ b3 : Nat, (xb_r h x0 1) = some b3 ∧ xb_k h b3 = 100 ∧ vp_in (x1 + x8) (xb_n h b3) ∧ ∀ v6 : Int32, v6 = ((xb_i h b3 (Int32.toNatClampNeg (x1 + x8))) &&& 255) → ((v6 < (128 : Int32) → w_Reader_groupLength_L202 (w_Reader_groupLength_L164 Qr n9) Qr h) ∧ (¬ v6 < (128 : Int32) → ((v6 ≤ (191 : Int32) → w_Reader_groupLength_L164 Qr n9 x0 x1 x4 (x8 + 1) h) ∧ (¬ v6 ≤ (191 : Int32) → w_Reader_groupLength_L202 (w_Reader_groupLength_L164 Qr n9) Qr h))))))

def w_Reader_groupLength_L159 (Qr : Int32 → xb_H → Prop) (h : xb_H) : Prop :=
    Qr 0 h

def w_Reader_groupLength_L143 (Qr : Int32 → xb_H → Prop) (x0 : Nat) (x1 : Int32) (x4 : Int32) (x5 : Int32) (x6 : Int32) (y0 : Int32) (h : xb_H) : Prop :=
    ((x5 < x6 → w_Reader_groupLength_L159 Qr h) ∧ (¬ x5 < x6 → ((x5 ≤ y0 → (∃ n8 : Nat, w_Reader_groupLength_L164 Qr n8 x0 x1 x4 2 h)) ∧ (¬ x5 ≤ y0 → w_Reader_groupLength_L159 Qr h))))

def w_Reader_groupLength_L112 (Qr : Int32 → xb_H → Prop) (x0 : Nat) (x1 : Int32) (x3 : Int32) (x4 : Int32) (x5 : Int32) (y0 : Int32) (h : xb_H) : Prop :=
    ((¬ x3 = (237 : Int32) → ((¬ x3 = (244 : Int32) → w_Reader_groupLength_L143 Qr x0 x1 x4 x5 y0 191 h) ∧ (x3 = (244 : Int32) → w_Reader_groupLength_L143 Qr x0 x1 x4 x5 y0 143 h))) ∧ (x3 = (237 : Int32) → w_Reader_groupLength_L143 Qr x0 x1 x4 x5 y0 159 h))

def w_Reader_groupLength_L67 (Qr : Int32 → xb_H → Prop) (h : xb_H) : Prop :=
    Qr 0 h

def w_Reader_groupLength_L43 (Qr : Int32 → xb_H → Prop) (x0 : Nat) (x1 : Int32) (x2 : Int32) (x3 : Int32) (y0 : Int32) (h : xb_H) : Prop :=
    ((x3 < (194 : Int32) → w_Reader_groupLength_L67 Qr h) ∧ (¬ x3 < (194 : Int32) → (((244 : Int32) < x3 → w_Reader_groupLength_L67 Qr h) ∧ (¬ (244 : Int32) < x3 → ((y0 ≤ (x2 - x1) → xb_k h x0 = 4 ∧ ∃ b5 : Nat, (xb_r h x0 1) = some b5 ∧ xb_k h b5 = 100 ∧ vp_in (x1 + 1) (xb_n h b5) ∧ ∀ v8 : Int32, v8 = ((xb_i h b5 (Int32.toNatClampNeg (x1 + 1))) &&& 255) → ((¬ x3 = (224 : Int32) → ((¬ x3 = (240 : Int32) → w_Reader_groupLength_L112 Qr x0 x1 x3 y0 v8 128 h) ∧ (x3 = (240 : Int32) → w_Reader_groupLength_L112 Qr x0 x1 x3 y0 v8 144 h))) ∧ (x3 = (224 : Int32) → w_Reader_groupLength_L112 Qr x0 x1 x3 y0 v8 160 h))) ∧ (¬ y0 ≤ (x2 - x1) → w_Reader_groupLength_L67 Qr h))))))

def w_Reader_groupLength (x0 : Nat) (x1 : Int32) (x2 : Int32) (h : xb_H) (Qr : Int32 → xb_H → Prop) : Prop :=
    xb_k h x0 = 4 ∧ ∃ b2 : Nat, (xb_r h x0 1) = some b2 ∧ xb_k h b2 = 100 ∧ vp_in x1 (xb_n h b2) ∧ ∀ v5 : Int32, v5 = ((xb_i h b2 (Int32.toNatClampNeg x1)) &&& 255) → (((128 : Int32) ≤ v5 → (((224 : Int32) ≤ v5 → (((240 : Int32) ≤ v5 → w_Reader_groupLength_L43 Qr x0 x1 x2 v5 4 h) ∧ (¬ (240 : Int32) ≤ v5 → w_Reader_groupLength_L43 Qr x0 x1 x2 v5 3 h))) ∧ (¬ (224 : Int32) ≤ v5 → w_Reader_groupLength_L43 Qr x0 x1 x2 v5 2 h))) ∧ (¬ (128 : Int32) ≤ v5 → Qr 1 h))


def w_Reader_noteEnd_L43 (Qr : xb_H → Prop) (h : xb_H) : Prop :=
    Qr h

def w_Reader_noteEnd (x0 : Nat) (x1 : Int32) (x2 : Int32) (x3 : Int32) (h : xb_H) (Qr : xb_H → Prop) : Prop :=
    ((x1 = (0 : Int32) → xb_k h x0 = 4 ∧ ∃ b3 : Nat, (xb_r h x0 1) = some b3 ∧ xb_k h b3 = 100 ∧ vp_in x3 (xb_n h b3) ∧ ((¬ (xb_i h b3 (Int32.toNatClampNeg x3)) = (5 : Int32) → ∃ b7 : Nat, (xb_r h x0 2) = some b7 ∧ xb_k h b7 = 102 ∧ vp_in (x3 + 1) (xb_n h b7) ∧ ∀ h10 : xb_H, h10 = xb_I h b7 (Int32.toNatClampNeg (x3 + 1)) x2 → w_Reader_noteEnd_L43 Qr h10) ∧ ((xb_i h b3 (Int32.toNatClampNeg x3)) = (5 : Int32) → ∃ b11 : Nat, (xb_r h x0 2) = some b11 ∧ xb_k h b11 = 102 ∧ vp_in x3 (xb_n h b11) ∧ ∀ h14 : xb_H, h14 = xb_I h b11 (Int32.toNatClampNeg x3) x2 → w_Reader_noteEnd_L43 Qr h14))) ∧ (¬ x1 = (0 : Int32) → xb_k h x0 = 4 ∧ ∃ b16 : Nat, (xb_r h x0 2) = some b16 ∧ xb_k h b16 = 102 ∧ vp_in x2 (xb_n h b16) ∧ ∀ h19 : xb_H, h19 = xb_I h b16 (Int32.toNatClampNeg x2) 1 → w_Reader_noteEnd_L43 Qr h19))


def w_Reader_noteLong_L33 (Qr : xb_H → Prop) (h : xb_H) : Prop :=
    Qr h

def w_Reader_noteLong (x0 : Nat) (x1 : Int32) (x2 : Int64) (h : xb_H) (Qr : xb_H → Prop) : Prop :=
    xb_k h x0 = 4 ∧ ∃ b2 : Nat, (xb_r h x0 2) = some b2 ∧ xb_k h b2 = 102 ∧ vp_in (x1 + 1) (xb_n h b2) ∧ ∀ h5 : xb_H, h5 = xb_I h b2 (Int32.toNatClampNeg (x1 + 1)) (Int64.toInt32 x2) → (((xb_i h5 x0 3) ≤ (x1 + 2) → w_Reader_noteLong_L33 Qr h5) ∧ (¬ (xb_i h5 x0 3) ≤ (x1 + 2) → ∃ b7 : Nat, (xb_r h5 x0 2) = some b7 ∧ xb_k h5 b7 = 102 ∧ vp_in (x1 + 2) (xb_n h5 b7) ∧ ∀ h10 : xb_H, h10 = xb_I h5 b7 (Int32.toNatClampNeg (x1 + 2)) (Int64.toInt32 (xb_lushr x2 32)) → w_Reader_noteLong_L33 Qr h10))


def w_Reader_shapeOf_L233 (Qr : Int32 → xb_H → Prop) (h : xb_H) : Prop :=
    Qr 13 h

def w_Reader_shapeOf_L226 (Qr : Int32 → xb_H → Prop) (h : xb_H) : Prop :=
    Qr 4 h

def w_Reader_shapeOf_L224 (Qr : Int32 → xb_H → Prop) (h : xb_H) : Prop :=
    Qr 4 h

def w_Reader_shapeOf_L218 (Qr : Int32 → xb_H → Prop) (h : xb_H) : Prop :=
    Qr 1 h

def w_Reader_shapeOf_L216 (Qr : Int32 → xb_H → Prop) (h : xb_H) : Prop :=
    Qr 0 h

def w_Reader_shapeOf_L53 (Qr : Int32 → xb_H → Prop) (y0 : Int32) (h : xb_H) : Prop :=
    Qr y0 h

def w_Reader_shapeOf_L19 (Qr : Int32 → xb_H → Prop) (y0 : Int32) (h : xb_H) : Prop :=
    Qr y0 h

def w_Reader_shapeOf (x0 : Int32) (h : xb_H) (Qr : Int32 → xb_H → Prop) : Prop :=
    ((x0 < (69 : Int32) → ((x0 < (65 : Int32) → ((x0 < (40 : Int32) → ((x0 = 0 → w_Reader_shapeOf_L216 Qr h) ∧ (x0 = 1 → w_Reader_shapeOf_L216 Qr h) ∧ (x0 = 2 → w_Reader_shapeOf_L218 Qr h) ∧ (x0 = 3 → w_Reader_shapeOf_L218 Qr h) ∧ (x0 = 4 → w_Reader_shapeOf_L218 Qr h) ∧ (x0 = 5 → Qr 2 h) ∧ (x0 = 6 → w_Reader_shapeOf_L233 Qr h) ∧ (x0 = 7 → w_Reader_shapeOf_L233 Qr h) ∧ (x0 = 8 → w_Reader_shapeOf_L233 Qr h) ∧ (x0 = 9 → w_Reader_shapeOf_L233 Qr h) ∧ (x0 = 10 → w_Reader_shapeOf_L233 Qr h) ∧ (x0 = 11 → Qr 3 h) ∧ (x0 = 12 → w_Reader_shapeOf_L224 Qr h) ∧ (x0 = 13 → w_Reader_shapeOf_L224 Qr h) ∧ (x0 = 14 → Qr 5 h) ∧ (x0 = 15 → w_Reader_shapeOf_L216 Qr h) ∧ (x0 = 16 → w_Reader_shapeOf_L224 Qr h) ∧ (x0 = 17 → Qr 6 h) ∧ (x0 = 18 → w_Reader_shapeOf_L233 Qr h) ∧ (x0 = 19 → w_Reader_shapeOf_L233 Qr h) ∧ (x0 = 20 → w_Reader_shapeOf_L233 Qr h) ∧ (x0 = 21 → w_Reader_shapeOf_L233 Qr h) ∧ (x0 = 22 → w_Reader_shapeOf_L233 Qr h) ∧ (x0 = 23 → w_Reader_shapeOf_L233 Qr h) ∧ (x0 = 24 → w_Reader_shapeOf_L233 Qr h) ∧ (x0 = 25 → w_Reader_shapeOf_L233 Qr h) ∧ (x0 = 26 → w_Reader_shapeOf_L216 Qr h) ∧ (x0 = 27 → w_Reader_shapeOf_L216 Qr h) ∧ (x0 = 28 → w_Reader_shapeOf_L233 Qr h) ∧ (x0 = 29 → w_Reader_shapeOf_L233 Qr h) ∧ (x0 = 30 → w_Reader_shapeOf_L233 Qr h) ∧ (x0 = 31 → w_Reader_shapeOf_L233 Qr h) ∧ (x0 = 32 → w_Reader_shapeOf_L226 Qr h) ∧ (x0 = 33 → w_Reader_shapeOf_L226 Qr h) ∧ (x0 = 34 → w_Reader_shapeOf_L226 Qr h) ∧ (x0 = 35 → w_Reader_shapeOf_L226 Qr h) ∧ (x0 = 36 → w_Reader_shapeOf_L226 Qr h) ∧ (¬ x0 = 0 → ¬ x0 = 1 → ¬ x0 = 2 → ¬ x0 = 3 → ¬ x0 = 4 → ¬ x0 = 5 → ¬ x0 = 6 → ¬ x0 = 7 → ¬ x0 = 8 → ¬ x0 = 9 → ¬ x0 = 10 → ¬ x0 = 11 → ¬ x0 = 12 → ¬ x0 = 13 → ¬ x0 = 14 → ¬ x0 = 15 → ¬ x0 = 16 → ¬ x0 = 17 → ¬ x0 = 18 → ¬ x0 = 19 → ¬ x0 = 20 → ¬ x0 = 21 → ¬ x0 = 22 → ¬ x0 = 23 → ¬ x0 = 24 → ¬ x0 = 25 → ¬ x0 = 26 → ¬ x0 = 27 → ¬ x0 = 28 → ¬ x0 = 29 → ¬ x0 = 30 → ¬ x0 = 31 → ¬ x0 = 32 → ¬ x0 = 33 → ¬ x0 = 34 → ¬ x0 = 35 → ¬ x0 = 36 → w_Reader_shapeOf_L233 Qr h))) ∧ (¬ x0 < (40 : Int32) → ((x0 < (63 : Int32) → w_Reader_shapeOf_L53 Qr 7 h) ∧ (¬ x0 < (63 : Int32) → w_Reader_shapeOf_L53 Qr 8 h))))) ∧ (¬ x0 < (65 : Int32) → Qr (9 + (x0 - 65)) h))) ∧ (¬ x0 < (69 : Int32) → (((191 : Int32) < x0 → w_Reader_shapeOf_L19 Qr 13 h) ∧ (¬ (191 : Int32) < x0 → w_Reader_shapeOf_L19 Qr 0 h))))


def w_Row_init (x0 : Nat) (x1 : Int32) (h : xb_H) (bc : Nat) (bs : Nat) (Qr : xb_H → Nat → Nat → Prop) : Prop :=
    xb_k h x0 = 2 ∧ ∀ h2 : xb_H, h2 = xb_I h x0 2 x1 → 1 ≤ bc ∧ 4 ≤ bs ∧ ∀ q3 : Nat, xb_k h2 q3 = 0 → ∀ h4 : xb_H, h4 = xb_new h2 q3 103 4 → ∀ h6 : xb_H, h6 = xb_P h4 x0 0 (some q3) → Qr h6 (bc - 1) (bs - 4)


def w_Row_at (x0 : Nat) (x1 : Int32) (x2 : Int32) (h : xb_H) (Qr : Int32 → xb_H → Prop) : Prop :=
    xb_k h x0 = 2 ∧ ∃ b2 : Nat, (xb_r h x0 0) = some b2 ∧ xb_k h b2 = 103 ∧ vp_in ((x1 * (xb_i h x0 2)) + x2) (xb_n h b2) ∧ Qr (Int64.toInt32 (xb_l h b2 (Int32.toNatClampNeg ((x1 * (xb_i h x0 2)) + x2)))) h


def w_Row_lines (x0 : Nat) (h : xb_H) (Qr : Int32 → xb_H → Prop) : Prop :=
    xb_k h x0 = 2 ∧ ¬ (xb_i h x0 2) = 0 ∧ Qr ((xb_i h x0 1) / (xb_i h x0 2)) h


def w_Row_longAt (x0 : Nat) (x1 : Int32) (x2 : Int32) (h : xb_H) (Qr : Int64 → xb_H → Prop) : Prop :=
    xb_k h x0 = 2 ∧ ∃ b2 : Nat, (xb_r h x0 0) = some b2 ∧ xb_k h b2 = 103 ∧ vp_in ((x1 * (xb_i h x0 2)) + x2) (xb_n h b2) ∧ Qr (xb_l h b2 (Int32.toNatClampNeg ((x1 * (xb_i h x0 2)) + x2))) h


def w_Row_setAt (x0 : Nat) (x1 : Int32) (x2 : Int32) (x3 : Int64) (h : xb_H) (Qr : xb_H → Prop) : Prop :=
    xb_k h x0 = 2 ∧ ∃ b2 : Nat, (xb_r h x0 0) = some b2 ∧ xb_k h b2 = 103 ∧ vp_in ((x1 * (xb_i h x0 2)) + x2) (xb_n h b2) ∧ ∀ h5 : xb_H, h5 = xb_L h b2 (Int32.toNatClampNeg ((x1 * (xb_i h x0 2)) + x2)) x3 → Qr h5


def w_StackModule_constantAt_L83 (Qr : Int64 → xb_H → Prop) (y0 : Int64) (h : xb_H) : Prop :=
    Qr y0 h

def w_StackModule_constantAt_L40 (Qr : Int64 → xb_H → Prop) (x2 : Int32) (h : xb_H) : Prop :=
    Qr ((Int32.toInt64 x2) &&& 4294967295) h

def w_StackModule_constantAt (x0 : Nat) (x1 : Int32) (h : xb_H) (Qr : Int64 → xb_H → Prop) : Prop :=
    xb_k h x0 = 3 ∧ ∃ b2 : Nat, (xb_r h x0 1) = some b2 ∧ xb_k h b2 = 102 ∧ vp_in (x1 + 1) (xb_n h b2) ∧ ∀ v5 : Int32, v5 = (xb_i h b2 (Int32.toNatClampNeg (x1 + 1))) → ∃ b6 : Nat, (xb_r h x0 0) = some b6 ∧ xb_k h b6 = 100 ∧ vp_in x1 (xb_n h b6) ∧ (((xb_i h b6 (Int32.toNatClampNeg x1)) = 65 → w_StackModule_constantAt_L40 Qr v5 h) ∧ ((xb_i h b6 (Int32.toNatClampNeg x1)) = 67 → w_StackModule_constantAt_L40 Qr v5 h) ∧ (¬ (xb_i h b6 (Int32.toNatClampNeg x1)) = 65 → ¬ (xb_i h b6 (Int32.toNatClampNeg x1)) = 67 → ∃ b11 : Nat, (xb_r h x0 1) = some b11 ∧ xb_k h b11 = 102 ∧ vp_in x1 (xb_n h b11) ∧ ((¬ (xb_i h b11 (Int32.toNatClampNeg x1)) = (x1 + 2) → ∃ b15 : Nat, (xb_r h x0 1) = some b15 ∧ xb_k h b15 = 102 ∧ vp_in (x1 + 2) (xb_n h b15) ∧ w_StackModule_constantAt_L83 Qr ((xb_lshl (Int32.toInt64 (xb_i h b15 (Int32.toNatClampNeg (x1 + 2)))) 32) ||| ((Int32.toInt64 v5) &&& 4294967295)) h) ∧ ((xb_i h b11 (Int32.toNatClampNeg x1)) = (x1 + 2) → w_StackModule_constantAt_L83 Qr (Int32.toInt64 v5) h))))


def w_StackModule_fail (x0 : Nat) (x1 : Int32) (x2 : Int32) (h : xb_H) (bc : Nat) (bs : Nat) (Qr : xb_H → Nat → Nat → Prop) (Qt : String → xb_H → Nat → Nat → Prop) : Prop :=
    xb_k h x0 = 3 ∧ ∀ h2 : xb_H, h2 = xb_I h x0 17 x1 → ∀ h3 : xb_H, h3 = xb_I h2 x0 18 x2 → 1 ≤ bc ∧ 6 ≤ bs ∧ Qt "java/lang/IllegalArgumentException" h3 (bc - 1) (bs - 6)


def w_StackModule_sameBytes_L3 (Qr : Int32 → xb_H → Prop) : Nat → Nat → Int32 → Nat → Int32 → Int32 → Int32 → xb_H → Prop
  | 0, _, _, _, _, _, _, _ => False
  | n9 + 1, x0, x1, x2, x3, x4, x5, h =>
    ((x4 ≤ x5 → Qr 1 h) ∧ (¬ x4 ≤ x5 → xb_k h x0 = 100 ∧ vp_in (x1 + x5) (xb_n h x0) ∧ xb_k h x2 = 100 ∧ vp_in (x3 + x5) (xb_n h x2) ∧ (((xb_i h x0 (Int32.toNatClampNeg (x1 + x5))) = (xb_i h x2 (Int32.toNatClampNeg (x3 + x5))) → w_StackModule_sameBytes_L3 Qr n9 x0 x1 x2 x3 x4 (x5 + 1) h) ∧ (¬ (xb_i h x0 (Int32.toNatClampNeg (x1 + x5))) = (xb_i h x2 (Int32.toNatClampNeg (x3 + x5))) → Qr 0 h))))

def w_StackModule_sameBytes (x0 : Nat) (x1 : Int32) (x2 : Nat) (x3 : Int32) (x4 : Int32) (h : xb_H) (Qr : Int32 → xb_H → Prop) : Prop :=
    (∃ n8 : Nat, w_StackModule_sameBytes_L3 Qr n8 x0 x1 x2 x3 x4 0 h)

def xb_cHN : List Int32 := [104, 111, 115, 116]
def w_StackModule_sameBytesS_L3 (Qr : Int32 → xb_H → Prop) : Nat → Nat → Int32 → Int32 → Int32 → Int32 → xb_H → Prop
  | 0, _, _, _, _, _, _ => False
  | n9 + 1, x0, x1, x3, x4, x5, h =>
    ((x4 ≤ x5 → Qr 1 h) ∧ (¬ x4 ≤ x5 → xb_k h x0 = 100 ∧ vp_in (x1 + x5) (xb_n h x0) ∧ vp_in (x3 + x5) 4 ∧ (((xb_i h x0 (Int32.toNatClampNeg (x1 + x5))) = (xb_cHN.getD (Int32.toNatClampNeg (x3 + x5)) 0) → w_StackModule_sameBytesS_L3 Qr n9 x0 x1 x3 x4 (x5 + 1) h) ∧ (¬ (xb_i h x0 (Int32.toNatClampNeg (x1 + x5))) = (xb_cHN.getD (Int32.toNatClampNeg (x3 + x5)) 0) → Qr 0 h))))

def w_StackModule_sameBytesS (x0 : Nat) (x1 : Int32) (x3 : Int32) (x4 : Int32) (h : xb_H) (Qr : Int32 → xb_H → Prop) : Prop :=
    (∃ n8 : Nat, w_StackModule_sameBytesS_L3 Qr n8 x0 x1 x3 x4 0 h)



def w_Table_init (x0 : Nat) (x1 : Int32) (x2 : Int32) (x3 : Int64) (h : xb_H) (Qr : xb_H → Prop) : Prop :=
    xb_k h x0 = 12 ∧ ∀ h2 : xb_H, h2 = xb_I h x0 0 x1 → ∀ h3 : xb_H, h3 = xb_I h2 x0 1 x2 → ∀ h4 : xb_H, h4 = xb_L h3 x0 2 x3 → Qr h4


def w_Whole_divideShort (x0 : Int32) (x1 : Int32) (x2 : Int32) (h : xb_H) (Qr : Int32 → xb_H → Prop) : Prop :=
    ∀ v1 : Int64, v1 = ((Int32.toInt64 x1) &&& 4294967295) → ∀ v2 : Int64, v2 = ((Int32.toInt64 x2) &&& 4294967295) → ((x0 = 3 → ¬ x2 = 0 ∧ Qr (x1 / x2) h) ∧ (x0 = 4 → ¬ v2 = 0 ∧ Qr (Int64.toInt32 (v1 / v2)) h) ∧ (x0 = 5 → ¬ x2 = 0 ∧ Qr (x1 - x1 / x2 * x2) h) ∧ (¬ x0 = 3 → ¬ x0 = 4 → ¬ x0 = 5 → ¬ v2 = 0 ∧ Qr (Int64.toInt32 (v1 - v1 / v2 * v2)) h))


def w_Whole_isBelow_L19 (Qr : Int32 → xb_H → Prop) (y0 : Int32) (h : xb_H) : Prop :=
    (y0 = 0 ∨ y0 = 1) ∧ Qr y0 h

def w_Whole_isBelow (x0 : Int64) (x2 : Int64) (h : xb_H) (Qr : Int32 → xb_H → Prop) : Prop :=
    (((x2 ^^^ (-9223372036854775808)) ≤ (x0 ^^^ (-9223372036854775808)) → w_Whole_isBelow_L19 Qr 0 h) ∧ (¬ (x2 ^^^ (-9223372036854775808)) ≤ (x0 ^^^ (-9223372036854775808)) → w_Whole_isBelow_L19 Qr 1 h))


def w_Whole_quotient_L74 (Qr : Int64 → xb_H → Prop) (y0 : Int64) (h : xb_H) : Prop :=
    Qr y0 h

def w_Whole_quotient_L65 (Qr : Int64 → xb_H → Prop) (x4 : Int64) (h : xb_H) : Prop :=
    w_Whole_quotient_L74 Qr (x4 + 1) h

def w_Whole_quotient_L23 (Qr : Int64 → xb_H → Prop) (y0 : Int64) (h : xb_H) : Prop :=
    Qr y0 h

def w_Whole_quotient_L22 (Qr : Int64 → xb_H → Prop) (h : xb_H) : Prop :=
    w_Whole_quotient_L23 Qr 0 h

def w_Whole_quotient (x0 : Int64) (x2 : Int64) (h : xb_H) (Qr : Int64 → xb_H → Prop) : Prop :=
    (((0 : Int64) < x2 → ((x0 < (0 : Int64) → ¬ x2 = 0 ∧ ∀ v4 : Int64, v4 = (xb_lshl ((xb_lushr x0 1) / x2) 1) → ∀ v5 : Int64, v5 = (x0 - (v4 * x2)) → ((v5 < (0 : Int64) → w_Whole_quotient_L65 Qr v4 h) ∧ (¬ v5 < (0 : Int64) → ((v5 < x2 → w_Whole_quotient_L74 Qr v4 h) ∧ (¬ v5 < x2 → w_Whole_quotient_L65 Qr v4 h))))) ∧ (¬ x0 < (0 : Int64) → ¬ x2 = 0 ∧ Qr (x0 / x2) h))) ∧ (¬ (0 : Int64) < x2 → (((0 : Int64) ≤ x0 → w_Whole_quotient_L22 Qr h) ∧ (¬ (0 : Int64) ≤ x0 → ((x0 < x2 → w_Whole_quotient_L22 Qr h) ∧ (¬ x0 < x2 → w_Whole_quotient_L23 Qr 1 h))))))


def w_Whole_trapOf_L31 (Qr : Int32 → xb_H → Prop) (y0 : Int32) (h : xb_H) : Prop :=
    Qr y0 h

def w_Whole_trapOf_L30 (Qr : Int32 → xb_H → Prop) (h : xb_H) : Prop :=
    w_Whole_trapOf_L31 Qr 0 h

def w_Whole_trapOf_L17 (Qr : Int32 → xb_H → Prop) (x0 : Int32) (x2 : Int32) (h : xb_H) : Prop :=
    ((¬ x0 = (3 : Int32) → w_Whole_trapOf_L30 Qr h) ∧ (x0 = (3 : Int32) → ((x2 = (0 : Int32) → w_Whole_trapOf_L30 Qr h) ∧ (¬ x2 = (0 : Int32) → w_Whole_trapOf_L31 Qr 4 h))))

def w_Whole_trapOf (x0 : Int32) (x1 : Int32) (x2 : Int32) (h : xb_H) (Qr : Int32 → xb_H → Prop) : Prop :=
    ((x0 < (3 : Int32) → w_Whole_trapOf_L17 Qr x0 x2 h) ∧ (¬ x0 < (3 : Int32) → (((6 : Int32) < x0 → w_Whole_trapOf_L17 Qr x0 x2 h) ∧ (¬ (6 : Int32) < x0 → ((x1 = (0 : Int32) → w_Whole_trapOf_L17 Qr x0 x2 h) ∧ (¬ x1 = (0 : Int32) → Qr 3 h))))))


def w_Whole_zerosAbove_L60 (Qr : Int32 → xb_H → Prop) (y0 : Int32) (h : xb_H) : Prop :=
    Qr y0 h

def w_Whole_zerosAbove_L38 (K9 : Int64 → Int64 → Int32 → Int32 → xb_H → Prop) (Qr : Int32 → xb_H → Prop) (x0 : Int64) (x2 : Int64) (x4 : Int32) (x5 : Int32) (h : xb_H) : Prop :=
    ∀ v1 : Int32, v1 = (x5 >>> (1 &&& 31)) → K9 x0 x2 x4 v1 h

def w_Whole_zerosAbove_L9 (Qr : Int32 → xb_H → Prop) : Nat → Int64 → Int64 → Int32 → Int32 → xb_H → Prop
  | 0, _, _, _, _, _ => False
  | n9 + 1, x0, x2, x4, x5, h =>
    ((x5 ≤ (0 : Int32) → ((¬ x0 = (0 : Int64) → w_Whole_zerosAbove_L60 Qr x4 h) ∧ (x0 = (0 : Int64) → w_Whole_zerosAbove_L60 Qr 64 h))) ∧ (¬ x5 ≤ (0 : Int32) → ((¬ (xb_lushr x2 (64 - x5)) = (0 : Int64) → w_Whole_zerosAbove_L38 (w_Whole_zerosAbove_L9 Qr n9) Qr x0 x2 x4 x5 h) ∧ ((xb_lushr x2 (64 - x5)) = (0 : Int64) → ∀ v4 : Int64, v4 = (xb_lshl x2 x5) → ∀ v5 : Int32, v5 = (x4 + x5) → w_Whole_zerosAbove_L38 (w_Whole_zerosAbove_L9 Qr n9) Qr x0 v4 v5 x5 h))))

def w_Whole_zerosAbove (x0 : Int64) (h : xb_H) (Qr : Int32 → xb_H → Prop) : Prop :=
    (∃ n8 : Nat, w_Whole_zerosAbove_L9 Qr n8 x0 x0 0 32 h)


def w_World_refuse (x0 : Nat) (x1 : Int32) (x2 : Int32) (h : xb_H) (Qr : Int32 → xb_H → Prop) : Prop :=
    xb_k h x0 = 7 ∧ ∀ h2 : xb_H, h2 = xb_I h x0 7 x1 → ∀ h3 : xb_H, h3 = xb_I h2 x0 8 x2 → Qr (-1) h3


def w_World_usedPages (x0 : Nat) (h : xb_H) (Qr : Int32 → xb_H → Prop) : Prop :=
    xb_k h x0 = 7 ∧ ∃ b2 : Nat, (xb_r h x0 5) = some b2 ∧ xb_k h b2 = 2 ∧ Qr ((xb_i h b2 1) / 8192) h


def w_M_accessBytes_L115 (Qr : Int32 → xb_H → Prop) (h : xb_H) : Prop :=
    Qr 1 h

def w_M_accessBytes_L113 (Qr : Int32 → xb_H → Prop) (h : xb_H) : Prop :=
    Qr 2 h

def w_M_accessBytes_L111 (Qr : Int32 → xb_H → Prop) (h : xb_H) : Prop :=
    Qr 4 h

def w_M_accessBytes_L108 (Qr : Int32 → xb_H → Prop) (h : xb_H) : Prop :=
    Qr 8 h

def w_M_accessBytes (x0 : Int32) (h : xb_H) (Qr : Int32 → xb_H → Prop) : Prop :=
    ((x0 = 40 → w_M_accessBytes_L111 Qr h) ∧ (x0 = 41 → w_M_accessBytes_L108 Qr h) ∧ (x0 = 42 → w_M_accessBytes_L111 Qr h) ∧ (x0 = 43 → w_M_accessBytes_L108 Qr h) ∧ (x0 = 44 → w_M_accessBytes_L115 Qr h) ∧ (x0 = 45 → w_M_accessBytes_L115 Qr h) ∧ (x0 = 46 → w_M_accessBytes_L113 Qr h) ∧ (x0 = 47 → w_M_accessBytes_L113 Qr h) ∧ (x0 = 48 → w_M_accessBytes_L115 Qr h) ∧ (x0 = 49 → w_M_accessBytes_L115 Qr h) ∧ (x0 = 50 → w_M_accessBytes_L113 Qr h) ∧ (x0 = 51 → w_M_accessBytes_L113 Qr h) ∧ (x0 = 52 → w_M_accessBytes_L111 Qr h) ∧ (x0 = 53 → w_M_accessBytes_L111 Qr h) ∧ (x0 = 54 → w_M_accessBytes_L111 Qr h) ∧ (x0 = 55 → w_M_accessBytes_L108 Qr h) ∧ (x0 = 56 → w_M_accessBytes_L111 Qr h) ∧ (x0 = 57 → w_M_accessBytes_L108 Qr h) ∧ (x0 = 58 → w_M_accessBytes_L115 Qr h) ∧ (x0 = 59 → w_M_accessBytes_L113 Qr h) ∧ (x0 = 60 → w_M_accessBytes_L115 Qr h) ∧ (x0 = 61 → w_M_accessBytes_L113 Qr h) ∧ (x0 = 62 → w_M_accessBytes_L111 Qr h) ∧ (¬ x0 = 40 → ¬ x0 = 41 → ¬ x0 = 42 → ¬ x0 = 43 → ¬ x0 = 44 → ¬ x0 = 45 → ¬ x0 = 46 → ¬ x0 = 47 → ¬ x0 = 48 → ¬ x0 = 49 → ¬ x0 = 50 → ¬ x0 = 51 → ¬ x0 = 52 → ¬ x0 = 53 → ¬ x0 = 54 → ¬ x0 = 55 → ¬ x0 = 56 → ¬ x0 = 57 → ¬ x0 = 58 → ¬ x0 = 59 → ¬ x0 = 60 → ¬ x0 = 61 → ¬ x0 = 62 → w_M_accessBytes_L115 Qr h))


def w_M_accessType_L77 (Qr : Int32 → xb_H → Prop) (y0 : Int32) (h : xb_H) : Prop :=
    Qr y0 h

def w_M_accessType_L70 (Qr : Int32 → xb_H → Prop) (h : xb_H) : Prop :=
    w_M_accessType_L77 Qr 124 h

def w_M_accessType_L53 (Qr : Int32 → xb_H → Prop) (h : xb_H) : Prop :=
    w_M_accessType_L77 Qr 125 h

def w_M_accessType_L36 (Qr : Int32 → xb_H → Prop) (h : xb_H) : Prop :=
    w_M_accessType_L77 Qr 127 h

def w_M_accessType_L18 (Qr : Int32 → xb_H → Prop) (x0 : Int32) (h : xb_H) : Prop :=
    ((x0 = (54 : Int32) → w_M_accessType_L36 Qr h) ∧ (¬ x0 = (54 : Int32) → ((x0 = (58 : Int32) → w_M_accessType_L36 Qr h) ∧ (¬ x0 = (58 : Int32) → ((¬ x0 = (59 : Int32) → ((x0 = (42 : Int32) → w_M_accessType_L53 Qr h) ∧ (¬ x0 = (42 : Int32) → ((¬ x0 = (56 : Int32) → ((x0 = (43 : Int32) → w_M_accessType_L70 Qr h) ∧ (¬ x0 = (43 : Int32) → ((¬ x0 = (57 : Int32) → w_M_accessType_L77 Qr 126 h) ∧ (x0 = (57 : Int32) → w_M_accessType_L70 Qr h))))) ∧ (x0 = (56 : Int32) → w_M_accessType_L53 Qr h))))) ∧ (x0 = (59 : Int32) → w_M_accessType_L36 Qr h))))))

def w_M_accessType (x0 : Int32) (h : xb_H) (Qr : Int32 → xb_H → Prop) : Prop :=
    ((x0 = (40 : Int32) → w_M_accessType_L36 Qr h) ∧ (¬ x0 = (40 : Int32) → ((x0 < (44 : Int32) → w_M_accessType_L18 Qr x0 h) ∧ (¬ x0 < (44 : Int32) → ((x0 ≤ (47 : Int32) → w_M_accessType_L36 Qr h) ∧ (¬ x0 ≤ (47 : Int32) → w_M_accessType_L18 Qr x0 h))))))


def w_M_add_L29 (Qr : xb_H → Prop) (x0 : Nat) (x3 : Int32) (y0 : Int64) (y1 : Int32) (y2 : Nat) (h : xb_H) : Prop :=
    xb_k h y2 = 103 ∧ vp_in y1 (xb_n h y2) ∧ ∀ h3 : xb_H, h3 = xb_L h y2 (Int32.toNatClampNeg y1) y0 → xb_k h3 x0 = 9 ∧ ∃ b5 : Nat, (xb_r h3 x0 75) = some b5 ∧ xb_k h3 b5 = 100 ∧ vp_in (xb_i h3 x0 76) (xb_n h3 b5) ∧ ∀ h8 : xb_H, h8 = xb_I h3 b5 (Int32.toNatClampNeg (xb_i h3 x0 76)) (vp_nar .byte ((Int32.toInt8 x3).toInt32)) → ∀ h9 : xb_H, h9 = xb_I h8 x0 76 ((xb_i h8 x0 76) + 1) → Qr h9

def w_M_add_L20 (Qr : xb_H → Prop) (x0 : Nat) (x1 : Int64) (x3 : Int32) (y0 : Int32) (y1 : Nat) (h : xb_H) : Prop :=
    w_M_add_L29 Qr x0 x3 (x1 &&& 4294967295) y0 y1 h

def w_M_add (x0 : Nat) (x1 : Int64) (x3 : Int32) (h : xb_H) (Qr : xb_H → Prop) : Prop :=
    xb_k h x0 = 9 ∧ ∃ b2 : Nat, (xb_r h x0 74) = some b2 ∧ ((x3 = (127 : Int32) → w_M_add_L20 Qr x0 x1 x3 (xb_i h x0 76) b2 h) ∧ (¬ x3 = (127 : Int32) → ((¬ x3 = (125 : Int32) → w_M_add_L29 Qr x0 x3 x1 (xb_i h x0 76) b2 h) ∧ (x3 = (125 : Int32) → w_M_add_L20 Qr x0 x1 x3 (xb_i h x0 76) b2 h))))


def w_M_begin (x0 : Nat) (x1 : Int32) (x2 : Int32) (x3 : Int32) (h : xb_H) (Qr : xb_H → Prop) : Prop :=
    xb_k h x0 = 9 ∧ ∃ b2 : Nat, (xb_r h x0 24) = some b2 ∧ xb_k h b2 = 102 ∧ vp_in (xb_i h x0 29) (xb_n h b2) ∧ ∀ h5 : xb_H, h5 = xb_I h b2 (Int32.toNatClampNeg (xb_i h x0 29)) x1 → ∃ b6 : Nat, (xb_r h5 x0 25) = some b6 ∧ xb_k h5 b6 = 102 ∧ vp_in (xb_i h5 x0 29) (xb_n h5 b6) ∧ ∀ h9 : xb_H, h9 = xb_I h5 b6 (Int32.toNatClampNeg (xb_i h5 x0 29)) x2 → ∃ b10 : Nat, (xb_r h9 x0 26) = some b10 ∧ xb_k h9 b10 = 102 ∧ vp_in (xb_i h9 x0 29) (xb_n h9 b10) ∧ ∀ h13 : xb_H, h13 = xb_I h9 b10 (Int32.toNatClampNeg (xb_i h9 x0 29)) x3 → ∃ b14 : Nat, (xb_r h13 x0 27) = some b14 ∧ xb_k h13 b14 = 102 ∧ vp_in (xb_i h13 x0 29) (xb_n h13 b14) ∧ ∀ h17 : xb_H, h17 = xb_I h13 b14 (Int32.toNatClampNeg (xb_i h13 x0 29)) (xb_i h13 x0 22) → ∃ b18 : Nat, (xb_r h17 x0 28) = some b18 ∧ xb_k h17 b18 = 101 ∧ vp_in (xb_i h17 x0 29) (xb_n h17 b18) ∧ ∀ h21 : xb_H, h21 = xb_I h17 b18 (Int32.toNatClampNeg (xb_i h17 x0 29)) (vp_nar .boolean 0) → ∀ h22 : xb_H, h22 = xb_I h21 x0 29 ((xb_i h21 x0 29) + 1) → Qr h22


def w_M_behindLead_L66 (Qr : Int32 → xb_H → Prop) (y0 : Int32) (h : xb_H) : Prop :=
    Qr y0 h

def w_M_behindLead_L65 (Qr : Int32 → xb_H → Prop) (h : xb_H) : Prop :=
    w_M_behindLead_L66 Qr (-1) h

def w_M_behindLead_L47 (Qr : Int32 → xb_H → Prop) (x0 : Int32) (h : xb_H) : Prop :=
    ((x0 < (240 : Int32) → w_M_behindLead_L65 Qr h) ∧ (¬ x0 < (240 : Int32) → (((245 : Int32) ≤ x0 → w_M_behindLead_L65 Qr h) ∧ (¬ (245 : Int32) ≤ x0 → w_M_behindLead_L66 Qr 3 h))))

def w_M_behindLead_L29 (Qr : Int32 → xb_H → Prop) (x0 : Int32) (h : xb_H) : Prop :=
    ((x0 < (224 : Int32) → w_M_behindLead_L47 Qr x0 h) ∧ (¬ x0 < (224 : Int32) → (((240 : Int32) ≤ x0 → w_M_behindLead_L47 Qr x0 h) ∧ (¬ (240 : Int32) ≤ x0 → w_M_behindLead_L66 Qr 2 h))))

def w_M_behindLead (x0 : Int32) (h : xb_H) (Qr : Int32 → xb_H → Prop) : Prop :=
    (((128 : Int32) ≤ x0 → ((x0 < (194 : Int32) → w_M_behindLead_L29 Qr x0 h) ∧ (¬ x0 < (194 : Int32) → (((224 : Int32) ≤ x0 → w_M_behindLead_L29 Qr x0 h) ∧ (¬ (224 : Int32) ≤ x0 → w_M_behindLead_L66 Qr 1 h))))) ∧ (¬ (128 : Int32) ≤ x0 → w_M_behindLead_L66 Qr 0 h))


def w_M_calls_L27 (Qr : Int32 → xb_H → Prop) (y0 : Int32) (h : xb_H) : Prop :=
    Qr y0 h

def w_M_calls_L26 (Qr : Int32 → xb_H → Prop) (h : xb_H) : Prop :=
    w_M_calls_L27 Qr 0 h

def w_M_calls (x0 : Nat) (h : xb_H) (Qr : Int32 → xb_H → Prop) : Prop :=
    xb_k h x0 = 9 ∧ ∀ h2 : xb_H, h2 = xb_I h x0 0 0 → (((xb_i h2 x0 62) = (0 : Int32) → w_M_calls_L26 Qr h2) ∧ (¬ (xb_i h2 x0 62) = (0 : Int32) → (((xb_i h2 x0 63) = (0 : Int32) → w_M_calls_L26 Qr h2) ∧ (¬ (xb_i h2 x0 63) = (0 : Int32) → w_M_calls_L27 Qr (xb_i h2 x0 68) h2))))


def w_M_clear (x0 : Nat) (h : xb_H) (Qr : Int32 → xb_H → Prop) : Prop :=
    xb_k h x0 = 9 ∧ ∀ h2 : xb_H, h2 = xb_I h x0 0 0 → ∀ v3 : Int32, v3 = (xb_i h2 x0 88) → ∀ h4 : xb_H, h4 = xb_I h2 x0 88 0 → Qr v3 h4


def w_M_dead (x0 : Nat) (h : xb_H) (Qr : xb_H → Prop) : Prop :=
    xb_k h x0 = 9 ∧ ∃ b2 : Nat, (xb_r h x0 27) = some b2 ∧ xb_k h b2 = 102 ∧ vp_in ((xb_i h x0 29) - 1) (xb_n h b2) ∧ ∀ h5 : xb_H, h5 = xb_I h x0 22 (xb_i h b2 (Int32.toNatClampNeg ((xb_i h x0 29) - 1))) → ∃ b6 : Nat, (xb_r h5 x0 28) = some b6 ∧ xb_k h5 b6 = 101 ∧ vp_in ((xb_i h5 x0 29) - 1) (xb_n h5 b6) ∧ ∀ h9 : xb_H, h9 = xb_I h5 b6 (Int32.toNatClampNeg ((xb_i h5 x0 29) - 1)) (vp_nar .boolean 1) → Qr h9


def w_M_end_L37 (Qr : xb_H → Prop) (y0 : Int32) (y1 : Nat) (h : xb_H) : Prop :=
    xb_k h y1 = 9 ∧ ∀ h2 : xb_H, h2 = xb_I h y1 2 y0 → Qr h2

def w_M_end_L18 (Qr : xb_H → Prop) (x0 : Nat) (x1 : Int32) (y0 : Int32) (y1 : Nat) (h : xb_H) : Prop :=
    xb_k h y1 = 9 ∧ ∀ h2 : xb_H, h2 = xb_I h y1 0 y0 → xb_k h2 x0 = 9 ∧ (((xb_i h2 x0 0) ≤ (0 : Int32) → w_M_end_L37 Qr x1 x0 h2) ∧ (¬ (xb_i h2 x0 0) ≤ (0 : Int32) → w_M_end_L37 Qr (xb_i h2 x0 2) x0 h2))

def w_M_end_L13 (Qr : xb_H → Prop) (x0 : Nat) (x1 : Int32) (y0 : Nat) (h : xb_H) : Prop :=
    w_M_end_L18 Qr x0 x1 1 y0 h

def w_M_end (x0 : Nat) (x1 : Int32) (h : xb_H) (Qr : xb_H → Prop) : Prop :=
    ((x1 < (0 : Int32) → w_M_end_L13 Qr x0 x1 x0 h) ∧ (¬ x1 < (0 : Int32) → xb_k h x0 = 9 ∧ ((x1 ≤ (xb_i h x0 2) → w_M_end_L18 Qr x0 x1 0 x0 h) ∧ (¬ x1 ≤ (xb_i h x0 2) → w_M_end_L13 Qr x0 x1 x0 h))))


def w_M_fail_L22 (Qr : xb_H → Prop) (h : xb_H) : Prop :=
    Qr h

def w_M_fail (x0 : Nat) (x1 : Int32) (x2 : Int32) (h : xb_H) (Qr : xb_H → Prop) : Prop :=
    xb_k h x0 = 9 ∧ ((¬ (xb_i h x0 17) = (0 : Int32) → w_M_fail_L22 Qr h) ∧ ((xb_i h x0 17) = (0 : Int32) → ∀ h3 : xb_H, h3 = xb_I h x0 17 x1 → ∀ h4 : xb_H, h4 = xb_I h3 x0 18 (x2 - (xb_i h3 x0 14)) → w_M_fail_L22 Qr h4))


def w_M_fault_L35 (Qr : Int32 → xb_H → Prop) (y0 : Int32) (h : xb_H) : Prop :=
    Qr y0 h

def w_M_fault_L15 (Qr : Int32 → xb_H → Prop) (x0 : Nat) (x1 : Int32) (y0 : Int32) (y1 : Nat) (h : xb_H) : Prop :=
    xb_k h y1 = 9 ∧ ∀ h2 : xb_H, h2 = xb_I h y1 0 y0 → xb_k h2 x0 = 9 ∧ (((xb_i h2 x0 0) ≤ (0 : Int32) → ∃ b5 : Nat, (xb_r h2 x0 89) = some b5 ∧ xb_k h2 b5 = 102 ∧ vp_in x1 (xb_n h2 b5) ∧ w_M_fault_L35 Qr (xb_i h2 b5 (Int32.toNatClampNeg x1)) h2) ∧ (¬ (xb_i h2 x0 0) ≤ (0 : Int32) → w_M_fault_L35 Qr 0 h2))

def w_M_fault_L10 (Qr : Int32 → xb_H → Prop) (x0 : Nat) (x1 : Int32) (y0 : Nat) (h : xb_H) : Prop :=
    w_M_fault_L15 Qr x0 x1 0 y0 h

def w_M_fault (x0 : Nat) (x1 : Int32) (h : xb_H) (Qr : Int32 → xb_H → Prop) : Prop :=
    ((x1 = (0 : Int32) → w_M_fault_L10 Qr x0 x1 x0 h) ∧ (¬ x1 = (0 : Int32) → ((¬ x1 = (1 : Int32) → w_M_fault_L15 Qr x0 x1 1 x0 h) ∧ (x1 = (1 : Int32) → w_M_fault_L10 Qr x0 x1 x0 h))))


def w_M_feed_L89 (K36 : Nat → Int32 → Int32 → Int32 → Int32 → Int32 → Int32 → xb_H → Prop) (Qr : Int32 → xb_H → Prop) (x0 : Nat) (x1 : Int32) (x2 : Int32) (x3 : Int32) (x4 : Int32) (x5 : Int32) (x6 : Int32) (y0 : Int32) (h : xb_H) : Prop :=
    xb_k h x0 = 9 ∧ ∃ b2 : Nat, (xb_r h x0 1) = some b2 ∧ xb_k h b2 = 100 ∧ vp_in ((xb_i h x0 2) + x6) (xb_n h b2) ∧ ∀ h5 : xb_H, h5 = xb_I h b2 (Int32.toNatClampNeg ((xb_i h x0 2) + x6)) (vp_nar .byte ((Int32.toInt8 (y0 >>> ((24 - (8 * (x6 - x6 / 4 * 4))) &&& 31))).toInt32)) → K36 x0 x1 x2 x3 x4 x5 (x6 + 1) h5

def w_M_feed_L36 (Qr : Int32 → xb_H → Prop) : Nat → Nat → Int32 → Int32 → Int32 → Int32 → Int32 → Int32 → xb_H → Prop
  | 0, _, _, _, _, _, _, _, _ => False
  | n9 + 1, x0, x1, x2, x3, x4, x5, x6, h =>
    (((20 : Int32) ≤ x6 → xb_k h x0 = 9 ∧ ∀ h3 : xb_H, h3 = xb_I h x0 2 ((xb_i h x0 2) + 20) → Qr (xb_i h3 x0 2) h3) ∧ (¬ (20 : Int32) ≤ x6 → (((4 : Int32) ≤ x6 → (((8 : Int32) ≤ x6 → (((12 : Int32) ≤ x6 → (((16 : Int32) ≤ x6 → w_M_feed_L89 (w_M_feed_L36 Qr n9) Qr x0 x1 x2 x3 x4 x5 x6 x5 h) ∧ (¬ (16 : Int32) ≤ x6 → w_M_feed_L89 (w_M_feed_L36 Qr n9) Qr x0 x1 x2 x3 x4 x5 x6 x4 h))) ∧ (¬ (12 : Int32) ≤ x6 → w_M_feed_L89 (w_M_feed_L36 Qr n9) Qr x0 x1 x2 x3 x4 x5 x6 x3 h))) ∧ (¬ (8 : Int32) ≤ x6 → w_M_feed_L89 (w_M_feed_L36 Qr n9) Qr x0 x1 x2 x3 x4 x5 x6 x2 h))) ∧ (¬ (4 : Int32) ≤ x6 → w_M_feed_L89 (w_M_feed_L36 Qr n9) Qr x0 x1 x2 x3 x4 x5 x6 x1 h))))

def w_M_feed_L21 (Qr : Int32 → xb_H → Prop) (x0 : Nat) (x1 : Int32) (x2 : Int32) (x3 : Int32) (x4 : Int32) (x5 : Int32) (y0 : Int32) (y1 : Nat) (h : xb_H) : Prop :=
    xb_k h y1 = 9 ∧ ∀ h2 : xb_H, h2 = xb_I h y1 0 y0 → xb_k h2 x0 = 9 ∧ (((xb_i h2 x0 0) ≤ (0 : Int32) → (∃ n8 : Nat, w_M_feed_L36 Qr n8 x0 x1 x2 x3 x4 x5 0 h2)) ∧ (¬ (xb_i h2 x0 0) ≤ (0 : Int32) → Qr 0 h2))

def w_M_feed (x0 : Nat) (x1 : Int32) (x2 : Int32) (x3 : Int32) (x4 : Int32) (x5 : Int32) (h : xb_H) (Qr : Int32 → xb_H → Prop) : Prop :=
    xb_k h x0 = 9 ∧ ∃ b2 : Nat, (xb_r h x0 1) = some b2 ∧ xb_k h b2 = 100 ∧ ((((xb_i h x0 2) + 20) ≤ (nI (xb_n h b2)) → w_M_feed_L21 Qr x0 x1 x2 x3 x4 x5 0 x0 h) ∧ (¬ ((xb_i h x0 2) + 20) ≤ (nI (xb_n h b2)) → w_M_feed_L21 Qr x0 x1 x2 x3 x4 x5 1 x0 h))


def w_M_go (x0 : Nat) (x1 : Int32) (x2 : Int32) (h : xb_H) (Qr : xb_H → Prop) : Prop :=
    xb_k h x0 = 9 ∧ ∃ b2 : Nat, (xb_r h x0 6) = some b2 ∧ xb_k h b2 = 102 ∧ vp_in x1 (xb_n h b2) ∧ ∀ h5 : xb_H, h5 = xb_I h x0 14 (xb_i h b2 (Int32.toNatClampNeg x1)) → ∀ h6 : xb_H, h6 = xb_I h5 x0 15 x2 → ∃ b7 : Nat, (xb_r h6 x0 7) = some b7 ∧ xb_k h6 b7 = 102 ∧ vp_in x1 (xb_n h6 b7) ∧ ∀ h10 : xb_H, h10 = xb_I h6 x0 16 ((xb_i h6 x0 14) + (xb_i h6 b7 (Int32.toNatClampNeg x1))) → Qr h10


def w_M_instanceNamed_L81 (K7 : Nat → Int32 → Int32 → Int32 → xb_H → Prop) (Qr : Int32 → xb_H → Prop) (x0 : Nat) (x1 : Int32) (x2 : Int32) (x3 : Int32) (x4 : Int32) (h : xb_H) : Prop :=
    ((x4 = (0 : Int32) → K7 x0 x1 x2 (x3 + (-1)) h) ∧ (¬ x4 = (0 : Int32) → xb_k h x0 = 9 ∧ ∃ b3 : Nat, (xb_r h x0 41) = some b3 ∧ xb_k h b3 = 102 ∧ vp_in x3 (xb_n h b3) ∧ Qr (xb_i h b3 (Int32.toNatClampNeg x3)) h))

def w_M_instanceNamed_L73 (K7 : Nat → Int32 → Int32 → Int32 → xb_H → Prop) (K31 : Nat → Int32 → Int32 → Int32 → Int32 → Int32 → xb_H → Prop) (Qr : Int32 → xb_H → Prop) (x0 : Nat) (x1 : Int32) (x2 : Int32) (x3 : Int32) (x5 : Int32) (y0 : Int32) (h : xb_H) : Prop :=
    K31 x0 x1 x2 x3 y0 (x5 + 1) h

def w_M_instanceNamed_L31 (K7 : Nat → Int32 → Int32 → Int32 → xb_H → Prop) (Qr : Int32 → xb_H → Prop) : Nat → Nat → Int32 → Int32 → Int32 → Int32 → Int32 → xb_H → Prop
  | 0, _, _, _, _, _, _, _ => False
  | n9 + 1, x0, x1, x2, x3, x4, x5, h =>
    ((x2 ≤ x5 → w_M_instanceNamed_L81 K7 Qr x0 x1 x2 x3 x4 h) ∧ (¬ x2 ≤ x5 → ((x4 = (0 : Int32) → w_M_instanceNamed_L81 K7 Qr x0 x1 x2 x3 x4 h) ∧ (¬ x4 = (0 : Int32) → xb_k h x0 = 9 ∧ ∃ b4 : Nat, (xb_r h x0 3) = some b4 ∧ ∃ b5 : Nat, (xb_r h x0 39) = some b5 ∧ xb_k h b5 = 102 ∧ vp_in x3 (xb_n h b5) ∧ xb_k h b4 = 100 ∧ vp_in ((xb_i h b5 (Int32.toNatClampNeg x3)) + x5) (xb_n h b4) ∧ ∃ b10 : Nat, (xb_r h x0 3) = some b10 ∧ xb_k h b10 = 100 ∧ vp_in (x1 + x5) (xb_n h b10) ∧ ((¬ (xb_i h b4 (Int32.toNatClampNeg ((xb_i h b5 (Int32.toNatClampNeg x3)) + x5))) = (xb_i h b10 (Int32.toNatClampNeg (x1 + x5))) → w_M_instanceNamed_L73 K7 (w_M_instanceNamed_L31 K7 Qr n9) Qr x0 x1 x2 x3 x5 0 h) ∧ ((xb_i h b4 (Int32.toNatClampNeg ((xb_i h b5 (Int32.toNatClampNeg x3)) + x5))) = (xb_i h b10 (Int32.toNatClampNeg (x1 + x5))) → w_M_instanceNamed_L73 K7 (w_M_instanceNamed_L31 K7 Qr n9) Qr x0 x1 x2 x3 x5 1 h))))))

def w_M_instanceNamed_L26 (K7 : Nat → Int32 → Int32 → Int32 → xb_H → Prop) (Qr : Int32 → xb_H → Prop) (x0 : Nat) (x1 : Int32) (x2 : Int32) (x3 : Int32) (y0 : Int32) (h : xb_H) : Prop :=
    (∃ n8 : Nat, w_M_instanceNamed_L31 K7 Qr n8 x0 x1 x2 x3 y0 0 h)

def w_M_instanceNamed_L7 (Qr : Int32 → xb_H → Prop) : Nat → Nat → Int32 → Int32 → Int32 → xb_H → Prop
  | 0, _, _, _, _, _ => False
  | n9 + 1, x0, x1, x2, x3, h =>
    ((x3 < (0 : Int32) → Qr (-1) h) ∧ (¬ x3 < (0 : Int32) → xb_k h x0 = 9 ∧ ∃ b3 : Nat, (xb_r h x0 40) = some b3 ∧ xb_k h b3 = 102 ∧ vp_in x3 (xb_n h b3) ∧ ((¬ (xb_i h b3 (Int32.toNatClampNeg x3)) = x2 → w_M_instanceNamed_L26 (w_M_instanceNamed_L7 Qr n9) Qr x0 x1 x2 x3 0 h) ∧ ((xb_i h b3 (Int32.toNatClampNeg x3)) = x2 → w_M_instanceNamed_L26 (w_M_instanceNamed_L7 Qr n9) Qr x0 x1 x2 x3 1 h))))

def w_M_instanceNamed (x0 : Nat) (x1 : Int32) (x2 : Int32) (h : xb_H) (Qr : Int32 → xb_H → Prop) : Prop :=
    xb_k h x0 = 9 ∧ ∀ v2 : Int32, v2 = ((xb_i h x0 42) - 1) → (∃ n8 : Nat, w_M_instanceNamed_L7 Qr n8 x0 x1 x2 v2 h)


def w_M_isGroup_L170 (Qr : Int32 → xb_H → Prop) (y0 : Int32) (h : xb_H) : Prop :=
    (y0 = 0 ∨ y0 = 1) ∧ Qr y0 h

def w_M_isGroup_L169 (Qr : Int32 → xb_H → Prop) (h : xb_H) : Prop :=
    w_M_isGroup_L170 Qr 0 h

def w_M_isGroup_L165 (Qr : Int32 → xb_H → Prop) (h : xb_H) : Prop :=
    w_M_isGroup_L170 Qr 1 h

def w_M_isGroup_L149 (Qr : Int32 → xb_H → Prop) (x5 : Int32) (x6 : Int32) (h : xb_H) : Prop :=
    ((¬ x5 = (244 : Int32) → w_M_isGroup_L165 Qr h) ∧ (x5 = (244 : Int32) → (((143 : Int32) < x6 → w_M_isGroup_L169 Qr h) ∧ (¬ (143 : Int32) < x6 → w_M_isGroup_L165 Qr h))))

def w_M_isGroup_L133 (Qr : Int32 → xb_H → Prop) (x5 : Int32) (x6 : Int32) (h : xb_H) : Prop :=
    ((¬ x5 = (240 : Int32) → w_M_isGroup_L149 Qr x5 x6 h) ∧ (x5 = (240 : Int32) → ((x6 < (144 : Int32) → w_M_isGroup_L169 Qr h) ∧ (¬ x6 < (144 : Int32) → w_M_isGroup_L149 Qr x5 x6 h))))

def w_M_isGroup_L117 (Qr : Int32 → xb_H → Prop) (x5 : Int32) (x6 : Int32) (h : xb_H) : Prop :=
    ((¬ x5 = (237 : Int32) → w_M_isGroup_L133 Qr x5 x6 h) ∧ (x5 = (237 : Int32) → (((159 : Int32) < x6 → w_M_isGroup_L169 Qr h) ∧ (¬ (159 : Int32) < x6 → w_M_isGroup_L133 Qr x5 x6 h))))

def w_M_isGroup_L94 (Qr : Int32 → xb_H → Prop) (x4 : Int32) (x5 : Int32) (y0 : Int32) (h : xb_H) : Prop :=
    ((x4 = (0 : Int32) → w_M_isGroup_L169 Qr h) ∧ (¬ x4 = (0 : Int32) → ((¬ x5 = (224 : Int32) → w_M_isGroup_L117 Qr x5 y0 h) ∧ (x5 = (224 : Int32) → ((y0 < (160 : Int32) → w_M_isGroup_L169 Qr h) ∧ (¬ y0 < (160 : Int32) → w_M_isGroup_L117 Qr x5 y0 h))))))

def w_M_isGroup_L54 (K19 : Nat → Int32 → Int32 → Int32 → Int32 → xb_H → Prop) (Qr : Int32 → xb_H → Prop) (x0 : Nat) (x1 : Int32) (x2 : Int32) (x5 : Int32) (y0 : Int32) (h : xb_H) : Prop :=
    K19 x0 x1 x2 y0 (x5 + 1) h

def w_M_isGroup_L53 (K19 : Nat → Int32 → Int32 → Int32 → Int32 → xb_H → Prop) (Qr : Int32 → xb_H → Prop) (x0 : Nat) (x1 : Int32) (x2 : Int32) (x5 : Int32) (h : xb_H) : Prop :=
    w_M_isGroup_L54 K19 Qr x0 x1 x2 x5 0 h

def w_M_isGroup_L19 (Qr : Int32 → xb_H → Prop) : Nat → Nat → Int32 → Int32 → Int32 → Int32 → xb_H → Prop
  | 0, _, _, _, _, _, _ => False
  | n9 + 1, x0, x1, x2, x4, x5, h =>
    ((x2 < x5 → xb_k h x0 = 9 ∧ ∃ b3 : Nat, (xb_r h x0 3) = some b3 ∧ xb_k h b3 = 100 ∧ vp_in x1 (xb_n h b3) ∧ ∀ v6 : Int32, v6 = ((xb_i h b3 (Int32.toNatClampNeg x1)) &&& 255) → ((x2 ≤ (0 : Int32) → w_M_isGroup_L94 Qr x4 v6 0 h) ∧ (¬ x2 ≤ (0 : Int32) → ∃ b8 : Nat, (xb_r h x0 3) = some b8 ∧ xb_k h b8 = 100 ∧ vp_in (x1 + 1) (xb_n h b8) ∧ w_M_isGroup_L94 Qr x4 v6 ((xb_i h b8 (Int32.toNatClampNeg (x1 + 1))) &&& 255) h))) ∧ (¬ x2 < x5 → ((x4 = (0 : Int32) → w_M_isGroup_L53 (w_M_isGroup_L19 Qr n9) Qr x0 x1 x2 x5 h) ∧ (¬ x4 = (0 : Int32) → xb_k h x0 = 9 ∧ ∃ b13 : Nat, (xb_r h x0 3) = some b13 ∧ xb_k h b13 = 100 ∧ vp_in (x1 + x5) (xb_n h b13) ∧ ((¬ ((xb_i h b13 (Int32.toNatClampNeg (x1 + x5))) &&& 192) = (128 : Int32) → w_M_isGroup_L53 (w_M_isGroup_L19 Qr n9) Qr x0 x1 x2 x5 h) ∧ (((xb_i h b13 (Int32.toNatClampNeg (x1 + x5))) &&& 192) = (128 : Int32) → w_M_isGroup_L54 (w_M_isGroup_L19 Qr n9) Qr x0 x1 x2 x5 1 h))))))

def w_M_isGroup_L11 (Qr : Int32 → xb_H → Prop) (h : xb_H) : Prop :=
    Qr 0 h

def w_M_isGroup (x0 : Nat) (x1 : Int32) (x2 : Int32) (x3 : Int32) (h : xb_H) (Qr : Int32 → xb_H → Prop) : Prop :=
    ((x2 < (0 : Int32) → w_M_isGroup_L11 Qr h) ∧ (¬ x2 < (0 : Int32) → (((x1 + x2) < x3 → (∃ n8 : Nat, w_M_isGroup_L19 Qr n8 x0 x1 x2 1 1 h)) ∧ (¬ (x1 + x2) < x3 → w_M_isGroup_L11 Qr h))))


def w_M_isHost_L60 (Qr : Int32 → xb_H → Prop) (y0 : Int32) (h : xb_H) : Prop :=
    (y0 = 0 ∨ y0 = 1) ∧ Qr y0 h

def w_M_isHost_L59 (Qr : Int32 → xb_H → Prop) (h : xb_H) : Prop :=
    w_M_isHost_L60 Qr 0 h

def w_M_isHost (x0 : Nat) (x1 : Int32) (x2 : Int32) (h : xb_H) (Qr : Int32 → xb_H → Prop) : Prop :=
    ((¬ x2 = (4 : Int32) → w_M_isHost_L59 Qr h) ∧ (x2 = (4 : Int32) → xb_k h x0 = 9 ∧ ∃ b3 : Nat, (xb_r h x0 3) = some b3 ∧ xb_k h b3 = 100 ∧ vp_in x1 (xb_n h b3) ∧ ((¬ (xb_i h b3 (Int32.toNatClampNeg x1)) = (104 : Int32) → w_M_isHost_L59 Qr h) ∧ ((xb_i h b3 (Int32.toNatClampNeg x1)) = (104 : Int32) → ∃ b7 : Nat, (xb_r h x0 3) = some b7 ∧ xb_k h b7 = 100 ∧ vp_in (x1 + 1) (xb_n h b7) ∧ ((¬ (xb_i h b7 (Int32.toNatClampNeg (x1 + 1))) = (111 : Int32) → w_M_isHost_L59 Qr h) ∧ ((xb_i h b7 (Int32.toNatClampNeg (x1 + 1))) = (111 : Int32) → ∃ b11 : Nat, (xb_r h x0 3) = some b11 ∧ xb_k h b11 = 100 ∧ vp_in (x1 + 2) (xb_n h b11) ∧ ((¬ (xb_i h b11 (Int32.toNatClampNeg (x1 + 2))) = (115 : Int32) → w_M_isHost_L59 Qr h) ∧ ((xb_i h b11 (Int32.toNatClampNeg (x1 + 2))) = (115 : Int32) → ∃ b15 : Nat, (xb_r h x0 3) = some b15 ∧ xb_k h b15 = 100 ∧ vp_in (x1 + 3) (xb_n h b15) ∧ ((¬ (xb_i h b15 (Int32.toNatClampNeg (x1 + 3))) = (116 : Int32) → w_M_isHost_L59 Qr h) ∧ ((xb_i h b15 (Int32.toNatClampNeg (x1 + 3))) = (116 : Int32) → w_M_isHost_L60 Qr 1 h))))))))))


def w_M_isInstance_L17 (Qr : Int32 → xb_H → Prop) (y0 : Int32) (h : xb_H) : Prop :=
    (y0 = 0 ∨ y0 = 1) ∧ Qr y0 h

def w_M_isInstance_L16 (Qr : Int32 → xb_H → Prop) (h : xb_H) : Prop :=
    w_M_isInstance_L17 Qr 0 h

def w_M_isInstance (x0 : Nat) (x1 : Int32) (h : xb_H) (Qr : Int32 → xb_H → Prop) : Prop :=
    ((x1 < (0 : Int32) → w_M_isInstance_L16 Qr h) ∧ (¬ x1 < (0 : Int32) → xb_k h x0 = 9 ∧ (((xb_i h x0 30) ≤ x1 → w_M_isInstance_L16 Qr h) ∧ (¬ (xb_i h x0 30) ≤ x1 → w_M_isInstance_L17 Qr 1 h))))


def w_M_isModule_L17 (Qr : Int32 → xb_H → Prop) (y0 : Int32) (h : xb_H) : Prop :=
    (y0 = 0 ∨ y0 = 1) ∧ Qr y0 h

def w_M_isModule_L16 (Qr : Int32 → xb_H → Prop) (h : xb_H) : Prop :=
    w_M_isModule_L17 Qr 0 h

def w_M_isModule (x0 : Nat) (x1 : Int32) (h : xb_H) (Qr : Int32 → xb_H → Prop) : Prop :=
    ((x1 < (0 : Int32) → w_M_isModule_L16 Qr h) ∧ (¬ x1 < (0 : Int32) → xb_k h x0 = 9 ∧ (((xb_i h x0 5) ≤ x1 → w_M_isModule_L16 Qr h) ∧ (¬ (xb_i h x0 5) ≤ x1 → w_M_isModule_L17 Qr 1 h))))


def w_M_isStep_L25 (Qr : Int32 → xb_H → Prop) (y0 : Int32) (h : xb_H) : Prop :=
    (y0 = 0 ∨ y0 = 1) ∧ Qr y0 h

def w_M_isStep_L20 (Qr : Int32 → xb_H → Prop) (h : xb_H) : Prop :=
    w_M_isStep_L25 Qr 1 h

def w_M_isStep_L11 (Qr : Int32 → xb_H → Prop) (x0 : Int32) (h : xb_H) : Prop :=
    ((x0 = (0 : Int32) → w_M_isStep_L20 Qr h) ∧ (¬ x0 = (0 : Int32) → ((¬ x0 = (4 : Int32) → w_M_isStep_L25 Qr 0 h) ∧ (x0 = (4 : Int32) → w_M_isStep_L20 Qr h))))

def w_M_isStep (x0 : Int32) (h : xb_H) (Qr : Int32 → xb_H → Prop) : Prop :=
    ((x0 ≤ (5 : Int32) → w_M_isStep_L11 Qr x0 h) ∧ (¬ x0 ≤ (5 : Int32) → ((¬ x0 = (11 : Int32) → w_M_isStep_L20 Qr h) ∧ (x0 = (11 : Int32) → w_M_isStep_L11 Qr x0 h))))


def w_M_isType_L17 (Qr : Int32 → xb_H → Prop) (y0 : Int32) (h : xb_H) : Prop :=
    (y0 = 0 ∨ y0 = 1) ∧ Qr y0 h

def w_M_isType_L16 (Qr : Int32 → xb_H → Prop) (h : xb_H) : Prop :=
    w_M_isType_L17 Qr 0 h

def w_M_isType (x0 : Int32) (h : xb_H) (Qr : Int32 → xb_H → Prop) : Prop :=
    ((x0 < (124 : Int32) → w_M_isType_L16 Qr h) ∧ (¬ x0 < (124 : Int32) → (((127 : Int32) < x0 → w_M_isType_L16 Qr h) ∧ (¬ (127 : Int32) < x0 → w_M_isType_L17 Qr 1 h))))


def w_M_manyOf (x0 : Nat) (x1 : Int32) (x2 : Int32) (h : xb_H) (Qr : Int32 → xb_H → Prop) : Prop :=
    xb_k h x0 = 9 ∧ ∃ b2 : Nat, (xb_r h x0 9) = some b2 ∧ xb_k h b2 = 102 ∧ vp_in ((12 * x1) + x2) (xb_n h b2) ∧ Qr (xb_i h b2 (Int32.toNatClampNeg ((12 * x1) + x2))) h


def w_M_note_L80 (Qr : xb_H → Nat → Nat → Prop) (x0 : Nat) (x1 : Int32) (h : xb_H) (bc : Nat) (bs : Nat) : Prop :=
    xb_k h x0 = 9 ∧ ∃ b2 : Nat, (xb_r h x0 11) = some b2 ∧ xb_k h b2 = 102 ∧ vp_in (xb_i h x0 13) (xb_n h b2) ∧ ∀ h5 : xb_H, h5 = xb_I h b2 (Int32.toNatClampNeg (xb_i h x0 13)) (xb_i h x0 15) → ∀ h6 : xb_H, h6 = xb_I h5 x0 13 ((xb_i h5 x0 13) + 1) → ∃ b7 : Nat, (xb_r h6 x0 9) = some b7 ∧ xb_k h6 b7 = 102 ∧ vp_in ((12 * (xb_i h6 x0 5)) + x1) (xb_n h6 b7) ∧ vp_in ((12 * (xb_i h6 x0 5)) + x1) (xb_n h6 b7) ∧ ∀ h11 : xb_H, h11 = xb_I h6 b7 (Int32.toNatClampNeg ((12 * (xb_i h6 x0 5)) + x1)) ((xb_i h6 b7 (Int32.toNatClampNeg ((12 * (xb_i h6 x0 5)) + x1))) + 1) → Qr h11 bc bs

def w_M_note_L33 (Qr : xb_H → Nat → Nat → Prop) : Nat → Nat → Int32 → Nat → Nat → Int32 → xb_H → Nat → Nat → Prop
  | 0, _, _, _, _, _, _, _, _ => False
  | n9 + 1, x0, x1, x2, x3, x4, h, bc, bs =>
    xb_k h x0 = 9 ∧ (((xb_i h x0 13) ≤ x4 → ∀ h3 : xb_H, h3 = xb_P h x0 11 (some x2) → ∀ h4 : xb_H, h4 = xb_P h3 x0 12 (some x3) → w_M_note_L80 Qr x0 x1 h4 bc bs) ∧ (¬ (xb_i h x0 13) ≤ x4 → ∃ b5 : Nat, (xb_r h x0 11) = some b5 ∧ xb_k h b5 = 102 ∧ vp_in x4 (xb_n h b5) ∧ xb_k h x2 = 102 ∧ vp_in x4 (xb_n h x2) ∧ ∀ h10 : xb_H, h10 = xb_I h x2 (Int32.toNatClampNeg x4) (xb_i h b5 (Int32.toNatClampNeg x4)) → ∃ b11 : Nat, (xb_r h10 x0 12) = some b11 ∧ xb_k h10 b11 = 102 ∧ vp_in x4 (xb_n h10 b11) ∧ xb_k h10 x3 = 102 ∧ vp_in x4 (xb_n h10 x3) ∧ ∀ h16 : xb_H, h16 = xb_I h10 x3 (Int32.toNatClampNeg x4) (xb_i h10 b11 (Int32.toNatClampNeg x4)) → w_M_note_L33 Qr n9 x0 x1 x2 x3 (x4 + 1) h16 bc bs))

def w_M_note (x0 : Nat) (x1 : Int32) (h : xb_H) (bc : Nat) (bs : Nat) (Qr : xb_H → Nat → Nat → Prop) : Prop :=
    xb_k h x0 = 9 ∧ ∃ b2 : Nat, (xb_r h x0 11) = some b2 ∧ xb_k h b2 = 102 ∧ ((¬ (xb_i h x0 13) = (nI (xb_n h b2)) → w_M_note_L80 Qr x0 x1 h bc bs) ∧ ((xb_i h x0 13) = (nI (xb_n h b2)) → ¬ (2 * (xb_i h x0 13)) < 0 ∧ (Int32.toNatClampNeg (2 * (xb_i h x0 13))) * 4 ≤ 536870912 ∧ 1 ≤ bc ∧ (Int32.toNatClampNeg (2 * (xb_i h x0 13))) ≤ bs ∧ ∀ q5 : Nat, xb_k h q5 = 0 → ∀ h6 : xb_H, h6 = xb_new h q5 102 (Int32.toNatClampNeg (2 * (xb_i h x0 13))) → ¬ (2 * (xb_i h6 x0 13)) < 0 ∧ (Int32.toNatClampNeg (2 * (xb_i h6 x0 13))) * 4 ≤ 536870912 ∧ 1 ≤ (bc - 1) ∧ (Int32.toNatClampNeg (2 * (xb_i h6 x0 13))) ≤ (bs - (Int32.toNatClampNeg (2 * (xb_i h x0 13)))) ∧ ∀ q8 : Nat, xb_k h6 q8 = 0 → ∀ h9 : xb_H, h9 = xb_new h6 q8 102 (Int32.toNatClampNeg (2 * (xb_i h6 x0 13))) → (∃ n8 : Nat, w_M_note_L33 Qr n8 x0 x1 q5 q8 0 h9 ((bc - 1) - 1) ((bs - (Int32.toNatClampNeg (2 * (xb_i h x0 13)))) - (Int32.toNatClampNeg (2 * (xb_i h6 x0 13)))))))


def w_M_noteTrap_L116 (Qr : xb_H → Prop) (h : xb_H) : Prop :=
    Qr h

def w_M_noteTrap_L20 (Qr : xb_H → Prop) : Nat → Nat → Int32 → Int32 → xb_H → Prop
  | 0, _, _, _, _ => False
  | n9 + 1, x0, x1, x2, h =>
    (((4 : Int32) ≤ x2 → xb_k h x0 = 9 ∧ (((xb_i h x0 68) ≤ (0 : Int32) → w_M_noteTrap_L116 Qr h) ∧ (¬ (xb_i h x0 68) ≤ (0 : Int32) → ∃ b4 : Nat, (xb_r h x0 69) = some b4 ∧ xb_k h b4 = 102 ∧ vp_in ((xb_i h x0 68) - 1) (xb_n h b4) ∧ ∀ v7 : Int32, v7 = (xb_i h b4 (Int32.toNatClampNeg ((xb_i h x0 68) - 1))) → ∃ b8 : Nat, (xb_r h x0 31) = some b8 ∧ ∃ b9 : Nat, (xb_r h x0 44) = some b9 ∧ xb_k h b9 = 102 ∧ vp_in v7 (xb_n h b9) ∧ xb_k h b8 = 102 ∧ vp_in (xb_i h b9 (Int32.toNatClampNeg v7)) (xb_n h b8) ∧ ∀ v14 : Int32, v14 = (xb_i h b8 (Int32.toNatClampNeg (xb_i h b9 (Int32.toNatClampNeg v7)))) → ∃ b15 : Nat, (xb_r h x0 86) = some b15 ∧ ∃ b16 : Nat, (xb_r h x0 44) = some b16 ∧ xb_k h b16 = 102 ∧ vp_in v7 (xb_n h b16) ∧ xb_k h b15 = 102 ∧ vp_in 1 (xb_n h b15) ∧ ∀ h21 : xb_H, h21 = xb_I h b15 (Int32.toNatClampNeg 1) (xb_i h b16 (Int32.toNatClampNeg v7)) → ∃ b22 : Nat, (xb_r h21 x0 86) = some b22 ∧ ∃ b23 : Nat, (xb_r h21 x0 10) = some b23 ∧ xb_k h21 b23 = 102 ∧ vp_in (4 * v14) (xb_n h21 b23) ∧ ∃ b26 : Nat, (xb_r h21 x0 45) = some b26 ∧ xb_k h21 b26 = 102 ∧ vp_in v7 (xb_n h21 b26) ∧ xb_k h21 b22 = 102 ∧ vp_in 2 (xb_n h21 b22) ∧ ∀ h31 : xb_H, h31 = xb_I h21 b22 (Int32.toNatClampNeg 2) ((xb_i h21 b23 (Int32.toNatClampNeg (4 * v14))) + (xb_i h21 b26 (Int32.toNatClampNeg v7))) → ∃ b32 : Nat, (xb_r h31 x0 86) = some b32 ∧ ∃ b33 : Nat, (xb_r h31 x0 6) = some b33 ∧ xb_k h31 b33 = 102 ∧ vp_in v14 (xb_n h31 b33) ∧ xb_k h31 b32 = 102 ∧ vp_in 3 (xb_n h31 b32) ∧ ∀ h38 : xb_H, h38 = xb_I h31 b32 (Int32.toNatClampNeg 3) (x1 - (xb_i h31 b33 (Int32.toNatClampNeg v14))) → w_M_noteTrap_L116 Qr h38))) ∧ (¬ (4 : Int32) ≤ x2 → xb_k h x0 = 9 ∧ ∃ b40 : Nat, (xb_r h x0 86) = some b40 ∧ xb_k h b40 = 102 ∧ vp_in x2 (xb_n h b40) ∧ ∀ h43 : xb_H, h43 = xb_I h b40 (Int32.toNatClampNeg x2) (-1) → w_M_noteTrap_L20 Qr n9 x0 x1 (x2 + 1) h43))

def w_M_noteTrap (x0 : Nat) (x1 : Int32) (h : xb_H) (Qr : xb_H → Prop) : Prop :=
    xb_k h x0 = 9 ∧ ((¬ (xb_i h x0 82) = (0 : Int32) → ∃ b3 : Nat, (xb_r h x0 86) = some b3 ∧ xb_k h b3 = 102 ∧ vp_in 0 (xb_n h b3) ∧ ∀ h6 : xb_H, h6 = xb_I h b3 (Int32.toNatClampNeg 0) (xb_i h x0 82) → (∃ n8 : Nat, w_M_noteTrap_L20 Qr n8 x0 x1 1 h6)) ∧ ((xb_i h x0 82) = (0 : Int32) → Qr h))


def w_M_ofMemory (x0 : Nat) (x1 : Int32) (x2 : Int64) (h : xb_H) (Qr : Int32 → xb_H → Prop) : Prop :=
    ∀ v1 : Int32, v1 = (Int64.toInt32 (x2 / 65536)) → xb_k h x0 = 9 ∧ ∃ b3 : Nat, (xb_r h x0 56) = some b3 ∧ xb_k h b3 = 102 ∧ vp_in ((16 * x1) + v1) (xb_n h b3) ∧ Qr ((65536 * (xb_i h b3 (Int32.toNatClampNeg ((16 * x1) + v1)))) + (Int64.toInt32 (x2 - x2 / 65536 * 65536))) h


def w_M_open (x0 : Nat) (x1 : Int32) (x2 : Int32) (h : xb_H) (Qr : xb_H → Prop) : Prop :=
    xb_k h x0 = 9 ∧ ∃ b2 : Nat, (xb_r h x0 77) = some b2 ∧ xb_k h b2 = 102 ∧ vp_in (xb_i h x0 81) (xb_n h b2) ∧ ∀ h5 : xb_H, h5 = xb_I h b2 (Int32.toNatClampNeg (xb_i h x0 81)) x1 → ∃ b6 : Nat, (xb_r h5 x0 78) = some b6 ∧ xb_k h5 b6 = 102 ∧ vp_in (xb_i h5 x0 81) (xb_n h5 b6) ∧ ∀ h9 : xb_H, h9 = xb_I h5 b6 (Int32.toNatClampNeg (xb_i h5 x0 81)) (xb_i h5 x0 15) → ∃ b10 : Nat, (xb_r h9 x0 79) = some b10 ∧ xb_k h9 b10 = 102 ∧ vp_in (xb_i h9 x0 81) (xb_n h9 b10) ∧ ∀ h13 : xb_H, h13 = xb_I h9 b10 (Int32.toNatClampNeg (xb_i h9 x0 81)) x2 → ∃ b14 : Nat, (xb_r h13 x0 80) = some b14 ∧ xb_k h13 b14 = 102 ∧ vp_in (xb_i h13 x0 81) (xb_n h13 b14) ∧ ∀ h17 : xb_H, h17 = xb_I h13 b14 (Int32.toNatClampNeg (xb_i h13 x0 81)) (xb_i h13 x0 76) → ∀ h18 : xb_H, h18 = xb_I h17 x0 81 ((xb_i h17 x0 81) + 1) → Qr h18


def w_M_out_L38 (Qr : Int64 → xb_H → Prop) (y0 : Int64) (h : xb_H) : Prop :=
    Qr y0 h

def w_M_out_L18 (Qr : Int64 → xb_H → Prop) (x0 : Nat) (x1 : Int32) (y0 : Int32) (y1 : Nat) (h : xb_H) : Prop :=
    xb_k h y1 = 9 ∧ ∀ h2 : xb_H, h2 = xb_I h y1 0 y0 → xb_k h2 x0 = 9 ∧ (((xb_i h2 x0 0) ≤ (0 : Int32) → ∃ b5 : Nat, (xb_r h2 x0 87) = some b5 ∧ xb_k h2 b5 = 103 ∧ vp_in x1 (xb_n h2 b5) ∧ w_M_out_L38 Qr (xb_l h2 b5 (Int32.toNatClampNeg x1)) h2) ∧ (¬ (xb_i h2 x0 0) ≤ (0 : Int32) → w_M_out_L38 Qr 0 h2))

def w_M_out_L17 (Qr : Int64 → xb_H → Prop) (x0 : Nat) (x1 : Int32) (y0 : Nat) (h : xb_H) : Prop :=
    w_M_out_L18 Qr x0 x1 1 y0 h

def w_M_out (x0 : Nat) (x1 : Int32) (h : xb_H) (Qr : Int64 → xb_H → Prop) : Prop :=
    ((x1 < (0 : Int32) → w_M_out_L17 Qr x0 x1 x0 h) ∧ (¬ x1 < (0 : Int32) → xb_k h x0 = 9 ∧ (((xb_i h x0 88) ≤ x1 → w_M_out_L17 Qr x0 x1 x0 h) ∧ (¬ (xb_i h x0 88) ≤ x1 → w_M_out_L18 Qr x0 x1 0 x0 h))))


def w_M_outs (x0 : Nat) (h : xb_H) (Qr : Int32 → xb_H → Prop) : Prop :=
    xb_k h x0 = 9 ∧ ∀ h2 : xb_H, h2 = xb_I h x0 0 0 → Qr (xb_i h2 x0 88) h2


def w_M_placeOf (x0 : Nat) (x1 : Int32) (x2 : Int32) (x3 : Int32) (h : xb_H) (Qr : Int32 → xb_H → Prop) : Prop :=
    xb_k h x0 = 9 ∧ ∃ b2 : Nat, (xb_r h x0 11) = some b2 ∧ ∃ b3 : Nat, (xb_r h x0 8) = some b3 ∧ xb_k h b3 = 102 ∧ vp_in ((12 * x1) + x2) (xb_n h b3) ∧ xb_k h b2 = 102 ∧ vp_in ((xb_i h b3 (Int32.toNatClampNeg ((12 * x1) + x2))) + x3) (xb_n h b2) ∧ Qr (xb_i h b2 (Int32.toNatClampNeg ((xb_i h b3 (Int32.toNatClampNeg ((12 * x1) + x2))) + x3))) h


def w_M_pop_L79 (Qr : Int64 → xb_H → Prop) (x0 : Nat) (y0 : Int32) (y1 : Nat) (h : xb_H) : Prop :=
    xb_k h y1 = 9 ∧ (y0 = 0 ∨ y0 = 1) ∧ ∀ h3 : xb_H, h3 = xb_I h y1 94 y0 → xb_k h3 x0 = 9 ∧ ∃ b5 : Nat, (xb_r h3 x0 74) = some b5 ∧ xb_k h3 b5 = 103 ∧ vp_in (xb_i h3 x0 76) (xb_n h3 b5) ∧ Qr (xb_l h3 b5 (Int32.toNatClampNeg (xb_i h3 x0 76))) h3

def w_M_pop_L78 (Qr : Int64 → xb_H → Prop) (x0 : Nat) (y0 : Nat) (h : xb_H) : Prop :=
    w_M_pop_L79 Qr x0 0 y0 h

def w_M_pop_L74 (Qr : Int64 → xb_H → Prop) (x0 : Nat) (y0 : Nat) (h : xb_H) : Prop :=
    w_M_pop_L79 Qr x0 1 y0 h

def w_M_pop_L32 (Qr : Int64 → xb_H → Prop) (x0 : Nat) (h : xb_H) : Prop :=
    xb_k h x0 = 9 ∧ ∀ h2 : xb_H, h2 = xb_I h x0 94 1 → Qr 0 h2

def w_M_pop_L25 (Qr : Int64 → xb_H → Prop) (x0 : Nat) (x1 : Int32) (h : xb_H) : Prop :=
    xb_k h x0 = 9 ∧ ((¬ (xb_i h x0 76) = (0 : Int32) → ∀ h3 : xb_H, h3 = xb_I h x0 76 ((xb_i h x0 76) - 1) → ((¬ (xb_i h3 x0 94) = (0 : Int32) → w_M_pop_L74 Qr x0 x0 h3) ∧ ((xb_i h3 x0 94) = (0 : Int32) → ((x1 = (0 : Int32) → w_M_pop_L78 Qr x0 x0 h3) ∧ (¬ x1 = (0 : Int32) → ∃ b6 : Nat, (xb_r h3 x0 75) = some b6 ∧ xb_k h3 b6 = 100 ∧ vp_in (xb_i h3 x0 76) (xb_n h3 b6) ∧ (((xb_i h3 b6 (Int32.toNatClampNeg (xb_i h3 x0 76))) = x1 → w_M_pop_L78 Qr x0 x0 h3) ∧ (¬ (xb_i h3 b6 (Int32.toNatClampNeg (xb_i h3 x0 76))) = x1 → w_M_pop_L74 Qr x0 x0 h3))))))) ∧ ((xb_i h x0 76) = (0 : Int32) → w_M_pop_L32 Qr x0 h))

def w_M_pop (x0 : Nat) (x1 : Int32) (h : xb_H) (Qr : Int64 → xb_H → Prop) : Prop :=
    xb_k h x0 = 9 ∧ (((xb_i h x0 81) ≤ (0 : Int32) → w_M_pop_L25 Qr x0 x1 h) ∧ (¬ (xb_i h x0 81) ≤ (0 : Int32) → ∃ b3 : Nat, (xb_r h x0 80) = some b3 ∧ xb_k h b3 = 102 ∧ vp_in ((xb_i h x0 81) - 1) (xb_n h b3) ∧ (((xb_i h x0 76) ≤ (xb_i h b3 (Int32.toNatClampNeg ((xb_i h x0 81) - 1))) → w_M_pop_L32 Qr x0 h) ∧ (¬ (xb_i h x0 76) ≤ (xb_i h b3 (Int32.toNatClampNeg ((xb_i h x0 81) - 1))) → w_M_pop_L25 Qr x0 x1 h))))


def w_M_push_L16 (Qr : Int32 → xb_H → Prop) (x0 : Nat) (x1 : Int64) (y0 : Int32) (y1 : Nat) (h : xb_H) : Prop :=
    xb_k h y1 = 9 ∧ ∀ h2 : xb_H, h2 = xb_I h y1 0 y0 → xb_k h2 x0 = 9 ∧ (((xb_i h2 x0 0) ≤ (0 : Int32) → ∃ b5 : Nat, (xb_r h2 x0 65) = some b5 ∧ xb_k h2 b5 = 103 ∧ vp_in (xb_i h2 x0 66) (xb_n h2 b5) ∧ ∀ h8 : xb_H, h8 = xb_L h2 b5 (Int32.toNatClampNeg (xb_i h2 x0 66)) x1 → ∀ h9 : xb_H, h9 = xb_I h8 x0 66 ((xb_i h8 x0 66) + 1) → Qr (xb_i h9 x0 66) h9) ∧ (¬ (xb_i h2 x0 0) ≤ (0 : Int32) → Qr 0 h2))

def w_M_push (x0 : Nat) (x1 : Int64) (h : xb_H) (Qr : Int32 → xb_H → Prop) : Prop :=
    xb_k h x0 = 9 ∧ ((¬ (xb_i h x0 66) = (1000 : Int32) → w_M_push_L16 Qr x0 x1 0 x0 h) ∧ ((xb_i h x0 66) = (1000 : Int32) → w_M_push_L16 Qr x0 x1 1 x0 h))


def w_M_put_L44 (Qr : xb_H → Prop) (y0 : Int32) (y1 : Nat) (h : xb_H) : Prop :=
    xb_k h y1 = 9 ∧ ∀ h2 : xb_H, h2 = xb_I h y1 23 y0 → Qr h2

def w_M_put (x0 : Nat) (x1 : Int32) (h : xb_H) (Qr : xb_H → Prop) : Prop :=
    xb_k h x0 = 9 ∧ ∃ b2 : Nat, (xb_r h x0 21) = some b2 ∧ xb_k h b2 = 100 ∧ vp_in (xb_i h x0 22) (xb_n h b2) ∧ ∀ h5 : xb_H, h5 = xb_I h b2 (Int32.toNatClampNeg (xb_i h x0 22)) (vp_nar .byte ((Int32.toInt8 x1).toInt32)) → ∀ h6 : xb_H, h6 = xb_I h5 x0 22 ((xb_i h5 x0 22) + 1) → (((xb_i h6 x0 22) ≤ (xb_i h6 x0 23) → w_M_put_L44 Qr (xb_i h6 x0 23) x0 h6) ∧ (¬ (xb_i h6 x0 22) ≤ (xb_i h6 x0 23) → w_M_put_L44 Qr (xb_i h6 x0 22) x0 h6))


def w_M_refuse (x0 : Nat) (x1 : Int32) (x2 : Int32) (h : xb_H) (Qr : Int32 → xb_H → Prop) : Prop :=
    xb_k h x0 = 9 ∧ ∃ b2 : Nat, (xb_r h x0 89) = some b2 ∧ xb_k h b2 = 102 ∧ vp_in 0 (xb_n h b2) ∧ ∀ h5 : xb_H, h5 = xb_I h b2 (Int32.toNatClampNeg 0) x1 → ∃ b6 : Nat, (xb_r h5 x0 89) = some b6 ∧ xb_k h5 b6 = 102 ∧ vp_in 1 (xb_n h5 b6) ∧ ∀ h9 : xb_H, h9 = xb_I h5 b6 (Int32.toNatClampNeg 1) x2 → Qr (-1) h9


def w_M_reserve_L55 (Qr : xb_H → Nat → Nat → Prop) (h : xb_H) (bc : Nat) (bs : Nat) : Prop :=
    Qr h bc bs

def w_M_reserve_L27 (Qr : xb_H → Nat → Nat → Prop) : Nat → Nat → Nat → Int32 → xb_H → Nat → Nat → Prop
  | 0, _, _, _, _, _, _ => False
  | n9 + 1, x0, x2, x3, h, bc, bs =>
    xb_k h x0 = 9 ∧ (((xb_i h x0 4) ≤ x3 → ∀ h3 : xb_H, h3 = xb_P h x0 3 (some x2) → w_M_reserve_L55 Qr h3 bc bs) ∧ (¬ (xb_i h x0 4) ≤ x3 → ∃ b4 : Nat, (xb_r h x0 3) = some b4 ∧ xb_k h b4 = 100 ∧ vp_in x3 (xb_n h b4) ∧ xb_k h x2 = 100 ∧ vp_in x3 (xb_n h x2) ∧ ∀ h9 : xb_H, h9 = xb_I h x2 (Int32.toNatClampNeg x3) (vp_nar .byte (xb_i h b4 (Int32.toNatClampNeg x3))) → w_M_reserve_L27 Qr n9 x0 x2 (x3 + 1) h9 bc bs))

def w_M_reserve (x0 : Nat) (x1 : Int32) (h : xb_H) (bc : Nat) (bs : Nat) (Qr : xb_H → Nat → Nat → Prop) : Prop :=
    xb_k h x0 = 9 ∧ ∃ b2 : Nat, (xb_r h x0 3) = some b2 ∧ xb_k h b2 = 100 ∧ ((((xb_i h x0 4) + x1) ≤ (nI (xb_n h b2)) → w_M_reserve_L55 Qr h bc bs) ∧ (¬ ((xb_i h x0 4) + x1) ≤ (nI (xb_n h b2)) → ¬ (2 * ((xb_i h x0 4) + x1)) < 0 ∧ (Int32.toNatClampNeg (2 * ((xb_i h x0 4) + x1))) * 1 ≤ 536870912 ∧ 1 ≤ bc ∧ (Int32.toNatClampNeg (2 * ((xb_i h x0 4) + x1))) ≤ bs ∧ ∀ q5 : Nat, xb_k h q5 = 0 → ∀ h6 : xb_H, h6 = xb_new h q5 100 (Int32.toNatClampNeg (2 * ((xb_i h x0 4) + x1))) → (∃ n8 : Nat, w_M_reserve_L27 Qr n8 x0 q5 0 h6 (bc - 1) (bs - (Int32.toNatClampNeg (2 * ((xb_i h x0 4) + x1)))))))


def w_M_reserveImports_L55 (Qr : xb_H → Nat → Nat → Prop) (h : xb_H) (bc : Nat) (bs : Nat) : Prop :=
    Qr h bc bs

def w_M_reserveImports_L27 (Qr : xb_H → Nat → Nat → Prop) : Nat → Nat → Nat → Int32 → xb_H → Nat → Nat → Prop
  | 0, _, _, _, _, _, _ => False
  | n9 + 1, x0, x2, x3, h, bc, bs =>
    xb_k h x0 = 9 ∧ (((xb_i h x0 34) ≤ x3 → ∀ h3 : xb_H, h3 = xb_P h x0 33 (some x2) → w_M_reserveImports_L55 Qr h3 bc bs) ∧ (¬ (xb_i h x0 34) ≤ x3 → ∃ b4 : Nat, (xb_r h x0 33) = some b4 ∧ xb_k h b4 = 102 ∧ vp_in x3 (xb_n h b4) ∧ xb_k h x2 = 102 ∧ vp_in x3 (xb_n h x2) ∧ ∀ h9 : xb_H, h9 = xb_I h x2 (Int32.toNatClampNeg x3) (xb_i h b4 (Int32.toNatClampNeg x3)) → w_M_reserveImports_L27 Qr n9 x0 x2 (x3 + 1) h9 bc bs))

def w_M_reserveImports (x0 : Nat) (x1 : Int32) (h : xb_H) (bc : Nat) (bs : Nat) (Qr : xb_H → Nat → Nat → Prop) : Prop :=
    xb_k h x0 = 9 ∧ ∃ b2 : Nat, (xb_r h x0 33) = some b2 ∧ xb_k h b2 = 102 ∧ ((((xb_i h x0 34) + x1) ≤ (nI (xb_n h b2)) → w_M_reserveImports_L55 Qr h bc bs) ∧ (¬ ((xb_i h x0 34) + x1) ≤ (nI (xb_n h b2)) → ¬ (2 * ((xb_i h x0 34) + x1)) < 0 ∧ (Int32.toNatClampNeg (2 * ((xb_i h x0 34) + x1))) * 4 ≤ 536870912 ∧ 1 ≤ bc ∧ (Int32.toNatClampNeg (2 * ((xb_i h x0 34) + x1))) ≤ bs ∧ ∀ q5 : Nat, xb_k h q5 = 0 → ∀ h6 : xb_H, h6 = xb_new h q5 102 (Int32.toNatClampNeg (2 * ((xb_i h x0 34) + x1))) → (∃ n8 : Nat, w_M_reserveImports_L27 Qr n8 x0 q5 0 h6 (bc - 1) (bs - (Int32.toNatClampNeg (2 * ((xb_i h x0 34) + x1)))))))


def w_M_result (x0 : Nat) (h : xb_H) (Qr : Int64 → xb_H → Prop) : Prop :=
    xb_k h x0 = 9 ∧ ∀ h2 : xb_H, h2 = xb_I h x0 0 0 → Qr (xb_l h2 x0 85) h2


def w_M_stop_L20 (Qr : Int32 → xb_H → Prop) (x0 : Nat) (y0 : Int32) (h : xb_H) : Prop :=
    xb_k h x0 = 9 ∧ ∀ h2 : xb_H, h2 = xb_I h x0 62 0 → ∀ h3 : xb_H, h3 = xb_I h2 x0 68 0 → Qr y0 h3

def w_M_stop (x0 : Nat) (h : xb_H) (Qr : Int32 → xb_H → Prop) : Prop :=
    xb_k h x0 = 9 ∧ ∀ h2 : xb_H, h2 = xb_I h x0 0 0 → (((xb_i h2 x0 62) = (0 : Int32) → w_M_stop_L20 Qr x0 0 h2) ∧ (¬ (xb_i h2 x0 62) = (0 : Int32) → w_M_stop_L20 Qr x0 (xb_i h2 x0 68) h2))


def w_M_thrown (x0 : Nat) (h : xb_H) (Qr : Int32 → xb_H → Prop) : Prop :=
    xb_k h x0 = 9 ∧ Qr (xb_i h x0 0) h


def w_M_trap_L35 (Qr : Int32 → xb_H → Prop) (y0 : Int32) (h : xb_H) : Prop :=
    Qr y0 h

def w_M_trap_L15 (Qr : Int32 → xb_H → Prop) (x0 : Nat) (x1 : Int32) (y0 : Int32) (y1 : Nat) (h : xb_H) : Prop :=
    xb_k h y1 = 9 ∧ ∀ h2 : xb_H, h2 = xb_I h y1 0 y0 → xb_k h2 x0 = 9 ∧ (((xb_i h2 x0 0) ≤ (0 : Int32) → ∃ b5 : Nat, (xb_r h2 x0 86) = some b5 ∧ xb_k h2 b5 = 102 ∧ vp_in x1 (xb_n h2 b5) ∧ w_M_trap_L35 Qr (xb_i h2 b5 (Int32.toNatClampNeg x1)) h2) ∧ (¬ (xb_i h2 x0 0) ≤ (0 : Int32) → w_M_trap_L35 Qr 0 h2))

def w_M_trap_L14 (Qr : Int32 → xb_H → Prop) (x0 : Nat) (x1 : Int32) (y0 : Nat) (h : xb_H) : Prop :=
    w_M_trap_L15 Qr x0 x1 1 y0 h

def w_M_trap (x0 : Nat) (x1 : Int32) (h : xb_H) (Qr : Int32 → xb_H → Prop) : Prop :=
    ((x1 < (0 : Int32) → w_M_trap_L14 Qr x0 x1 x0 h) ∧ (¬ x1 < (0 : Int32) → (((4 : Int32) ≤ x1 → w_M_trap_L14 Qr x0 x1 x0 h) ∧ (¬ (4 : Int32) ≤ x1 → w_M_trap_L15 Qr x0 x1 0 x0 h))))


def w_M_wrong (x0 : Nat) (h : xb_H) (Qr : Int32 → xb_H → Prop) : Prop :=
    xb_k h x0 = 9 ∧ ∀ h2 : xb_H, h2 = xb_I h x0 0 0 → Qr (xb_i h2 x0 84) h2


def w_Exact_init (x0 : Nat) (h : xb_H) (bc : Nat) (bs : Nat) (Qr : xb_H → Nat → Nat → Prop) : Prop :=
    1 ≤ bc ∧ 4400 ≤ bs ∧ ∀ q1 : Nat, xb_k h q1 = 0 → ∀ h2 : xb_H, h2 = xb_new h q1 100 4400 → xb_k h2 x0 = 10 ∧ ∀ h5 : xb_H, h5 = xb_P h2 x0 1 (some q1) → ∀ h6 : xb_H, h6 = xb_I h5 x0 2 1 → ∀ h7 : xb_H, h7 = xb_I h6 x0 3 0 → Qr h7 (bc - 1) (bs - 4400)


def w_Exact_below_L19 (Qr : Int32 → xb_H → Prop) (y0 : Int32) (h : xb_H) : Prop :=
    (y0 = 0 ∨ y0 = 1) ∧ Qr y0 h

def w_Exact_below (x0 : Int64) (x2 : Int64) (h : xb_H) (Qr : Int32 → xb_H → Prop) : Prop :=
    (((x2 ^^^ (-9223372036854775808)) ≤ (x0 ^^^ (-9223372036854775808)) → w_Exact_below_L19 Qr 0 h) ∧ (¬ (x2 ^^^ (-9223372036854775808)) ≤ (x0 ^^^ (-9223372036854775808)) → w_Exact_below_L19 Qr 1 h))


def w_Exact_clear_L5 (Qr : xb_H → Prop) : Nat → Nat → Int32 → xb_H → Prop
  | 0, _, _, _ => False
  | n9 + 1, x0, x1, h =>
    xb_k h x0 = 10 ∧ (((xb_i h x0 3) < x1 → ∃ b3 : Nat, (xb_r h x0 1) = some b3 ∧ xb_k h b3 = 100 ∧ ∀ h5 : xb_H, h5 = xb_I h x0 2 (nI (xb_n h b3)) → ∀ h6 : xb_H, h6 = xb_I h5 x0 3 0 → ∀ h7 : xb_H, h7 = xb_I h6 x0 4 0 → Qr h7) ∧ (¬ (xb_i h x0 3) < x1 → ∃ b8 : Nat, (xb_r h x0 1) = some b8 ∧ xb_k h b8 = 100 ∧ vp_in x1 (xb_n h b8) ∧ ∀ h11 : xb_H, h11 = xb_I h b8 (Int32.toNatClampNeg x1) (vp_nar .byte 0) → w_Exact_clear_L5 Qr n9 x0 (x1 + 1) h11))

def w_Exact_clear (x0 : Nat) (h : xb_H) (Qr : xb_H → Prop) : Prop :=
    xb_k h x0 = 10 ∧ ∀ v2 : Int32, v2 = (xb_i h x0 2) → (∃ n8 : Nat, w_Exact_clear_L5 Qr n8 x0 v2 h)


def w_Exact_count_L120 (Qr : Int32 → xb_H → Prop) (y0 : Int32) (h : xb_H) : Prop :=
    Qr y0 h

def w_Exact_count_L91 (K15 : Int64 → Int32 → Int32 → Int32 → Int32 → Int32 → Int32 → xb_H → Prop) (Qr : Int32 → xb_H → Prop) (x0 : Int64) (x2 : Int32) (x3 : Int32) (x5 : Int32) (x6 : Int32) (x8 : Int32) (y0 : Int32) (h : xb_H) : Prop :=
    K15 x0 x2 x3 x5 x6 y0 (x8 + 1) h

def w_Exact_count_L89 (K15 : Int64 → Int32 → Int32 → Int32 → Int32 → Int32 → Int32 → xb_H → Prop) (Qr : Int32 → xb_H → Prop) (x0 : Int64) (x2 : Int32) (x3 : Int32) (x5 : Int32) (x6 : Int32) (x7 : Int32) (x8 : Int32) (h : xb_H) : Prop :=
    w_Exact_count_L91 K15 Qr x0 x2 x3 x5 x6 x8 x7 h

def w_Exact_count_L71 (K15 : Int64 → Int32 → Int32 → Int32 → Int32 → Int32 → Int32 → xb_H → Prop) (Qr : Int32 → xb_H → Prop) (x0 : Int64) (x2 : Int32) (x3 : Int32) (x5 : Int32) (x7 : Int32) (x8 : Int32) (x9 : Int32) (y0 : Int32) (h : xb_H) : Prop :=
    ((x9 = (0 : Int32) → w_Exact_count_L89 K15 Qr x0 x2 x3 x5 y0 x7 x8 h) ∧ (¬ x9 = (0 : Int32) → ((¬ x7 = x2 → w_Exact_count_L89 K15 Qr x0 x2 x3 x5 y0 x7 x8 h) ∧ (x7 = x2 → w_Exact_count_L91 K15 Qr x0 x2 x3 x5 y0 x8 x8 h))))

def w_Exact_count_L53 (K15 : Int64 → Int32 → Int32 → Int32 → Int32 → Int32 → Int32 → xb_H → Prop) (Qr : Int32 → xb_H → Prop) (x0 : Int64) (x2 : Int32) (x3 : Int32) (x6 : Int32) (x7 : Int32) (x8 : Int32) (x9 : Int32) (y0 : Int32) (h : xb_H) : Prop :=
    ((x9 = (0 : Int32) → w_Exact_count_L71 K15 Qr x0 x2 x3 y0 x7 x8 x9 x6 h) ∧ (¬ x9 = (0 : Int32) → w_Exact_count_L71 K15 Qr x0 x2 x3 y0 x7 x8 x9 ((x2 - 1) - x8) h))

def w_Exact_count_L37 (K15 : Int64 → Int32 → Int32 → Int32 → Int32 → Int32 → Int32 → xb_H → Prop) (Qr : Int32 → xb_H → Prop) (x0 : Int64) (x2 : Int32) (x3 : Int32) (x5 : Int32) (x6 : Int32) (x7 : Int32) (x8 : Int32) (y0 : Int32) (h : xb_H) : Prop :=
    ((y0 = (0 : Int32) → w_Exact_count_L53 K15 Qr x0 x2 x3 x6 x7 x8 y0 x5 h) ∧ (¬ y0 = (0 : Int32) → w_Exact_count_L53 K15 Qr x0 x2 x3 x6 x7 x8 y0 (x5 + 1) h))

def w_Exact_count_L15 (Qr : Int32 → xb_H → Prop) : Nat → Int64 → Int32 → Int32 → Int32 → Int32 → Int32 → Int32 → xb_H → Prop
  | 0, _, _, _, _, _, _, _, _ => False
  | n9 + 1, x0, x2, x3, x5, x6, x7, x8, h =>
    ((x2 ≤ x8 → ((¬ x3 = (0 : Int32) → ((¬ x3 = (1 : Int32) → w_Exact_count_L120 Qr x5 h) ∧ (x3 = (1 : Int32) → w_Exact_count_L120 Qr x7 h))) ∧ (x3 = (0 : Int32) → w_Exact_count_L120 Qr x6 h))) ∧ (¬ x2 ≤ x8 → ((¬ ((xb_lshr x0 x8) &&& 1) = (1 : Int64) → w_Exact_count_L37 (w_Exact_count_L15 Qr n9) Qr x0 x2 x3 x5 x6 x7 x8 0 h) ∧ (((xb_lshr x0 x8) &&& 1) = (1 : Int64) → w_Exact_count_L37 (w_Exact_count_L15 Qr n9) Qr x0 x2 x3 x5 x6 x7 x8 1 h))))

def w_Exact_count (x0 : Int64) (x2 : Int32) (x3 : Int32) (h : xb_H) (Qr : Int32 → xb_H → Prop) : Prop :=
    (∃ n8 : Nat, w_Exact_count_L15 Qr n8 x0 x2 x3 0 x2 x2 0 h)


def w_Exact_format_L37 (Qr : xb_H → Prop) (y0 : Int32) (y1 : Nat) (h : xb_H) : Prop :=
    xb_k h y1 = 10 ∧ ∀ h2 : xb_H, h2 = xb_I h y1 7 y0 → Qr h2

def w_Exact_format_L19 (Qr : xb_H → Prop) (x0 : Nat) (x1 : Int32) (y0 : Int32) (y1 : Nat) (h : xb_H) : Prop :=
    xb_k h y1 = 10 ∧ ∀ h2 : xb_H, h2 = xb_I h y1 6 y0 → ((¬ x1 = (32 : Int32) → w_Exact_format_L37 Qr 1023 x0 h2) ∧ (x1 = (32 : Int32) → w_Exact_format_L37 Qr 127 x0 h2))

def w_Exact_format (x0 : Nat) (x1 : Int32) (h : xb_H) (Qr : xb_H → Prop) : Prop :=
    xb_k h x0 = 10 ∧ ∀ h2 : xb_H, h2 = xb_I h x0 5 x1 → ((¬ x1 = (32 : Int32) → w_Exact_format_L19 Qr x0 x1 52 x0 h2) ∧ (x1 = (32 : Int32) → w_Exact_format_L19 Qr x0 x1 23 x0 h2))


def w_Exact_highest_L41 (Qr : Int32 → xb_H → Prop) (y0 : Int32) (h : xb_H) : Prop :=
    Qr y0 h

def w_Exact_highest_L28 (Qr : Int32 → xb_H → Prop) (x0 : Nat) (x1 : Int32) (h : xb_H) : Prop :=
    xb_k h x0 = 10 ∧ ((x1 < (xb_i h x0 2) → w_Exact_highest_L41 Qr (-1) h) ∧ (¬ x1 < (xb_i h x0 2) → w_Exact_highest_L41 Qr x1 h))

def w_Exact_highest_L5 (Qr : Int32 → xb_H → Prop) : Nat → Nat → Int32 → xb_H → Prop
  | 0, _, _, _ => False
  | n9 + 1, x0, x1, h =>
    xb_k h x0 = 10 ∧ ((x1 < (xb_i h x0 2) → w_Exact_highest_L28 Qr x0 x1 h) ∧ (¬ x1 < (xb_i h x0 2) → ∃ b3 : Nat, (xb_r h x0 1) = some b3 ∧ xb_k h b3 = 100 ∧ vp_in x1 (xb_n h b3) ∧ ((¬ (xb_i h b3 (Int32.toNatClampNeg x1)) = (0 : Int32) → w_Exact_highest_L28 Qr x0 x1 h) ∧ ((xb_i h b3 (Int32.toNatClampNeg x1)) = (0 : Int32) → w_Exact_highest_L5 Qr n9 x0 (x1 + (-1)) h))))

def w_Exact_highest (x0 : Nat) (h : xb_H) (Qr : Int32 → xb_H → Prop) : Prop :=
    xb_k h x0 = 10 ∧ ∀ v2 : Int32, v2 = (xb_i h x0 3) → (∃ n8 : Nat, w_Exact_highest_L5 Qr n8 x0 v2 h)


def w_Exact_isBelow_L48 (Qr : Int32 → xb_H → Prop) (x2 : Int32) (h : xb_H) : Prop :=
    (x2 = 0 ∨ x2 = 1) ∧ Qr x2 h

def w_Exact_isBelow_L41 (K10 : Nat → Int32 → Int32 → Int32 → xb_H → Prop) (Qr : Int32 → xb_H → Prop) (x0 : Nat) (x1 : Int32) (x3 : Int32) (y0 : Int32) (h : xb_H) : Prop :=
    K10 x0 x1 y0 (x3 + 1) h

def w_Exact_isBelow_L36 (K10 : Nat → Int32 → Int32 → Int32 → xb_H → Prop) (Qr : Int32 → xb_H → Prop) (x0 : Nat) (x1 : Int32) (x3 : Int32) (h : xb_H) : Prop :=
    w_Exact_isBelow_L41 K10 Qr x0 x1 x3 1 h

def w_Exact_isBelow_L10 (Qr : Int32 → xb_H → Prop) : Nat → Nat → Int32 → Int32 → Int32 → xb_H → Prop
  | 0, _, _, _, _, _ => False
  | n9 + 1, x0, x1, x2, x3, h =>
    ((x1 ≤ x3 → w_Exact_isBelow_L48 Qr x2 h) ∧ (¬ x1 ≤ x3 → xb_k h x0 = 10 ∧ (((xb_i h x0 3) < x3 → w_Exact_isBelow_L48 Qr x2 h) ∧ (¬ (xb_i h x0 3) < x3 → ((¬ x2 = (0 : Int32) → w_Exact_isBelow_L36 (w_Exact_isBelow_L10 Qr n9) Qr x0 x1 x3 h) ∧ (x2 = (0 : Int32) → ∃ b5 : Nat, (xb_r h x0 1) = some b5 ∧ xb_k h b5 = 100 ∧ vp_in x3 (xb_n h b5) ∧ (((xb_i h b5 (Int32.toNatClampNeg x3)) = (0 : Int32) → w_Exact_isBelow_L41 (w_Exact_isBelow_L10 Qr n9) Qr x0 x1 x3 0 h) ∧ (¬ (xb_i h b5 (Int32.toNatClampNeg x3)) = (0 : Int32) → w_Exact_isBelow_L36 (w_Exact_isBelow_L10 Qr n9) Qr x0 x1 x3 h))))))))

def w_Exact_isBelow (x0 : Nat) (x1 : Int32) (h : xb_H) (Qr : Int32 → xb_H → Prop) : Prop :=
    xb_k h x0 = 10 ∧ ∀ v2 : Int32, v2 = (xb_i h x0 4) → ∀ v3 : Int32, v3 = (xb_i h x0 2) → (∃ n8 : Nat, w_Exact_isBelow_L10 Qr n8 x0 x1 v2 v3 h)


def w_Exact_isIn_L15 (Qr : Int32 → xb_H → Prop) (y0 : Int32) (h : xb_H) : Prop :=
    (y0 = 0 ∨ y0 = 1) ∧ Qr y0 h

def w_Exact_isIn_L14 (Qr : Int32 → xb_H → Prop) (h : xb_H) : Prop :=
    w_Exact_isIn_L15 Qr 0 h

def w_Exact_isIn (x0 : Int32) (x1 : Int32) (x2 : Int32) (h : xb_H) (Qr : Int32 → xb_H → Prop) : Prop :=
    ((x0 < x1 → w_Exact_isIn_L14 Qr h) ∧ (¬ x0 < x1 → ((x2 < x0 → w_Exact_isIn_L14 Qr h) ∧ (¬ x2 < x0 → w_Exact_isIn_L15 Qr 1 h))))


def w_Exact_isMinus_L20 (Qr : Int32 → xb_H → Prop) (y0 : Int32) (h : xb_H) : Prop :=
    (y0 = 0 ∨ y0 = 1) ∧ Qr y0 h

def w_Exact_isMinus (x0 : Nat) (x1 : Int64) (h : xb_H) (Qr : Int32 → xb_H → Prop) : Prop :=
    xb_k h x0 = 10 ∧ ((¬ ((xb_lshr x1 ((xb_i h x0 5) - 1)) &&& 1) = (1 : Int64) → w_Exact_isMinus_L20 Qr 0 h) ∧ (((xb_lshr x1 ((xb_i h x0 5) - 1)) &&& 1) = (1 : Int64) → w_Exact_isMinus_L20 Qr 1 h))


def w_Exact_moved_L65 (K6 : Int32 → Int32 → Int64 → Int32 → Int64 → Int32 → xb_H → Prop) (Qr : Int64 → xb_H → Prop) (x0 : Int32) (x1 : Int32) (x2 : Int64) (x4 : Int32) (x7 : Int32) (y0 : Int64) (h : xb_H) : Prop :=
    K6 x0 x1 x2 x4 y0 (x7 + 1) h

def w_Exact_moved_L63 (K6 : Int32 → Int32 → Int64 → Int32 → Int64 → Int32 → xb_H → Prop) (Qr : Int64 → xb_H → Prop) (x0 : Int32) (x1 : Int32) (x2 : Int64) (x4 : Int32) (x5 : Int64) (x7 : Int32) (h : xb_H) : Prop :=
    w_Exact_moved_L65 K6 Qr x0 x1 x2 x4 x7 x5 h

def w_Exact_moved_L32 (K6 : Int32 → Int32 → Int64 → Int32 → Int64 → Int32 → xb_H → Prop) (Qr : Int64 → xb_H → Prop) (x0 : Int32) (x1 : Int32) (x2 : Int64) (x4 : Int32) (x7 : Int32) (y0 : Int64) (h : xb_H) : Prop :=
    ((¬ x0 = (14 : Int32) → w_Exact_moved_L63 K6 Qr x0 x1 x2 x4 y0 x7 h) ∧ (x0 = (14 : Int32) → ((¬ ((xb_lshr x2 (x1 - 1)) &&& 1) = (1 : Int64) → w_Exact_moved_L63 K6 Qr x0 x1 x2 x4 y0 x7 h) ∧ (((xb_lshr x2 (x1 - 1)) &&& 1) = (1 : Int64) → w_Exact_moved_L65 K6 Qr x0 x1 x2 x4 x7 (y0 ||| (xb_lshl 1 (x1 - 1))) h))))

def w_Exact_moved_L6 (Qr : Int64 → xb_H → Prop) : Nat → Int32 → Int32 → Int64 → Int32 → Int64 → Int32 → xb_H → Prop
  | 0, _, _, _, _, _, _, _ => False
  | n9 + 1, x0, x1, x2, x4, x5, x7, h =>
    ((x4 ≤ x7 → Qr x5 h) ∧ (¬ x4 ≤ x7 → ((¬ x0 = (13 : Int32) → w_Exact_moved_L32 (w_Exact_moved_L6 Qr n9) Qr x0 x1 x2 x4 x7 (xb_lushr x5 1) h) ∧ (x0 = (13 : Int32) → w_Exact_moved_L32 (w_Exact_moved_L6 Qr n9) Qr x0 x1 x2 x4 x7 (2 * x5) h))))

def w_Exact_moved (x0 : Int32) (x1 : Int32) (x2 : Int64) (x4 : Int32) (h : xb_H) (Qr : Int64 → xb_H → Prop) : Prop :=
    (∃ n8 : Nat, w_Exact_moved_L6 Qr n8 x0 x1 x2 x4 x2 0 h)


def w_Exact_noNumber_L18 (Qr : Int64 → xb_H → Prop) (y0 : Int64) (h : xb_H) : Prop :=
    Qr y0 h

def w_Exact_noNumber (x0 : Nat) (h : xb_H) (Qr : Int64 → xb_H → Prop) : Prop :=
    xb_k h x0 = 10 ∧ ((¬ (xb_i h x0 5) = (32 : Int32) → w_Exact_noNumber_L18 Qr 9221120237041090560 h) ∧ ((xb_i h x0 5) = (32 : Int32) → w_Exact_noNumber_L18 Qr 2143289344 h))


def w_Exact_reach_L37 (Qr : xb_H → Prop) (y0 : Int32) (y1 : Nat) (h : xb_H) : Prop :=
    xb_k h y1 = 10 ∧ ∀ h2 : xb_H, h2 = xb_I h y1 3 y0 → Qr h2

def w_Exact_reach_L17 (Qr : xb_H → Prop) (x0 : Nat) (x2 : Int32) (y0 : Int32) (y1 : Nat) (h : xb_H) : Prop :=
    xb_k h y1 = 10 ∧ ∀ h2 : xb_H, h2 = xb_I h y1 2 y0 → xb_k h2 x0 = 10 ∧ ((x2 ≤ (xb_i h2 x0 3) → w_Exact_reach_L37 Qr (xb_i h2 x0 3) x0 h2) ∧ (¬ x2 ≤ (xb_i h2 x0 3) → w_Exact_reach_L37 Qr x2 x0 h2))

def w_Exact_reach (x0 : Nat) (x1 : Int32) (x2 : Int32) (h : xb_H) (Qr : xb_H → Prop) : Prop :=
    xb_k h x0 = 10 ∧ (((xb_i h x0 2) ≤ x1 → w_Exact_reach_L17 Qr x0 x2 (xb_i h x0 2) x0 h) ∧ (¬ (xb_i h x0 2) ≤ x1 → w_Exact_reach_L17 Qr x0 x2 x1 x0 h))


def w_Exact_result_L86 (Qr : Int32 → xb_H → Prop) (y0 : Int32) (h : xb_H) : Prop :=
    Qr y0 h

def w_Exact_result_L58 (Qr : Int32 → xb_H → Prop) (y0 : Int32) (h : xb_H) : Prop :=
    Qr y0 h

def w_Exact_result_L38 (Qr : Int32 → xb_H → Prop) (y0 : Int32) (h : xb_H) : Prop :=
    Qr y0 h

def w_Exact_result (x0 : Int32) (h : xb_H) (Qr : Int32 → xb_H → Prop) : Prop :=
    (((120 : Int32) < x0 → (((166 : Int32) < x0 → (((177 : Int32) < x0 → (((182 : Int32) < x0 → (((187 : Int32) < x0 → w_Exact_result_L86 Qr (x0 - 188) h) ∧ (¬ (187 : Int32) < x0 → w_Exact_result_L86 Qr 3 h))) ∧ (¬ (182 : Int32) < x0 → w_Exact_result_L86 Qr 2 h))) ∧ (¬ (177 : Int32) < x0 → (((171 : Int32) < x0 → w_Exact_result_L58 Qr 1 h) ∧ (¬ (171 : Int32) < x0 → w_Exact_result_L58 Qr 0 h))))) ∧ (¬ (166 : Int32) < x0 → (((138 : Int32) < x0 → (((152 : Int32) < x0 → w_Exact_result_L38 Qr 3 h) ∧ (¬ (152 : Int32) < x0 → w_Exact_result_L38 Qr 2 h))) ∧ (¬ (138 : Int32) < x0 → w_Exact_result_L38 Qr 1 h))))) ∧ (¬ (120 : Int32) < x0 → Qr 0 h))


def w_Exact_signed_L18 (Qr : Int64 → xb_H → Prop) (y0 : Int64) (h : xb_H) : Prop :=
    Qr y0 h

def w_Exact_signed (x0 : Nat) (x1 : Int64) (x3 : Int32) (h : xb_H) (Qr : Int64 → xb_H → Prop) : Prop :=
    ((x3 = (0 : Int32) → w_Exact_signed_L18 Qr x1 h) ∧ (¬ x3 = (0 : Int32) → xb_k h x0 = 10 ∧ w_Exact_signed_L18 Qr (x1 ||| (xb_lshl 1 ((xb_i h x0 5) - 1))) h))


def w_Exact_size (x0 : Nat) (x1 : Int64) (h : xb_H) (Qr : Int64 → xb_H → Prop) : Prop :=
    xb_k h x0 = 10 ∧ Qr (x1 &&& ((xb_lshl 1 ((xb_i h x0 5) - 1)) - 1)) h


def w_Exact_turned_L43 (K6 : Int32 → Int32 → Int64 → Int32 → xb_H → Prop) (Qr : Int64 → xb_H → Prop) (x2 : Int32) (x3 : Int32) (x6 : Int32) (x7 : Int64) (y0 : Int64) (h : xb_H) : Prop :=
    ∀ v1 : Int64, v1 = (y0 ||| x7) → K6 x2 x3 v1 (x6 + 1) h

def w_Exact_turned_L6 (Qr : Int64 → xb_H → Prop) : Nat → Int32 → Int32 → Int64 → Int32 → xb_H → Prop
  | 0, _, _, _, _, _ => False
  | n9 + 1, x2, x3, x4, x6, h =>
    ((x3 ≤ x6 → Qr x4 h) ∧ (¬ x3 ≤ x6 → ∀ v2 : Int64, v2 = ((xb_lshr x4 (x2 - 1)) &&& 1) → ((¬ x2 = (32 : Int32) → w_Exact_turned_L43 (w_Exact_turned_L6 Qr n9) Qr x2 x3 x6 v2 (xb_lshl x4 1) h) ∧ (x2 = (32 : Int32) → w_Exact_turned_L43 (w_Exact_turned_L6 Qr n9) Qr x2 x3 x6 v2 ((xb_lshl x4 1) &&& 4294967295) h))))

def w_Exact_turned (x0 : Int64) (x2 : Int32) (x3 : Int32) (h : xb_H) (Qr : Int64 → xb_H → Prop) : Prop :=
    (∃ n8 : Nat, w_Exact_turned_L6 Qr n8 x2 x3 x0 0 h)


def w_Exact_withSign_L29 (Qr : Int64 → xb_H → Prop) (y0 : Int64) (h : xb_H) : Prop :=
    Qr y0 h

def w_Exact_withSign_L18 (Qr : Int64 → xb_H → Prop) (x0 : Int64) (h : xb_H) : Prop :=
    w_Exact_withSign_L29 Qr x0 h

def w_Exact_withSign (x0 : Int64) (x2 : Int32) (h : xb_H) (Qr : Int64 → xb_H → Prop) : Prop :=
    ((x2 = (64 : Int32) → w_Exact_withSign_L18 Qr x0 h) ∧ (¬ x2 = (64 : Int32) → ((¬ ((xb_lshr x0 (x2 - 1)) &&& 1) = (0 : Int64) → w_Exact_withSign_L29 Qr (x0 ||| (xb_lshl (-1) x2)) h) ∧ (((xb_lshr x0 (x2 - 1)) &&& 1) = (0 : Int64) → w_Exact_withSign_L18 Qr x0 h))))


def w_Integer_bitCount (x0 : Int32) (h : xb_H) (Qr : Int32 → xb_H → Prop) : Prop :=
    ∀ v1 : Int32, v1 = (x0 - ((xb_ushr x0 1) &&& 1431655765)) → ∀ v2 : Int32, v2 = ((v1 &&& 858993459) + ((xb_ushr v1 2) &&& 858993459)) → ∀ v3 : Int32, v3 = ((v2 + (xb_ushr v2 4)) &&& 252645135) → ∀ v4 : Int32, v4 = (v3 + (xb_ushr v3 8)) → ∀ v5 : Int32, v5 = (v4 + (xb_ushr v4 16)) → Qr (v5 &&& 63) h


def w_Long_bitCount (x0 : Int64) (h : xb_H) (Qr : Int32 → xb_H → Prop) : Prop :=
    ∀ v1 : Int64, v1 = (x0 - ((xb_lushr x0 1) &&& 6148914691236517205)) → ∀ v2 : Int64, v2 = ((v1 &&& 3689348814741910323) + ((xb_lushr v1 2) &&& 3689348814741910323)) → ∀ v3 : Int64, v3 = ((v2 + (xb_lushr v2 4)) &&& 1085102592571150095) → ∀ v4 : Int64, v4 = (v3 + (xb_lushr v3 8)) → ∀ v5 : Int64, v5 = (v4 + (xb_lushr v4 16)) → ∀ v6 : Int64, v6 = (v5 + (xb_lushr v5 32)) → Qr ((Int64.toInt32 v6) &&& 127) h


def w_Arrays_copyOf0 (x0 : Nat) (x1 : Int32) (h : xb_H) (bc : Nat) (bs : Nat) (Qr : Nat → xb_H → Nat → Nat → Prop) : Prop :=
    xb_k h x0 = 100 ∧ ((¬ x1 = (nI (xb_n h x0)) → ¬ x1 < 0 ∧ (Int32.toNatClampNeg x1) * 1 ≤ 536870912 ∧ 1 ≤ bc ∧ (Int32.toNatClampNeg x1) ≤ bs ∧ ∀ q3 : Nat, xb_k h q3 = 0 → ∀ h4 : xb_H, h4 = xb_new h q3 100 (Int32.toNatClampNeg x1) → (¬ 0 < (0 : Int32) ∧ ¬ 0 < (0 : Int32) ∧ ¬ (if x1 < (nI (xb_n h4 x0)) then x1 else (nI (xb_n h4 x0))) < (0 : Int32) ∧ (Int32.toNatClampNeg 0) + (Int32.toNatClampNeg (if x1 < (nI (xb_n h4 x0)) then x1 else (nI (xb_n h4 x0)))) ≤ xb_n h4 x0 ∧ (Int32.toNatClampNeg 0) + (Int32.toNatClampNeg (if x1 < (nI (xb_n h4 x0)) then x1 else (nI (xb_n h4 x0)))) ≤ xb_n h4 q3) ∧ ∀ h7 : xb_H, h7 = xb_Ia h4 q3 (va_cpy (xb_i h4 x0) (xb_i h4 q3) (Int32.toNatClampNeg 0) (Int32.toNatClampNeg 0) (Int32.toNatClampNeg (if x1 < (nI (xb_n h4 x0)) then x1 else (nI (xb_n h4 x0))))) → Qr q3 h7 (bc - 1) (bs - (Int32.toNatClampNeg x1))) ∧ (x1 = (nI (xb_n h x0)) → 1 ≤ bc ∧ (xb_n h x0) ≤ bs ∧ ∀ q8 : Nat, xb_k h q8 = 0 → ∀ h9 : xb_H, h9 = xb_Ia (xb_new h q8 100 (xb_n h x0)) q8 (xb_i h x0) → Qr q8 h9 (bc - 1) (bs - (xb_n h x0))))


def w_Arrays_copyOf1 (x0 : Nat) (x1 : Int32) (h : xb_H) (bc : Nat) (bs : Nat) (Qr : Nat → xb_H → Nat → Nat → Prop) : Prop :=
    xb_k h x0 = 103 ∧ ((¬ x1 = (nI (xb_n h x0)) → ¬ x1 < 0 ∧ (Int32.toNatClampNeg x1) * 8 ≤ 536870912 ∧ 1 ≤ bc ∧ (Int32.toNatClampNeg x1) ≤ bs ∧ ∀ q3 : Nat, xb_k h q3 = 0 → ∀ h4 : xb_H, h4 = xb_new h q3 103 (Int32.toNatClampNeg x1) → (¬ 0 < (0 : Int32) ∧ ¬ 0 < (0 : Int32) ∧ ¬ (if x1 < (nI (xb_n h4 x0)) then x1 else (nI (xb_n h4 x0))) < (0 : Int32) ∧ (Int32.toNatClampNeg 0) + (Int32.toNatClampNeg (if x1 < (nI (xb_n h4 x0)) then x1 else (nI (xb_n h4 x0)))) ≤ xb_n h4 x0 ∧ (Int32.toNatClampNeg 0) + (Int32.toNatClampNeg (if x1 < (nI (xb_n h4 x0)) then x1 else (nI (xb_n h4 x0)))) ≤ xb_n h4 q3) ∧ ∀ h7 : xb_H, h7 = xb_La h4 q3 (va_cpy (xb_l h4 x0) (xb_l h4 q3) (Int32.toNatClampNeg 0) (Int32.toNatClampNeg 0) (Int32.toNatClampNeg (if x1 < (nI (xb_n h4 x0)) then x1 else (nI (xb_n h4 x0))))) → Qr q3 h7 (bc - 1) (bs - (Int32.toNatClampNeg x1))) ∧ (x1 = (nI (xb_n h x0)) → 1 ≤ bc ∧ (xb_n h x0) ≤ bs ∧ ∀ q8 : Nat, xb_k h q8 = 0 → ∀ h9 : xb_H, h9 = xb_La (xb_new h q8 103 (xb_n h x0)) q8 (xb_l h x0) → Qr q8 h9 (bc - 1) (bs - (xb_n h x0))))


def w_Arrays_rangeCheck (x0 : Int32) (x1 : Int32) (x2 : Int32) (h : xb_H) (Qr : xb_H → Prop) : Prop :=
    ((x1 ≤ x2 → (((0 : Int32) ≤ x1 → ((x2 ≤ x0 → Qr h) ∧ (¬ x2 ≤ x0 → False))) ∧ (¬ (0 : Int32) ≤ x1 → False))) ∧ (¬ x1 ≤ x2 → False))


def w_H_feed_L59 (Qr : Int32 → xb_H → Nat → Nat → Prop) (Qt : String → xb_H → Nat → Nat → Prop) (x0 : Nat) (x1 : Int32) (x2 : Int32) (x3 : Int32) (x4 : Int32) (x5 : Int32) (h : xb_H) (bc : Nat) (bs : Nat) : Prop :=
    xb_k h x0 = 1 ∧ w_H_feedNumber x0 x1 h (fun (h2 : xb_H) => xb_ext h h2 → w_H_feedNumber x0 x2 h2 (fun (h4 : xb_H) => xb_ext h2 h4 → w_H_feedNumber x0 x3 h4 (fun (h6 : xb_H) => xb_ext h4 h6 → w_H_feedNumber x0 x4 h6 (fun (h8 : xb_H) => xb_ext h6 h8 → w_H_feedNumber x0 x5 h8 (fun (h10 : xb_H) => xb_ext h8 h10 → Qr (xb_i h10 x0 1) h10 bc bs)))))

def w_H_feed (x0 : Nat) (x1 : Int32) (x2 : Int32) (x3 : Int32) (x4 : Int32) (x5 : Int32) (h : xb_H) (bc : Nat) (bs : Nat) (Qr : Int32 → xb_H → Nat → Nat → Prop) (Qt : String → xb_H → Nat → Nat → Prop) : Prop :=
    xb_k h x0 = 1 ∧ (((xb_i h x0 1) ≤ (65516 : Int32) → ∃ b3 : Nat, (xb_r h x0 0) = some b3 ∧ xb_k h b3 = 100 ∧ ((((xb_i h x0 1) + 20) ≤ (nI (xb_n h b3)) → w_H_feed_L59 Qr Qt x0 x1 x2 x3 x4 x5 h bc bs) ∧ (¬ ((xb_i h x0 1) + 20) ≤ (nI (xb_n h b3)) → ∃ b6 : Nat, (xb_r h x0 0) = some b6 ∧ w_Arrays_copyOf0 b6 (if (2 * ((xb_i h x0 1) + 20)) < 65536 then (2 * ((xb_i h x0 1) + 20)) else 65536) h bc bs (fun (r8 : Nat) (h7 : xb_H) (bc8 bs8 : Nat) => xb_ext h h7 → ∀ h9 : xb_H, h9 = xb_P h7 x0 0 (some r8) → w_H_feed_L59 Qr Qt x0 x1 x2 x3 x4 x5 h9 bc8 bs8)))) ∧ (¬ (xb_i h x0 1) ≤ (65516 : Int32) → 1 ≤ bc ∧ 6 ≤ bs ∧ Qt "java/lang/IllegalStateException" h (bc - 1) (bs - 6)))


def w_H_memoryWith_L25 (Qr : Nat → xb_H → Nat → Nat → Prop) (Qt : String → xb_H → Nat → Nat → Prop) (h : xb_H) (bc : Nat) (bs : Nat) : Prop :=
    1 ≤ bc ∧ 6 ≤ bs ∧ Qt "java/lang/IndexOutOfBoundsException" h (bc - 1) (bs - 6)

def w_H_memoryWith (x0 : Nat) (x1 : Int32) (x2 : Int32) (h : xb_H) (bc : Nat) (bs : Nat) (Qr : Nat → xb_H → Nat → Nat → Prop) (Qt : String → xb_H → Nat → Nat → Prop) : Prop :=
    xb_k h x0 = 1 ∧ w_H_instanceNumbered x0 x1 h bc bs (fun (r3 : Nat) (h2 : xb_H) (bc3 bs3 : Nat) => xb_ext h h2 → xb_k h2 r3 = 11 ∧ (((xb_r h2 r3 7) = none → w_H_memoryWith_L25 Qr Qt h2 bc3 bs3) ∧ (∀ b5 : Nat, (xb_r h2 r3 7) = some b5 → ((x2 < (0 : Int32) → w_H_memoryWith_L25 Qr Qt h2 bc3 bs3) ∧ (¬ x2 < (0 : Int32) → xb_k h2 b5 = 13 ∧ w_Memory_bytes b5 h2 (fun (r9 : Int32) (h8 : xb_H) => xb_ext h2 h8 → ((x2 < r9 → Qr b5 h8 bc3 bs3) ∧ (¬ x2 < r9 → w_H_memoryWith_L25 Qr Qt h8 bc3 bs3)))))))) Qt


def w_H_module (x0 : Nat) (x1 : Int32) (x2 : Int32) (h : xb_H) (bc : Nat) (bs : Nat) (Qr : Int32 → xb_H → Nat → Nat → Prop) (Qt : String → xb_H → Nat → Nat → Prop) : Prop :=
    xb_k h x0 = 1 ∧ w_H_moduleNumbered x0 x1 h bc bs (fun (r3 : Nat) (h2 : xb_H) (bc3 bs3 : Nat) => xb_ext h h2 → ((x2 = 0 → xb_k h2 r3 = 3 ∧ ∃ b6 : Nat, (xb_r h2 r3 2) = some b6 ∧ xb_k h2 b6 = 2 ∧ w_Row_lines b6 h2 (fun (r9 : Int32) (h8 : xb_H) => xb_ext h2 h8 → Qr r9 h8 bc3 bs3)) ∧ (x2 = 1 → xb_k h2 r3 = 3 ∧ ∃ b12 : Nat, (xb_r h2 r3 3) = some b12 ∧ xb_k h2 b12 = 2 ∧ w_Row_lines b12 h2 (fun (r15 : Int32) (h14 : xb_H) => xb_ext h2 h14 → Qr r15 h14 bc3 bs3)) ∧ (x2 = 2 → xb_k h2 r3 = 3 ∧ ∃ b18 : Nat, (xb_r h2 r3 4) = some b18 ∧ xb_k h2 b18 = 2 ∧ w_Row_lines b18 h2 (fun (r21 : Int32) (h20 : xb_H) => xb_ext h2 h20 → Qr r21 h20 bc3 bs3)) ∧ (x2 = 3 → xb_k h2 r3 = 3 ∧ ∃ b24 : Nat, (xb_r h2 r3 5) = some b24 ∧ xb_k h2 b24 = 2 ∧ w_Row_lines b24 h2 (fun (r27 : Int32) (h26 : xb_H) => xb_ext h2 h26 → Qr r27 h26 bc3 bs3)) ∧ (x2 = 4 → xb_k h2 r3 = 3 ∧ ∃ b30 : Nat, (xb_r h2 r3 6) = some b30 ∧ xb_k h2 b30 = 2 ∧ w_Row_lines b30 h2 (fun (r33 : Int32) (h32 : xb_H) => xb_ext h2 h32 → Qr r33 h32 bc3 bs3)) ∧ (x2 = 5 → xb_k h2 r3 = 3 ∧ ∃ b36 : Nat, (xb_r h2 r3 7) = some b36 ∧ xb_k h2 b36 = 2 ∧ w_Row_lines b36 h2 (fun (r39 : Int32) (h38 : xb_H) => xb_ext h2 h38 → Qr r39 h38 bc3 bs3)) ∧ (x2 = 6 → xb_k h2 r3 = 3 ∧ ∃ b42 : Nat, (xb_r h2 r3 8) = some b42 ∧ xb_k h2 b42 = 2 ∧ w_Row_lines b42 h2 (fun (r45 : Int32) (h44 : xb_H) => xb_ext h2 h44 → Qr r45 h44 bc3 bs3)) ∧ (x2 = 7 → xb_k h2 r3 = 3 ∧ ∃ b48 : Nat, (xb_r h2 r3 9) = some b48 ∧ xb_k h2 b48 = 2 ∧ w_Row_lines b48 h2 (fun (r51 : Int32) (h50 : xb_H) => xb_ext h2 h50 → Qr r51 h50 bc3 bs3)) ∧ (x2 = 8 → xb_k h2 r3 = 3 ∧ ∃ b54 : Nat, (xb_r h2 r3 13) = some b54 ∧ xb_k h2 b54 = 2 ∧ w_Row_lines b54 h2 (fun (r57 : Int32) (h56 : xb_H) => xb_ext h2 h56 → Qr r57 h56 bc3 bs3)) ∧ (¬ x2 = 0 → ¬ x2 = 1 → ¬ x2 = 2 → ¬ x2 = 3 → ¬ x2 = 4 → ¬ x2 = 5 → ¬ x2 = 6 → ¬ x2 = 7 → ¬ x2 = 8 → 1 ≤ bc3 ∧ 6 ≤ bs3 ∧ Qt "java/lang/IndexOutOfBoundsException" h2 (bc3 - 1) (bs3 - 6)))) Qt


def w_H_pages_L21 (Qr : Int32 → xb_H → Nat → Nat → Prop) (Qt : String → xb_H → Nat → Nat → Prop) (y0 : Int32) (h : xb_H) (bc : Nat) (bs : Nat) : Prop :=
    Qr y0 h bc bs

def w_H_pages (x0 : Nat) (x1 : Int32) (h : xb_H) (bc : Nat) (bs : Nat) (Qr : Int32 → xb_H → Nat → Nat → Prop) (Qt : String → xb_H → Nat → Nat → Prop) : Prop :=
    xb_k h x0 = 1 ∧ w_H_instanceNumbered x0 x1 h bc bs (fun (r3 : Nat) (h2 : xb_H) (bc3 bs3 : Nat) => xb_ext h h2 → xb_k h2 r3 = 11 ∧ (((xb_r h2 r3 7) = none → w_H_pages_L21 Qr Qt (-1) h2 bc3 bs3) ∧ (∀ b5 : Nat, (xb_r h2 r3 7) = some b5 → xb_k h2 b5 = 13 ∧ w_H_pages_L21 Qr Qt (xb_i h2 b5 3) h2 bc3 bs3))) Qt


def w_H_refuseExportBeyond_L15 (Qr : xb_H → Nat → Nat → Prop) (Qt : String → xb_H → Nat → Nat → Prop) (h : xb_H) (bc : Nat) (bs : Nat) : Prop :=
    1 ≤ bc ∧ 6 ≤ bs ∧ Qt "java/lang/IndexOutOfBoundsException" h (bc - 1) (bs - 6)

def w_H_refuseExportBeyond (x0 : Nat) (x1 : Nat) (x2 : Int32) (h : xb_H) (bc : Nat) (bs : Nat) (Qr : xb_H → Nat → Nat → Prop) (Qt : String → xb_H → Nat → Nat → Prop) : Prop :=
    ((x2 < (0 : Int32) → w_H_refuseExportBeyond_L15 Qr Qt h bc bs) ∧ (¬ x2 < (0 : Int32) → xb_k h x1 = 3 ∧ ∃ b3 : Nat, (xb_r h x1 8) = some b3 ∧ xb_k h b3 = 2 ∧ w_Row_lines b3 h (fun (r6 : Int32) (h5 : xb_H) => xb_ext h h5 → ((x2 < r6 → Qr h5 bc bs) ∧ (¬ x2 < r6 → w_H_refuseExportBeyond_L15 Qr Qt h5 bc bs)))))


def w_H_room_L21 (Qr : Int32 → xb_H → Nat → Nat → Prop) (Qt : String → xb_H → Nat → Nat → Prop) (h : xb_H) (bc : Nat) (bs : Nat) : Prop :=
    1 ≤ bc ∧ 6 ≤ bs ∧ Qt "java/lang/IndexOutOfBoundsException" h (bc - 1) (bs - 6)

def w_H_room (x0 : Nat) (x1 : Int32) (x2 : Int32) (h : xb_H) (bc : Nat) (bs : Nat) (Qr : Int32 → xb_H → Nat → Nat → Prop) (Qt : String → xb_H → Nat → Nat → Prop) : Prop :=
    xb_k h x0 = 1 ∧ w_H_moduleNumbered x0 x1 h bc bs (fun (r3 : Nat) (h2 : xb_H) (bc3 bs3 : Nat) => xb_ext h h2 → ((x2 < (0 : Int32) → w_H_room_L21 Qr Qt h2 bc3 bs3) ∧ (¬ x2 < (0 : Int32) → xb_k h2 r3 = 3 ∧ ∃ b6 : Nat, (xb_r h2 r3 11) = some b6 ∧ xb_k h2 b6 = 2 ∧ w_Row_lines b6 h2 (fun (r9 : Int32) (h8 : xb_H) => xb_ext h2 h8 → ((x2 < r9 → ∃ b11 : Nat, (xb_r h8 r3 11) = some b11 ∧ xb_k h8 b11 = 2 ∧ w_Row_at b11 x2 4 h8 (fun (r14 : Int32) (h13 : xb_H) => xb_ext h8 h13 → Qr r14 h13 bc3 bs3)) ∧ (¬ x2 < r9 → w_H_room_L21 Qr Qt h8 bc3 bs3)))))) Qt


def w_H_stop (x0 : Nat) (h : xb_H) (Qr : Int32 → xb_H → Prop) : Prop :=
    xb_k h x0 = 1 ∧ ∃ b2 : Nat, (xb_r h x0 7) = some b2 ∧ xb_k h b2 = 8 ∧ w_Machine_giveUp b2 h (fun (r5 : Int32) (h4 : xb_H) => xb_ext h h4 → Qr r5 h4)


def w_H_variable_L24 (Qr : Int64 → xb_H → Nat → Nat → Prop) (Qt : String → xb_H → Nat → Nat → Prop) (h : xb_H) (bc : Nat) (bs : Nat) : Prop :=
    1 ≤ bc ∧ 6 ≤ bs ∧ Qt "java/lang/IndexOutOfBoundsException" h (bc - 1) (bs - 6)

def w_H_variable (x0 : Nat) (x1 : Int32) (x2 : Int32) (h : xb_H) (bc : Nat) (bs : Nat) (Qr : Int64 → xb_H → Nat → Nat → Prop) (Qt : String → xb_H → Nat → Nat → Prop) : Prop :=
    xb_k h x0 = 1 ∧ w_H_instanceNumbered x0 x1 h bc bs (fun (r3 : Nat) (h2 : xb_H) (bc3 bs3 : Nat) => xb_ext h h2 → ((x2 < (0 : Int32) → w_H_variable_L24 Qr Qt h2 bc3 bs3) ∧ (¬ x2 < (0 : Int32) → xb_k h2 r3 = 11 ∧ ∃ b6 : Nat, (xb_r h2 r3 1) = some b6 ∧ xb_k h2 b6 = 3 ∧ ∃ b8 : Nat, (xb_r h2 b6 7) = some b8 ∧ xb_k h2 b8 = 2 ∧ w_Row_lines b8 h2 (fun (r11 : Int32) (h10 : xb_H) => xb_ext h2 h10 → ((x2 < r11 → ∃ b13 : Nat, (xb_r h10 x0 6) = some b13 ∧ xb_k h10 b13 = 7 ∧ ∃ b15 : Nat, (xb_r h10 b13 3) = some b15 ∧ xb_k h10 b15 = 2 ∧ ∃ b17 : Nat, (xb_r h10 b15 0) = some b17 ∧ w_Instance_variableId r3 x2 h10 (fun (r19 : Int32) (h18 : xb_H) => xb_ext h10 h18 → xb_k h18 b17 = 103 ∧ vp_in r19 (xb_n h18 b17) ∧ Qr (xb_l h18 b17 (Int32.toNatClampNeg r19)) h18 bc3 bs3)) ∧ (¬ x2 < r11 → w_H_variable_L24 Qr Qt h10 bc3 bs3)))))) Qt


def w_Checker_checkExpression_L185 (Qr : xb_H → Nat → Nat → Prop) (Qt : String → xb_H → Nat → Nat → Prop) (h : xb_H) (bc : Nat) (bs : Nat) : Prop :=
    Qr h bc bs

def w_Checker_checkExpression_L154 (Qr : xb_H → Nat → Nat → Prop) (Qt : String → xb_H → Nat → Nat → Prop) (x0 : Nat) (x1 : Int32) (h : xb_H) (bc : Nat) (bs : Nat) : Prop :=
    xb_k h x0 = 5 ∧ ∃ b2 : Nat, (xb_r h x0 2) = some b2 ∧ xb_k h b2 = 102 ∧ vp_in x1 (xb_n h b2) ∧ ∀ v5 : Int32, v5 = (xb_i h b2 (Int32.toNatClampNeg x1)) → ∃ b6 : Nat, (xb_r h x0 1) = some b6 ∧ xb_k h b6 = 100 ∧ vp_in v5 (xb_n h b6) ∧ (((xb_i h b6 (Int32.toNatClampNeg v5)) = (11 : Int32) → w_Checker_checkExpression_L185 Qr Qt h bc bs) ∧ (¬ (xb_i h b6 (Int32.toNatClampNeg v5)) = (11 : Int32) → ∃ b10 : Nat, (xb_r h x0 0) = some b10 ∧ xb_k h b10 = 3 ∧ w_StackModule_fail b10 26 v5 h bc bs (fun (h12 : xb_H) (bc13 bs13 : Nat) => xb_ext h h12 → w_Checker_checkExpression_L185 Qr Qt h12 bc13 bs13) Qt))

def w_Checker_checkExpression_L144 (Qr : xb_H → Nat → Nat → Prop) (Qt : String → xb_H → Nat → Nat → Prop) (x0 : Nat) (x1 : Int32) (h : xb_H) (bc : Nat) (bs : Nat) : Prop :=
    xb_k h x0 = 5 ∧ ∃ b2 : Nat, (xb_r h x0 0) = some b2 ∧ xb_k h b2 = 3 ∧ w_StackModule_fail b2 26 x1 h bc bs (fun (h4 : xb_H) (bc5 bs5 : Nat) => xb_ext h h4 → w_Checker_checkExpression_L154 Qr Qt x0 x1 h4 bc5 bs5) Qt

def w_Checker_checkExpression_L105 (Qr : xb_H → Nat → Nat → Prop) (Qt : String → xb_H → Nat → Nat → Prop) (x0 : Nat) (x1 : Int32) (h : xb_H) (bc : Nat) (bs : Nat) : Prop :=
    w_Checker_checkExpression_L154 Qr Qt x0 x1 h bc bs

def w_Checker_checkExpression_L78 (Qr : xb_H → Nat → Nat → Prop) (Qt : String → xb_H → Nat → Nat → Prop) (x0 : Nat) (x1 : Int32) (x2 : Int32) (x4 : Int32) (h : xb_H) (bc : Nat) (bs : Nat) : Prop :=
    xb_k h x0 = 5 ∧ ∃ b2 : Nat, (xb_r h x0 0) = some b2 ∧ xb_k h b2 = 3 ∧ ∃ b4 : Nat, (xb_r h b2 7) = some b4 ∧ xb_k h b4 = 2 ∧ w_Row_at b4 x4 1 h (fun (r7 : Int32) (h6 : xb_H) => xb_ext h h6 → ((r7 = x2 → w_Checker_checkExpression_L105 Qr Qt x0 x1 h6 bc bs) ∧ (¬ r7 = x2 → ∃ b9 : Nat, (xb_r h6 x0 0) = some b9 ∧ xb_k h6 b9 = 3 ∧ w_StackModule_fail b9 21 x1 h6 bc bs (fun (h11 : xb_H) (bc12 bs12 : Nat) => xb_ext h6 h11 → w_Checker_checkExpression_L105 Qr Qt x0 x1 h11 bc12 bs12) Qt)))

def w_Checker_checkExpression_L51 (Qr : xb_H → Nat → Nat → Prop) (Qt : String → xb_H → Nat → Nat → Prop) (x0 : Nat) (x1 : Int32) (x2 : Int32) (x4 : Int32) (h : xb_H) (bc : Nat) (bs : Nat) : Prop :=
    xb_k h x0 = 5 ∧ ∃ b2 : Nat, (xb_r h x0 0) = some b2 ∧ xb_k h b2 = 3 ∧ ∃ b4 : Nat, (xb_r h b2 7) = some b4 ∧ xb_k h b4 = 2 ∧ w_Row_at b4 x4 2 h (fun (r7 : Int32) (h6 : xb_H) => xb_ext h h6 → ((¬ r7 = (1 : Int32) → w_Checker_checkExpression_L78 Qr Qt x0 x1 x2 x4 h6 bc bs) ∧ (r7 = (1 : Int32) → ∃ b9 : Nat, (xb_r h6 x0 0) = some b9 ∧ xb_k h6 b9 = 3 ∧ w_StackModule_fail b9 26 x1 h6 bc bs (fun (h11 : xb_H) (bc12 bs12 : Nat) => xb_ext h6 h11 → w_Checker_checkExpression_L78 Qr Qt x0 x1 x2 x4 h11 bc12 bs12) Qt)))

def w_Checker_checkExpression (x0 : Nat) (x1 : Int32) (x2 : Int32) (h : xb_H) (bc : Nat) (bs : Nat) (Qr : xb_H → Nat → Nat → Prop) (Qt : String → xb_H → Nat → Nat → Prop) : Prop :=
    xb_k h x0 = 5 ∧ ∃ b2 : Nat, (xb_r h x0 1) = some b2 ∧ xb_k h b2 = 100 ∧ vp_in x1 (xb_n h b2) ∧ ∀ v5 : Int32, v5 = (xb_i h b2 (Int32.toNatClampNeg x1)) → ((¬ v5 = (35 : Int32) → ((v5 < (65 : Int32) → w_Checker_checkExpression_L144 Qr Qt x0 x1 h bc bs) ∧ (¬ v5 < (65 : Int32) → (((68 : Int32) < v5 → w_Checker_checkExpression_L144 Qr Qt x0 x1 h bc bs) ∧ (¬ (68 : Int32) < v5 → (((127 - (v5 - 65)) = x2 → w_Checker_checkExpression_L154 Qr Qt x0 x1 h bc bs) ∧ (¬ (127 - (v5 - 65)) = x2 → ∃ b10 : Nat, (xb_r h x0 0) = some b10 ∧ xb_k h b10 = 3 ∧ w_StackModule_fail b10 21 x1 h bc bs (fun (h12 : xb_H) (bc13 bs13 : Nat) => xb_ext h h12 → w_Checker_checkExpression_L154 Qr Qt x0 x1 h12 bc13 bs13) Qt))))))) ∧ (v5 = (35 : Int32) → ∃ b14 : Nat, (xb_r h x0 2) = some b14 ∧ xb_k h b14 = 102 ∧ vp_in (x1 + 1) (xb_n h b14) ∧ ∀ v17 : Int32, v17 = (xb_i h b14 (Int32.toNatClampNeg (x1 + 1))) → ∃ b18 : Nat, (xb_r h x0 0) = some b18 ∧ xb_k h b18 = 3 ∧ ∃ b20 : Nat, (xb_r h b18 14) = some b20 ∧ xb_k h b20 = 102 ∧ vp_in 3 (xb_n h b20) ∧ w_Checker_isThere (Int32.toInt64 v17) (xb_i h b20 3) h (fun (r24 : Int32) (h23 : xb_H) => xb_ext h h23 → ((¬ r24 = (0 : Int32) → w_Checker_checkExpression_L51 Qr Qt x0 x1 x2 v17 h23 bc bs) ∧ (r24 = (0 : Int32) → ∃ b26 : Nat, (xb_r h23 x0 0) = some b26 ∧ xb_k h23 b26 = 3 ∧ w_StackModule_fail b26 20 x1 h23 bc bs (fun (h28 : xb_H) (bc29 bs29 : Nat) => xb_ext h23 h28 → w_Checker_checkExpression_L51 Qr Qt x0 x1 x2 v17 h28 bc29 bs29) Qt)))))


def w_Checker_checkFunction_L49 (Qr : xb_H → Nat → Nat → Prop) (Qt : String → xb_H → Nat → Nat → Prop) (h : xb_H) (bc : Nat) (bs : Nat) : Prop :=
    Qr h bc bs

def w_Checker_checkFunction (x0 : Nat) (x1 : Int32) (h : xb_H) (bc : Nat) (bs : Nat) (Qr : xb_H → Nat → Nat → Prop) (Qt : String → xb_H → Nat → Nat → Prop) : Prop :=
    xb_k h x0 = 5 ∧ ∃ b2 : Nat, (xb_r h x0 0) = some b2 ∧ xb_k h b2 = 3 ∧ ∃ b4 : Nat, (xb_r h b2 4) = some b4 ∧ xb_k h b4 = 2 ∧ w_Row_longAt b4 x1 1 h (fun (r7 : Int64) (h6 : xb_H) => xb_ext h h6 → ∃ b8 : Nat, (xb_r h6 x0 0) = some b8 ∧ xb_k h6 b8 = 3 ∧ ∃ b10 : Nat, (xb_r h6 b8 2) = some b10 ∧ xb_k h6 b10 = 2 ∧ w_Row_lines b10 h6 (fun (r13 : Int32) (h12 : xb_H) => xb_ext h6 h12 → w_Checker_isThere r7 r13 h12 (fun (r15 : Int32) (h14 : xb_H) => xb_ext h12 h14 → ((¬ r15 = (0 : Int32) → w_Checker_checkFunction_L49 Qr Qt h14 bc bs) ∧ (r15 = (0 : Int32) → ∃ b17 : Nat, (xb_r h14 x0 0) = some b17 ∧ ∃ b18 : Nat, (xb_r h14 x0 0) = some b18 ∧ xb_k h14 b18 = 3 ∧ ∃ b20 : Nat, (xb_r h14 b18 4) = some b20 ∧ xb_k h14 b20 = 2 ∧ w_Row_at b20 x1 0 h14 (fun (r23 : Int32) (h22 : xb_H) => xb_ext h14 h22 → xb_k h22 b17 = 3 ∧ w_StackModule_fail b17 20 r23 h22 bc bs (fun (h25 : xb_H) (bc26 bs26 : Nat) => xb_ext h22 h25 → w_Checker_checkFunction_L49 Qr Qt h25 bc26 bs26) Qt))))))


def w_Checker_checkLabel_L30 (Qr : Int32 → xb_H → Nat → Nat → Prop) (Qt : String → xb_H → Nat → Nat → Prop) (x0 : Nat) (x1 : Int32) (h : xb_H) (bc : Nat) (bs : Nat) : Prop :=
    xb_k h x0 = 5 ∧ ∃ b2 : Nat, (xb_r h x0 2) = some b2 ∧ xb_k h b2 = 102 ∧ vp_in x1 (xb_n h b2) ∧ ∀ v5 : Int32, v5 = (((xb_i h x0 16) - 1) - (xb_i h b2 (Int32.toNatClampNeg x1))) → ∃ b6 : Nat, (xb_r h x0 2) = some b6 ∧ ∃ b7 : Nat, (xb_r h x0 11) = some b7 ∧ xb_k h b7 = 102 ∧ vp_in v5 (xb_n h b7) ∧ xb_k h b6 = 102 ∧ vp_in x1 (xb_n h b6) ∧ ∀ h12 : xb_H, h12 = xb_I h b6 (Int32.toNatClampNeg x1) (xb_i h b7 (Int32.toNatClampNeg v5)) → Qr v5 h12 bc bs

def w_Checker_checkLabel (x0 : Nat) (x1 : Int32) (h : xb_H) (bc : Nat) (bs : Nat) (Qr : Int32 → xb_H → Nat → Nat → Prop) (Qt : String → xb_H → Nat → Nat → Prop) : Prop :=
    xb_k h x0 = 5 ∧ ∃ b2 : Nat, (xb_r h x0 2) = some b2 ∧ xb_k h b2 = 102 ∧ vp_in x1 (xb_n h b2) ∧ w_Checker_isThere (Int32.toInt64 (xb_i h b2 (Int32.toNatClampNeg x1))) (xb_i h x0 16) h (fun (r6 : Int32) (h5 : xb_H) => xb_ext h h5 → ((¬ r6 = (0 : Int32) → w_Checker_checkLabel_L30 Qr Qt x0 x1 h5 bc bs) ∧ (r6 = (0 : Int32) → ∃ b8 : Nat, (xb_r h5 x0 0) = some b8 ∧ xb_k h5 b8 = 3 ∧ w_StackModule_fail b8 20 (xb_i h5 x0 9) h5 bc bs (fun (h10 : xb_H) (bc11 bs11 : Nat) => xb_ext h5 h10 → w_Checker_checkLabel_L30 Qr Qt x0 x1 h10 bc11 bs11) Qt)))


def w_Checker_checkLimits_L81 (Qr : xb_H → Nat → Nat → Prop) (Qt : String → xb_H → Nat → Nat → Prop) (h : xb_H) (bc : Nat) (bs : Nat) : Prop :=
    Qr h bc bs

def w_Checker_checkLimits_L66 (Qr : xb_H → Nat → Nat → Prop) (Qt : String → xb_H → Nat → Nat → Prop) (x0 : Nat) (x2 : Int32) (x9 : Int32) (h : xb_H) (bc : Nat) (bs : Nat) : Prop :=
    ((x2 ≤ (0 : Int32) → w_Checker_checkLimits_L81 Qr Qt h bc bs) ∧ (¬ x2 ≤ (0 : Int32) → xb_k h x0 = 5 ∧ ∃ b3 : Nat, (xb_r h x0 0) = some b3 ∧ xb_k h b3 = 3 ∧ w_StackModule_fail b3 27 x9 h bc bs (fun (h5 : xb_H) (bc6 bs6 : Nat) => xb_ext h h5 → w_Checker_checkLimits_L81 Qr Qt h5 bc6 bs6) Qt))

def w_Checker_checkLimits_L55 (Qr : xb_H → Nat → Nat → Prop) (Qt : String → xb_H → Nat → Nat → Prop) (x0 : Nat) (x2 : Int32) (x9 : Int32) (h : xb_H) (bc : Nat) (bs : Nat) : Prop :=
    xb_k h x0 = 5 ∧ ∃ b2 : Nat, (xb_r h x0 0) = some b2 ∧ xb_k h b2 = 3 ∧ w_StackModule_fail b2 25 x9 h bc bs (fun (h4 : xb_H) (bc5 bs5 : Nat) => xb_ext h h4 → w_Checker_checkLimits_L66 Qr Qt x0 x2 x9 h4 bc5 bs5) Qt

def w_Checker_checkLimits (x0 : Nat) (x1 : Nat) (x2 : Int32) (x3 : Int64) (h : xb_H) (bc : Nat) (bs : Nat) (Qr : xb_H → Nat → Nat → Prop) (Qt : String → xb_H → Nat → Nat → Prop) : Prop :=
    xb_k h x1 = 2 ∧ w_Row_longAt x1 x2 1 h (fun (r3 : Int64) (h2 : xb_H) => xb_ext h h2 → w_Row_longAt x1 x2 2 h2 (fun (r5 : Int64) (h4 : xb_H) => xb_ext h2 h4 → w_Row_at x1 x2 0 h4 (fun (r7 : Int32) (h6 : xb_H) => xb_ext h4 h6 → ((x3 < r3 → w_Checker_checkLimits_L55 Qr Qt x0 x2 r7 h6 bc bs) ∧ (¬ x3 < r3 → ((x3 < r5 → w_Checker_checkLimits_L55 Qr Qt x0 x2 r7 h6 bc bs) ∧ (¬ x3 < r5 → ((r5 = ((-1) : Int64) → w_Checker_checkLimits_L66 Qr Qt x0 x2 r7 h6 bc bs) ∧ (¬ r5 = ((-1) : Int64) → ((r3 ≤ r5 → w_Checker_checkLimits_L66 Qr Qt x0 x2 r7 h6 bc bs) ∧ (¬ r3 ≤ r5 → w_Checker_checkLimits_L55 Qr Qt x0 x2 r7 h6 bc bs)))))))))))


def w_Checker_checkTypes_L53 (K2 : Nat → Int32 → xb_H → Nat → Nat → Prop) (Qr : xb_H → Nat → Nat → Prop) (Qt : String → xb_H → Nat → Nat → Prop) (x0 : Nat) (x1 : Int32) (h : xb_H) (bc : Nat) (bs : Nat) : Prop :=
    K2 x0 (x1 + 1) h bc bs

def w_Checker_checkTypes_L2 (Qr : xb_H → Nat → Nat → Prop) (Qt : String → xb_H → Nat → Nat → Prop) : Nat → Nat → Int32 → xb_H → Nat → Nat → Prop
  | 0, _, _, _, _, _ => False
  | n9 + 1, x0, x1, h, bc, bs =>
    xb_k h x0 = 5 ∧ ∃ b2 : Nat, (xb_r h x0 0) = some b2 ∧ xb_k h b2 = 3 ∧ ∃ b4 : Nat, (xb_r h b2 2) = some b4 ∧ xb_k h b4 = 2 ∧ w_Row_lines b4 h (fun (r7 : Int32) (h6 : xb_H) => xb_ext h h6 → ((r7 ≤ x1 → Qr h6 bc bs) ∧ (¬ r7 ≤ x1 → ∃ b9 : Nat, (xb_r h6 x0 0) = some b9 ∧ xb_k h6 b9 = 3 ∧ ∃ b11 : Nat, (xb_r h6 b9 2) = some b11 ∧ xb_k h6 b11 = 2 ∧ w_Row_at b11 x1 3 h6 (fun (r14 : Int32) (h13 : xb_H) => xb_ext h6 h13 → ((r14 ≤ (1 : Int32) → w_Checker_checkTypes_L53 (w_Checker_checkTypes_L2 Qr Qt n9) Qr Qt x0 x1 h13 bc bs) ∧ (¬ r14 ≤ (1 : Int32) → ∃ b16 : Nat, (xb_r h13 x0 0) = some b16 ∧ ∃ b17 : Nat, (xb_r h13 x0 0) = some b17 ∧ xb_k h13 b17 = 3 ∧ ∃ b19 : Nat, (xb_r h13 b17 2) = some b19 ∧ xb_k h13 b19 = 2 ∧ w_Row_at b19 x1 0 h13 (fun (r22 : Int32) (h21 : xb_H) => xb_ext h13 h21 → xb_k h21 b16 = 3 ∧ w_StackModule_fail b16 28 r22 h21 bc bs (fun (h24 : xb_H) (bc25 bs25 : Nat) => xb_ext h21 h24 → w_Checker_checkTypes_L53 (w_Checker_checkTypes_L2 Qr Qt n9) Qr Qt x0 x1 h24 bc25 bs25) Qt)))))))

def w_Checker_checkTypes (x0 : Nat) (h : xb_H) (bc : Nat) (bs : Nat) (Qr : xb_H → Nat → Nat → Prop) (Qt : String → xb_H → Nat → Nat → Prop) : Prop :=
    (∃ n8 : Nat, w_Checker_checkTypes_L2 Qr Qt n8 x0 0 h bc bs)


def w_Checker_countOf (x0 : Nat) (x1 : Int32) (h : xb_H) (Qr : Int32 → xb_H → Prop) : Prop :=
    ((x1 = 0 → xb_k h x0 = 5 ∧ ∃ b3 : Nat, (xb_r h x0 0) = some b3 ∧ xb_k h b3 = 3 ∧ ∃ b5 : Nat, (xb_r h b3 4) = some b5 ∧ xb_k h b5 = 2 ∧ w_Row_lines b5 h (fun (r8 : Int32) (h7 : xb_H) => xb_ext h h7 → Qr r8 h7)) ∧ (x1 = 1 → xb_k h x0 = 5 ∧ ∃ b11 : Nat, (xb_r h x0 0) = some b11 ∧ xb_k h b11 = 3 ∧ ∃ b13 : Nat, (xb_r h b11 5) = some b13 ∧ xb_k h b13 = 2 ∧ w_Row_lines b13 h (fun (r16 : Int32) (h15 : xb_H) => xb_ext h h15 → Qr r16 h15)) ∧ (x1 = 2 → xb_k h x0 = 5 ∧ ∃ b19 : Nat, (xb_r h x0 0) = some b19 ∧ xb_k h b19 = 3 ∧ ∃ b21 : Nat, (xb_r h b19 6) = some b21 ∧ xb_k h b21 = 2 ∧ w_Row_lines b21 h (fun (r24 : Int32) (h23 : xb_H) => xb_ext h h23 → Qr r24 h23)) ∧ (¬ x1 = 0 → ¬ x1 = 1 → ¬ x1 = 2 → xb_k h x0 = 5 ∧ ∃ b26 : Nat, (xb_r h x0 0) = some b26 ∧ xb_k h b26 = 3 ∧ ∃ b28 : Nat, (xb_r h b26 7) = some b28 ∧ xb_k h b28 = 2 ∧ w_Row_lines b28 h (fun (r31 : Int32) (h30 : xb_H) => xb_ext h h30 → Qr r31 h30)))


def w_Checker_require_L16 (Qr : xb_H → Nat → Nat → Prop) (Qt : String → xb_H → Nat → Nat → Prop) (h : xb_H) (bc : Nat) (bs : Nat) : Prop :=
    Qr h bc bs

def w_Checker_require (x0 : Nat) (x1 : Int32) (x2 : Int32) (h : xb_H) (bc : Nat) (bs : Nat) (Qr : xb_H → Nat → Nat → Prop) (Qt : String → xb_H → Nat → Nat → Prop) : Prop :=
    ((¬ x1 = (0 : Int32) → w_Checker_require_L16 Qr Qt h bc bs) ∧ (x1 = (0 : Int32) → xb_k h x0 = 5 ∧ ∃ b3 : Nat, (xb_r h x0 0) = some b3 ∧ xb_k h b3 = 3 ∧ w_StackModule_fail b3 x2 (xb_i h x0 9) h bc bs (fun (h5 : xb_H) (bc6 bs6 : Nat) => xb_ext h h5 → w_Checker_require_L16 Qr Qt h5 bc6 bs6) Qt))


def w_Checker_take_L102 (Qr : Int32 → xb_H → Nat → Nat → Prop) (Qt : String → xb_H → Nat → Nat → Prop) (x2 : Int32) (h : xb_H) (bc : Nat) (bs : Nat) : Prop :=
    Qr x2 h bc bs

def w_Checker_take_L54 (Qr : Int32 → xb_H → Nat → Nat → Prop) (Qt : String → xb_H → Nat → Nat → Prop) (h : xb_H) (bc : Nat) (bs : Nat) : Prop :=
    Qr 0 h bc bs

def w_Checker_take (x0 : Nat) (x1 : Int32) (h : xb_H) (bc : Nat) (bs : Nat) (Qr : Int32 → xb_H → Nat → Nat → Prop) (Qt : String → xb_H → Nat → Nat → Prop) : Prop :=
    ((¬ x1 = (64 : Int32) → xb_k h x0 = 5 ∧ ∃ b3 : Nat, (xb_r h x0 14) = some b3 ∧ xb_k h b3 = 102 ∧ vp_in ((xb_i h x0 16) - 1) (xb_n h b3) ∧ (((xb_i h b3 (Int32.toNatClampNeg ((xb_i h x0 16) - 1))) < (xb_i h x0 4) → ∀ h7 : xb_H, h7 = xb_I h x0 4 ((xb_i h x0 4) - 1) → ∃ b8 : Nat, (xb_r h7 x0 3) = some b8 ∧ xb_k h7 b8 = 100 ∧ vp_in (xb_i h7 x0 4) (xb_n h7 b8) ∧ ∀ v11 : Int32, v11 = (xb_i h7 b8 (Int32.toNatClampNeg (xb_i h7 x0 4))) → ((v11 = x1 → w_Checker_take_L102 Qr Qt v11 h7 bc bs) ∧ (¬ v11 = x1 → ((v11 = (0 : Int32) → w_Checker_take_L102 Qr Qt v11 h7 bc bs) ∧ (¬ v11 = (0 : Int32) → ((x1 = (0 : Int32) → w_Checker_take_L102 Qr Qt v11 h7 bc bs) ∧ (¬ x1 = (0 : Int32) → ∃ b15 : Nat, (xb_r h7 x0 0) = some b15 ∧ xb_k h7 b15 = 3 ∧ w_StackModule_fail b15 21 (xb_i h7 x0 9) h7 bc bs (fun (h17 : xb_H) (bc18 bs18 : Nat) => xb_ext h7 h17 → w_Checker_take_L102 Qr Qt v11 h17 bc18 bs18) Qt))))))) ∧ (¬ (xb_i h b3 (Int32.toNatClampNeg ((xb_i h x0 16) - 1))) < (xb_i h x0 4) → ∃ b19 : Nat, (xb_r h x0 15) = some b19 ∧ xb_k h b19 = 101 ∧ vp_in ((xb_i h x0 16) - 1) (xb_n h b19) ∧ ((¬ (xb_i h b19 (Int32.toNatClampNeg ((xb_i h x0 16) - 1))) = (0 : Int32) → w_Checker_take_L54 Qr Qt h bc bs) ∧ ((xb_i h b19 (Int32.toNatClampNeg ((xb_i h x0 16) - 1))) = (0 : Int32) → ∃ b23 : Nat, (xb_r h x0 0) = some b23 ∧ xb_k h b23 = 3 ∧ w_StackModule_fail b23 21 (xb_i h x0 9) h bc bs (fun (h25 : xb_H) (bc26 bs26 : Nat) => xb_ext h h25 → w_Checker_take_L54 Qr Qt h25 bc26 bs26) Qt))))) ∧ (x1 = (64 : Int32) → Qr 64 h bc bs))


def w_Format_exponent_L41 (Qr : Int32 → xb_H → Prop) (x0 : Nat) (x5 : Int32) (y0 : Int32) (h : xb_H) : Prop :=
    xb_k h x0 = 6 ∧ Qr ((((if 1 < x5 then x5 else 1) - (xb_i h x0 1)) - ((xb_i h x0 0) - 1)) - y0) h

def w_Format_exponent (x0 : Nat) (x1 : Int64) (h : xb_H) (Qr : Int32 → xb_H → Prop) : Prop :=
    xb_k h x0 = 6 ∧ ∀ v2 : Int64, v2 = (x1 &&& ((xb_l h x0 2) - 1)) → ∀ v3 : Int32, v3 = (Int64.toInt32 (xb_lushr v2 ((xb_i h x0 0) - 1))) → ((v3 ≤ (0 : Int32) → w_Whole_zerosAbove v2 h (fun (r6 : Int32) (h5 : xb_H) => xb_ext h h5 → w_Format_exponent_L41 Qr x0 v3 (r6 - (64 - (xb_i h5 x0 0))) h5)) ∧ (¬ v3 ≤ (0 : Int32) → w_Format_exponent_L41 Qr x0 v3 0 h))


def w_Format_mantissa (x0 : Nat) (x1 : Int64) (h : xb_H) (Qr : Int64 → xb_H → Prop) : Prop :=
    xb_k h x0 = 6 ∧ ∀ v2 : Int64, v2 = (x1 &&& ((xb_l h x0 2) - 1)) → ∀ v3 : Int64, v3 = (xb_lshl 1 ((xb_i h x0 0) - 1)) → ((v3 ≤ v2 → Qr ((v2 &&& (v3 - 1)) ||| v3) h) ∧ (¬ v3 ≤ v2 → w_Whole_zerosAbove v2 h (fun (r6 : Int32) (h5 : xb_H) => xb_ext h h5 → Qr (xb_lshl v2 (r6 - (64 - (xb_i h5 x0 0)))) h5)))


def w_Format_nearest_L172 (Qr : Int64 → xb_H → Prop) (x9 : Int64) (x12 : Int64) (y0 : Int64) (h : xb_H) : Prop :=
    Qr (x9 ||| (y0 + x12)) h

def w_Format_nearest_L151 (Qr : Int64 → xb_H → Prop) (x0 : Nat) (x8 : Int32) (x9 : Int64) (x12 : Int64) (h : xb_H) : Prop :=
    ((x8 ≤ (0 : Int32) → w_Format_nearest_L172 Qr x9 x12 0 h) ∧ (¬ x8 ≤ (0 : Int32) → xb_k h x0 = 6 ∧ w_Format_nearest_L172 Qr x9 x12 (xb_lshl (Int32.toInt64 (x8 - 1)) ((xb_i h x0 0) - 1)) h))

def w_Format_nearest_L145 (Qr : Int64 → xb_H → Prop) (x0 : Nat) (x8 : Int32) (x9 : Int64) (x12 : Int64) (h : xb_H) : Prop :=
    ∀ v1 : Int64, v1 = (x12 + 1) → w_Format_nearest_L151 Qr x0 x8 x9 v1 h

def w_Format_nearest_L81 (Qr : Int64 → xb_H → Prop) (x0 : Nat) (x6 : Int64) (x8 : Int32) (x9 : Int64) (y0 : Int32) (y1 : Int32) (h : xb_H) : Prop :=
    ∀ v1 : Int32, v1 = (y1 + y0) → ((v1 ≤ (63 : Int32) → ∀ v3 : Int64, v3 = (xb_lushr x6 v1) → ∀ v4 : Int64, v4 = (x6 &&& ((xb_lshl 1 v1) - 1)) → ∀ v5 : Int64, v5 = (xb_lshl 1 (v1 - 1)) → ((v5 < v4 → w_Format_nearest_L145 Qr x0 x8 x9 v3 h) ∧ (¬ v5 < v4 → ((¬ v4 = v5 → w_Format_nearest_L151 Qr x0 x8 x9 v3 h) ∧ (v4 = v5 → ((¬ (v3 &&& 1) = (1 : Int64) → w_Format_nearest_L151 Qr x0 x8 x9 v3 h) ∧ ((v3 &&& 1) = (1 : Int64) → w_Format_nearest_L145 Qr x0 x8 x9 v3 h))))))) ∧ (¬ v1 ≤ (63 : Int32) → Qr x9 h))

def w_Format_nearest_L40 (Qr : Int64 → xb_H → Prop) (x0 : Nat) (x6 : Int64) (x8 : Int32) (y0 : Int64) (h : xb_H) : Prop :=
    xb_k h x0 = 6 ∧ ((x8 ≤ (2 * (xb_i h x0 1)) → ((x8 ≤ (0 : Int32) → w_Format_nearest_L81 Qr x0 x6 x8 y0 (1 - x8) (63 - (xb_i h x0 0)) h) ∧ (¬ x8 ≤ (0 : Int32) → w_Format_nearest_L81 Qr x0 x6 x8 y0 0 (63 - (xb_i h x0 0)) h))) ∧ (¬ x8 ≤ (2 * (xb_i h x0 1)) → Qr (y0 ||| (xb_l h x0 3)) h))

def w_Format_nearest (x0 : Nat) (x1 : Int32) (x2 : Int32) (x3 : Int64) (h : xb_H) (Qr : Int64 → xb_H → Prop) : Prop :=
    w_Whole_zerosAbove x3 h (fun (r2 : Int32) (h1 : xb_H) => xb_ext h h1 → ∀ v3 : Int32, v3 = (r2 - 1) → ∀ v4 : Int64, v4 = (xb_lshl x3 v3) → xb_k h1 x0 = 6 ∧ ∀ v6 : Int32, v6 = (((x2 - v3) + 62) + (xb_i h1 x0 1)) → ((x1 = (0 : Int32) → w_Format_nearest_L40 Qr x0 v4 v6 0 h1) ∧ (¬ x1 = (0 : Int32) → w_Format_nearest_L40 Qr x0 v4 v6 (xb_l h1 x0 2) h1)))


def w_Format_ordered_L22 (Qr : Int64 → xb_H → Prop) (y0 : Int64) (h : xb_H) : Prop :=
    Qr y0 h

def w_Format_ordered (x0 : Nat) (x1 : Int64) (h : xb_H) (Qr : Int64 → xb_H → Prop) : Prop :=
    xb_k h x0 = 6 ∧ w_Format_isNegative x0 x1 h (fun (r3 : Int32) (h2 : xb_H) => xb_ext h h2 → ((r3 = (0 : Int32) → w_Format_magnitude x0 x1 h2 (fun (r6 : Int64) (h5 : xb_H) => xb_ext h2 h5 → w_Format_ordered_L22 Qr r6 h5)) ∧ (¬ r3 = (0 : Int32) → w_Format_magnitude x0 x1 h2 (fun (r8 : Int64) (h7 : xb_H) => xb_ext h2 h7 → w_Format_ordered_L22 Qr (-r8) h7))))


def w_Format_rounded_L237 (Qr : Int64 → xb_H → Prop) (y0 : Int64) (y1 : Int32) (y2 : Nat) (h : xb_H) : Prop :=
    xb_k h y2 = 6 ∧ w_Format_signed y2 y1 y0 h (fun (r3 : Int64) (h2 : xb_H) => xb_ext h h2 → Qr r3 h2)

def w_Format_rounded_L212 (Qr : Int64 → xb_H → Prop) (x0 : Nat) (x5 : Int32) (x8 : Int32) (x11 : Int64) (y0 : Int32) (y1 : Int32) (y2 : Int32) (h : xb_H) : Prop :=
    w_Format_isAway y2 y1 y0 h (fun (r2 : Int32) (h1 : xb_H) => xb_ext h h1 → ((r2 = (0 : Int32) → w_Format_rounded_L237 Qr x11 x5 x0 h1) ∧ (¬ r2 = (0 : Int32) → w_Format_rounded_L237 Qr (x11 + (xb_lshl 1 x8)) x5 x0 h1)))

def w_Format_rounded_L211 (Qr : Int64 → xb_H → Prop) (x0 : Nat) (x5 : Int32) (x8 : Int32) (x11 : Int64) (y0 : Int32) (y1 : Int32) (h : xb_H) : Prop :=
    w_Format_rounded_L212 Qr x0 x5 x8 x11 0 y0 y1 h

def w_Format_rounded_L207 (Qr : Int64 → xb_H → Prop) (x0 : Nat) (x5 : Int32) (x8 : Int32) (x11 : Int64) (y0 : Int32) (y1 : Int32) (h : xb_H) : Prop :=
    w_Format_rounded_L212 Qr x0 x5 x8 x11 1 y0 y1 h

def w_Format_rounded_L181 (Qr : Int64 → xb_H → Prop) (x0 : Nat) (x1 : Int32) (x5 : Int32) (x8 : Int32) (x9 : Int64) (x11 : Int64) (x13 : Int64) (y0 : Int32) (h : xb_H) : Prop :=
    ((x13 < x9 → w_Format_rounded_L207 Qr x0 x5 x8 x11 x5 x1 h) ∧ (¬ x13 < x9 → ((¬ x9 = x13 → w_Format_rounded_L211 Qr x0 x5 x8 x11 x5 x1 h) ∧ (x9 = x13 → ((y0 = (0 : Int32) → w_Format_rounded_L211 Qr x0 x5 x8 x11 x5 x1 h) ∧ (¬ y0 = (0 : Int32) → w_Format_rounded_L207 Qr x0 x5 x8 x11 x5 x1 h))))))

def w_Format_rounded_L114 (Qr : Int64 → xb_H → Prop) (y0 : Int64) (y1 : Int32) (y2 : Nat) (h : xb_H) : Prop :=
    xb_k h y2 = 6 ∧ w_Format_signed y2 y1 y0 h (fun (r3 : Int64) (h2 : xb_H) => xb_ext h h2 → Qr r3 h2)

def w_Format_rounded_L78 (Qr : Int64 → xb_H → Prop) (x0 : Nat) (x1 : Int32) (x5 : Int32) (y0 : Int32) (h : xb_H) : Prop :=
    w_Format_isAway x1 x5 y0 h (fun (r2 : Int32) (h1 : xb_H) => xb_ext h h1 → ((r2 = (0 : Int32) → w_Format_rounded_L114 Qr 0 x5 x0 h1) ∧ (¬ r2 = (0 : Int32) → xb_k h1 x0 = 6 ∧ w_Format_rounded_L114 Qr (xb_lshl (Int32.toInt64 (xb_i h1 x0 1)) ((xb_i h1 x0 0) - 1)) x5 x0 h1)))

def w_Format_rounded_L77 (Qr : Int64 → xb_H → Prop) (x0 : Nat) (x1 : Int32) (x5 : Int32) (h : xb_H) : Prop :=
    w_Format_rounded_L78 Qr x0 x1 x5 0 h

def w_Format_rounded_L26 (Qr : Int64 → xb_H → Prop) (x2 : Int64) (h : xb_H) : Prop :=
    Qr x2 h

def w_Format_rounded (x0 : Nat) (x1 : Int32) (x2 : Int64) (h : xb_H) (Qr : Int64 → xb_H → Prop) : Prop :=
    xb_k h x0 = 6 ∧ w_Format_power x0 x2 h (fun (r3 : Int32) (h2 : xb_H) => xb_ext h h2 → ((((xb_i h2 x0 0) - 1) ≤ r3 → w_Format_rounded_L26 Qr x2 h2) ∧ (¬ ((xb_i h2 x0 0) - 1) ≤ r3 → w_Format_isZero x0 x2 h2 (fun (r6 : Int32) (h5 : xb_H) => xb_ext h2 h5 → ((r6 = (0 : Int32) → w_Format_isNegative x0 x2 h5 (fun (r9 : Int32) (h8 : xb_H) => xb_ext h5 h8 → w_Format_magnitude x0 x2 h8 (fun (r11 : Int64) (h10 : xb_H) => xb_ext h8 h10 → (((0 : Int32) ≤ r3 → ∀ v13 : Int32, v13 = (((xb_i h10 x0 0) - 1) - r3) → ∀ v14 : Int64, v14 = (r11 &&& ((xb_lshl 1 v13) - 1)) → ∀ v15 : Int64, v15 = (r11 - v14) → ((¬ v14 = (0 : Int64) → ∀ v17 : Int64, v17 = (xb_lshl 1 (v13 - 1)) → ((¬ ((xb_lushr v15 v13) &&& 1) = (1 : Int64) → w_Format_rounded_L181 Qr x0 x1 r9 v13 v14 v15 v17 0 h10) ∧ (((xb_lushr v15 v13) &&& 1) = (1 : Int64) → w_Format_rounded_L181 Qr x0 x1 r9 v13 v14 v15 v17 1 h10))) ∧ (v14 = (0 : Int64) → Qr x2 h10))) ∧ (¬ (0 : Int32) ≤ r3 → ((¬ r3 = ((-1) : Int32) → w_Format_rounded_L77 Qr x0 x1 r9 h10) ∧ (r3 = ((-1) : Int32) → ((r11 ≤ (xb_lshl (Int32.toInt64 ((xb_i h10 x0 1) - 1)) ((xb_i h10 x0 0) - 1)) → w_Format_rounded_L77 Qr x0 x1 r9 h10) ∧ (¬ r11 ≤ (xb_lshl (Int32.toInt64 ((xb_i h10 x0 1) - 1)) ((xb_i h10 x0 0) - 1)) → w_Format_rounded_L78 Qr x0 x1 r9 1 h10))))))))) ∧ (¬ r6 = (0 : Int32) → w_Format_rounded_L26 Qr x2 h5))))))


def w_Format_sumOfBounds_L64 (Qr : Int64 → xb_H → Prop) (y0 : Int64) (h : xb_H) : Prop :=
    Qr y0 h

def w_Format_sumOfBounds_L30 (Qr : Int64 → xb_H → Prop) (y0 : Int64) (h : xb_H) : Prop :=
    Qr y0 h

def w_Format_sumOfBounds_L29 (Qr : Int64 → xb_H → Prop) (x1 : Int64) (h : xb_H) : Prop :=
    w_Format_sumOfBounds_L30 Qr x1 h

def w_Format_sumOfBounds (x0 : Nat) (x1 : Int64) (x3 : Int64) (h : xb_H) (Qr : Int64 → xb_H → Prop) : Prop :=
    xb_k h x0 = 6 ∧ w_Format_isInfinite x0 x1 h (fun (r3 : Int32) (h2 : xb_H) => xb_ext h h2 → ((r3 = (0 : Int32) → w_Format_isInfinite x0 x3 h2 (fun (r6 : Int32) (h5 : xb_H) => xb_ext h2 h5 → ((r6 = (0 : Int32) → w_Format_isZero x0 x1 h5 (fun (r9 : Int32) (h8 : xb_H) => xb_ext h5 h8 → ((r9 = (0 : Int32) → Qr x1 h8) ∧ (¬ r9 = (0 : Int32) → w_Format_isZero x0 x3 h8 (fun (r12 : Int32) (h11 : xb_H) => xb_ext h8 h11 → ((r12 = (0 : Int32) → w_Format_sumOfBounds_L64 Qr x3 h11) ∧ (¬ r12 = (0 : Int32) → w_Format_sumOfBounds_L64 Qr (x1 &&& x3) h11))))))) ∧ (¬ r6 = (0 : Int32) → Qr x3 h5)))) ∧ (¬ r3 = (0 : Int32) → w_Format_isInfinite x0 x3 h2 (fun (r15 : Int32) (h14 : xb_H) => xb_ext h2 h14 → ((r15 = (0 : Int32) → w_Format_sumOfBounds_L29 Qr x1 h14) ∧ (¬ r15 = (0 : Int32) → ((x1 = x3 → w_Format_sumOfBounds_L29 Qr x1 h14) ∧ (¬ x1 = x3 → w_Format_sumOfBounds_L30 Qr (xb_l h14 x0 4) h14))))))))


def w_Format_wholePart_L62 (Qr : Int64 → xb_H → Prop) (y0 : Int64) (h : xb_H) : Prop :=
    Qr y0 h

def w_Format_wholePart (x0 : Nat) (x1 : Int64) (h : xb_H) (Qr : Int64 → xb_H → Prop) : Prop :=
    xb_k h x0 = 6 ∧ w_Format_power x0 x1 h (fun (r3 : Int32) (h2 : xb_H) => xb_ext h h2 → (((0 : Int32) ≤ r3 → ∀ v5 : Int64, v5 = (xb_lshl 1 ((xb_i h2 x0 0) - 1)) → ∀ v6 : Int64, v6 = ((x1 &&& (v5 - 1)) ||| v5) → ∀ v7 : Int32, v7 = (r3 - ((xb_i h2 x0 0) - 1)) → ((v7 < (0 : Int32) → w_Format_wholePart_L62 Qr (xb_lushr v6 (-v7)) h2) ∧ (¬ v7 < (0 : Int32) → w_Format_wholePart_L62 Qr (xb_lshl v6 v7) h2))) ∧ (¬ (0 : Int32) ≤ r3 → Qr 0 h2)))


def w_Instance_init (x0 : Nat) (x1 : Int32) (x2 : Nat) (x3 : Nat) (h : xb_H) (bc : Nat) (bs : Nat) (Qr : xb_H → Nat → Nat → Prop) : Prop :=
    xb_k h x0 = 11 ∧ ∀ h2 : xb_H, h2 = xb_I h x0 0 x1 → ∀ h3 : xb_H, h3 = xb_P h2 x0 1 (some x2) → xb_k h3 x3 = 7 ∧ ∃ b5 : Nat, (xb_r h3 x3 12) = some b5 ∧ xb_k h3 b5 = 2 ∧ ∃ b7 : Nat, (xb_r h3 b5 0) = some b7 ∧ ∃ b8 : Nat, (xb_r h3 x3 12) = some b8 ∧ xb_k h3 b8 = 2 ∧ w_Arrays_copyOf1 b7 (xb_i h3 b8 1) h3 bc bs (fun (r11 : Nat) (h10 : xb_H) (bc11 bs11 : Nat) => xb_ext h3 h10 → ∀ h12 : xb_H, h12 = xb_P h10 x0 2 (some r11) → ∃ b13 : Nat, (xb_r h12 x3 13) = some b13 ∧ xb_k h12 b13 = 2 ∧ ∃ b15 : Nat, (xb_r h12 b13 0) = some b15 ∧ ∃ b16 : Nat, (xb_r h12 x3 13) = some b16 ∧ xb_k h12 b16 = 2 ∧ w_Arrays_copyOf1 b15 (xb_i h12 b16 1) h12 bc11 bs11 (fun (r19 : Nat) (h18 : xb_H) (bc19 bs19 : Nat) => xb_ext h12 h18 → ∀ h20 : xb_H, h20 = xb_P h18 x0 3 (some r19) → ∃ b21 : Nat, (xb_r h20 x3 2) = some b21 ∧ xb_k h20 b21 = 2 ∧ ∀ h23 : xb_H, h23 = xb_I h20 x0 4 (xb_i h20 b21 1) → ∃ b24 : Nat, (xb_r h23 x3 3) = some b24 ∧ xb_k h23 b24 = 2 ∧ ∀ h26 : xb_H, h26 = xb_I h23 x0 5 (xb_i h23 b24 1) → ∀ h27 : xb_H, h27 = xb_P h26 x0 6 (xb_r h26 x3 14) → ∀ h28 : xb_H, h28 = xb_P h27 x0 7 (xb_r h27 x3 15) → Qr h28 bc19 bs19))


def w_Machine_init (x0 : Nat) (x1 : Nat) (h : xb_H) (bc : Nat) (bs : Nat) (Qr : xb_H → Nat → Nat → Prop) : Prop :=
    1 ≤ bc ∧ 5 ≤ bs ∧ ∀ q1 : Nat, xb_k h q1 = 0 → ∀ h2 : xb_H, h2 = xb_new h q1 6 0 → w_Format_init q1 24 127 2147483648 h2 (fun (h4 : xb_H) => xb_ext h2 h4 → xb_k h4 x0 = 8 ∧ ∀ h7 : xb_H, h7 = xb_P h4 x0 1 (some q1) → 1 ≤ (bc - 1) ∧ 5 ≤ (bs - 5) ∧ ∀ q8 : Nat, xb_k h7 q8 = 0 → ∀ h9 : xb_H, h9 = xb_new h7 q8 6 0 → w_Format_init q8 53 1023 (-9223372036854775808) h9 (fun (h11 : xb_H) => xb_ext h9 h11 → ∀ h13 : xb_H, h13 = xb_P h11 x0 2 (some q8) → 1 ≤ ((bc - 1) - 1) ∧ 4 ≤ ((bs - 5) - 5) ∧ ∀ q14 : Nat, xb_k h13 q14 = 0 → ∀ h15 : xb_H, h15 = xb_new h13 q14 102 4 → vp_in 0 (xb_n h15 q14) ∧ ∀ h18 : xb_H, h18 = xb_I h15 q14 (Int32.toNatClampNeg 0) 0 → vp_in 1 (xb_n h18 q14) ∧ ∀ h20 : xb_H, h20 = xb_I h18 q14 (Int32.toNatClampNeg 1) (-1) → vp_in 2 (xb_n h20 q14) ∧ ∀ h22 : xb_H, h22 = xb_I h20 q14 (Int32.toNatClampNeg 2) (-1) → vp_in 3 (xb_n h22 q14) ∧ ∀ h24 : xb_H, h24 = xb_I h22 q14 (Int32.toNatClampNeg 3) (-1) → ∀ h25 : xb_H, h25 = xb_P h24 x0 6 (some q14) → ∀ h26 : xb_H, h26 = xb_I h25 x0 8 (-1) → 1 ≤ (((bc - 1) - 1) - 1) ∧ 64 ≤ (((bs - 5) - 5) - 4) ∧ ∀ q27 : Nat, xb_k h26 q27 = 0 → ∀ h28 : xb_H, h28 = xb_new h26 q27 103 64 → ∀ h30 : xb_H, h30 = xb_P h28 x0 9 (some q27) → 1 ≤ ((((bc - 1) - 1) - 1) - 1) ∧ 1000 ≤ ((((bs - 5) - 5) - 4) - 64) ∧ ∀ q31 : Nat, xb_k h30 q31 = 0 → ∀ h32 : xb_H, h32 = xb_new h30 q31 102 1000 → ∀ h34 : xb_H, h34 = xb_P h32 x0 11 (some q31) → ∀ h35 : xb_H, h35 = xb_P h34 x0 0 (some x1) → Qr h35 (((((bc - 1) - 1) - 1) - 1) - 1) (((((bs - 5) - 5) - 4) - 64) - 1000)))


def w_Machine_makeRoom_L37 (Qr : xb_H → Nat → Nat → Prop) (h : xb_H) (bc : Nat) (bs : Nat) : Prop :=
    Qr h bc bs

def w_Machine_makeRoom (x0 : Nat) (x1 : Int32) (h : xb_H) (bc : Nat) (bs : Nat) (Qr : xb_H → Nat → Nat → Prop) : Prop :=
    xb_k h x0 = 8 ∧ ∃ b2 : Nat, (xb_r h x0 9) = some b2 ∧ xb_k h b2 = 103 ∧ ((x1 ≤ (nI (xb_n h b2)) → w_Machine_makeRoom_L37 Qr h bc bs) ∧ (¬ x1 ≤ (nI (xb_n h b2)) → ∃ b5 : Nat, (xb_r h x0 9) = some b5 ∧ ∃ b6 : Nat, (xb_r h x0 9) = some b6 ∧ xb_k h b6 = 103 ∧ w_Arrays_copyOf1 b5 (if (if x1 < (2 * (nI (xb_n h b6))) then (2 * (nI (xb_n h b6))) else x1) < 16384 then (if x1 < (2 * (nI (xb_n h b6))) then (2 * (nI (xb_n h b6))) else x1) else 16384) h bc bs (fun (r9 : Nat) (h8 : xb_H) (bc9 bs9 : Nat) => xb_ext h h8 → ∀ h10 : xb_H, h10 = xb_P h8 x0 9 (some r9) → w_Machine_makeRoom_L37 Qr h10 bc9 bs9)))


def w_Machine_useNamed_L184 (Qr : xb_H → Prop) (h : xb_H) : Prop :=
    Qr h

def w_Machine_useNamed (x0 : Nat) (x1 : Int32) (h : xb_H) (Qr : xb_H → Prop) : Prop :=
    xb_k h x0 = 8 ∧ ∃ b2 : Nat, (xb_r h x0 14) = some b2 ∧ xb_k h b2 = 102 ∧ vp_in ((xb_i h x0 15) + 1) (xb_n h b2) ∧ ∀ v5 : Int32, v5 = (xb_i h b2 (Int32.toNatClampNeg ((xb_i h x0 15) + 1))) → ((x1 = 32 → ∃ b7 : Nat, (xb_r h x0 9) = some b7 ∧ xb_k h b7 = 103 ∧ vp_in ((xb_i h x0 16) + v5) (xb_n h b7) ∧ w_Machine_putValue x0 (xb_l h b7 (Int32.toNatClampNeg ((xb_i h x0 16) + v5))) h (fun (h10 : xb_H) => xb_ext h h10 → w_Machine_useNamed_L184 Qr h10)) ∧ (x1 = 33 → ∀ h13 : xb_H, h13 = xb_I h x0 10 ((xb_i h x0 10) - 1) → ∃ b14 : Nat, (xb_r h13 x0 9) = some b14 ∧ ∃ b15 : Nat, (xb_r h13 x0 9) = some b15 ∧ xb_k h13 b15 = 103 ∧ vp_in (xb_i h13 x0 10) (xb_n h13 b15) ∧ xb_k h13 b14 = 103 ∧ vp_in ((xb_i h13 x0 16) + v5) (xb_n h13 b14) ∧ ∀ h20 : xb_H, h20 = xb_L h13 b14 (Int32.toNatClampNeg ((xb_i h13 x0 16) + v5)) (xb_l h13 b15 (Int32.toNatClampNeg (xb_i h13 x0 10))) → w_Machine_useNamed_L184 Qr h20) ∧ (x1 = 34 → ∃ b22 : Nat, (xb_r h x0 9) = some b22 ∧ ∃ b23 : Nat, (xb_r h x0 9) = some b23 ∧ xb_k h b23 = 103 ∧ vp_in ((xb_i h x0 10) - 1) (xb_n h b23) ∧ xb_k h b22 = 103 ∧ vp_in ((xb_i h x0 16) + v5) (xb_n h b22) ∧ ∀ h28 : xb_H, h28 = xb_L h b22 (Int32.toNatClampNeg ((xb_i h x0 16) + v5)) (xb_l h b23 (Int32.toNatClampNeg ((xb_i h x0 10) - 1))) → w_Machine_useNamed_L184 Qr h28) ∧ (x1 = 35 → ∃ b30 : Nat, (xb_r h x0 0) = some b30 ∧ xb_k h b30 = 7 ∧ ∃ b32 : Nat, (xb_r h b30 3) = some b32 ∧ xb_k h b32 = 2 ∧ ∃ b34 : Nat, (xb_r h b32 0) = some b34 ∧ ∃ b35 : Nat, (xb_r h x0 12) = some b35 ∧ xb_k h b35 = 11 ∧ w_Instance_variableId b35 v5 h (fun (r38 : Int32) (h37 : xb_H) => xb_ext h h37 → xb_k h37 b34 = 103 ∧ vp_in r38 (xb_n h37 b34) ∧ w_Machine_putValue x0 (xb_l h37 b34 (Int32.toNatClampNeg r38)) h37 (fun (h41 : xb_H) => xb_ext h37 h41 → w_Machine_useNamed_L184 Qr h41))) ∧ (¬ x1 = 32 → ¬ x1 = 33 → ¬ x1 = 34 → ¬ x1 = 35 → ∀ h43 : xb_H, h43 = xb_I h x0 10 ((xb_i h x0 10) - 1) → ∃ b44 : Nat, (xb_r h43 x0 0) = some b44 ∧ xb_k h43 b44 = 7 ∧ ∃ b46 : Nat, (xb_r h43 b44 3) = some b46 ∧ xb_k h43 b46 = 2 ∧ ∃ b48 : Nat, (xb_r h43 b46 0) = some b48 ∧ ∃ b49 : Nat, (xb_r h43 x0 12) = some b49 ∧ xb_k h43 b49 = 11 ∧ w_Instance_variableId b49 v5 h43 (fun (r52 : Int32) (h51 : xb_H) => xb_ext h43 h51 → ∃ b53 : Nat, (xb_r h51 x0 9) = some b53 ∧ xb_k h51 b53 = 103 ∧ vp_in (xb_i h51 x0 10) (xb_n h51 b53) ∧ xb_k h51 b48 = 103 ∧ vp_in r52 (xb_n h51 b48) ∧ ∀ h58 : xb_H, h58 = xb_L h51 b48 (Int32.toNatClampNeg r52) (xb_l h51 b53 (Int32.toNatClampNeg (xb_i h51 x0 10))) → w_Machine_useNamed_L184 Qr h58)))


def w_Memory_byteAt (x0 : Nat) (x1 : Int32) (h : xb_H) (Qr : Int32 → xb_H → Prop) : Prop :=
    xb_k h x0 = 13 ∧ ∃ b2 : Nat, (xb_r h x0 0) = some b2 ∧ xb_k h b2 = 2 ∧ ∃ b4 : Nat, (xb_r h b2 0) = some b4 ∧ w_Memory_wordOf x0 x1 h (fun (r6 : Int32) (h5 : xb_H) => xb_ext h h5 → xb_k h5 b4 = 103 ∧ vp_in r6 (xb_n h5 b4) ∧ Qr ((Int64.toInt32 (xb_lushr (xb_l h5 b4 (Int32.toNatClampNeg r6)) ((x1 &&& 7) <<< (3 &&& 31)))) &&& 255) h5)


def w_Memory_setByte (x0 : Nat) (x1 : Int32) (x2 : Int32) (h : xb_H) (Qr : xb_H → Prop) : Prop :=
    xb_k h x0 = 13 ∧ w_Memory_wordOf x0 x1 h (fun (r3 : Int32) (h2 : xb_H) => xb_ext h h2 → ∀ v4 : Int32, v4 = ((x1 &&& 7) <<< (3 &&& 31)) → ∃ b5 : Nat, (xb_r h2 x0 0) = some b5 ∧ xb_k h2 b5 = 2 ∧ ∃ b7 : Nat, (xb_r h2 b5 0) = some b7 ∧ ∃ b8 : Nat, (xb_r h2 x0 0) = some b8 ∧ xb_k h2 b8 = 2 ∧ ∃ b10 : Nat, (xb_r h2 b8 0) = some b10 ∧ xb_k h2 b10 = 103 ∧ vp_in r3 (xb_n h2 b10) ∧ xb_k h2 b7 = 103 ∧ vp_in r3 (xb_n h2 b7) ∧ ∀ h15 : xb_H, h15 = xb_L h2 b7 (Int32.toNatClampNeg r3) (((xb_l h2 b10 (Int32.toNatClampNeg r3)) &&& ((xb_lshl 255 v4) ^^^ (-1))) ||| (xb_lshl ((Int32.toInt64 x2) &&& 255) v4)) → Qr h15)


def w_Reader_count_L107 (Qr : Int32 → xb_H → Nat → Nat → Prop) (Qt : String → xb_H → Nat → Nat → Prop) (x1 : Int32) (h : xb_H) (bc : Nat) (bs : Nat) : Prop :=
    Qr x1 h bc bs

def w_Reader_count_L69 (K4 : Nat → Int32 → Int32 → xb_H → Nat → Nat → Prop) (Qr : Int32 → xb_H → Nat → Nat → Prop) (Qt : String → xb_H → Nat → Nat → Prop) (x0 : Nat) (x1 : Int32) (x2 : Int32) (x3 : Int32) (h : xb_H) (bc : Nat) (bs : Nat) : Prop :=
    xb_k h x0 = 4 ∧ ∀ h2 : xb_H, h2 = xb_I h x0 3 ((xb_i h x0 3) + 1) → ∀ v3 : Int32, v3 = (x1 ||| ((x3 &&& 127) <<< ((7 * x2) &&& 31))) → (((128 : Int32) ≤ x3 → K4 x0 v3 (x2 + 1) h2 bc bs) ∧ (¬ (128 : Int32) ≤ x3 → w_Reader_count_L107 Qr Qt v3 h2 bc bs))

def w_Reader_count_L32 (K4 : Nat → Int32 → Int32 → xb_H → Nat → Nat → Prop) (Qr : Int32 → xb_H → Nat → Nat → Prop) (Qt : String → xb_H → Nat → Nat → Prop) (x0 : Nat) (x1 : Int32) (x2 : Int32) (h : xb_H) (bc : Nat) (bs : Nat) : Prop :=
    xb_k h x0 = 4 ∧ ∃ b2 : Nat, (xb_r h x0 1) = some b2 ∧ xb_k h b2 = 100 ∧ vp_in (xb_i h x0 3) (xb_n h b2) ∧ ∀ v5 : Int32, v5 = ((xb_i h b2 (Int32.toNatClampNeg (xb_i h x0 3))) &&& 255) → ((¬ x2 = (4 : Int32) → w_Reader_count_L69 K4 Qr Qt x0 x1 x2 v5 h bc bs) ∧ (x2 = (4 : Int32) → ((v5 ≤ (15 : Int32) → w_Reader_count_L69 K4 Qr Qt x0 x1 x2 v5 h bc bs) ∧ (¬ v5 ≤ (15 : Int32) → ∃ b8 : Nat, (xb_r h x0 0) = some b8 ∧ xb_k h b8 = 3 ∧ w_StackModule_fail b8 3 (xb_i h x0 3) h bc bs (fun (h10 : xb_H) (bc11 bs11 : Nat) => xb_ext h h10 → w_Reader_count_L69 K4 Qr Qt x0 x1 x2 v5 h10 bc11 bs11) Qt))))

def w_Reader_count_L4 (Qr : Int32 → xb_H → Nat → Nat → Prop) (Qt : String → xb_H → Nat → Nat → Prop) : Nat → Nat → Int32 → Int32 → xb_H → Nat → Nat → Prop
  | 0, _, _, _, _, _, _ => False
  | n9 + 1, x0, x1, x2, h, bc, bs =>
    (((5 : Int32) ≤ x2 → w_Reader_count_L107 Qr Qt x1 h bc bs) ∧ (¬ (5 : Int32) ≤ x2 → xb_k h x0 = 4 ∧ (((xb_i h x0 3) < (xb_i h x0 4) → w_Reader_count_L32 (w_Reader_count_L4 Qr Qt n9) Qr Qt x0 x1 x2 h bc bs) ∧ (¬ (xb_i h x0 3) < (xb_i h x0 4) → ∃ b4 : Nat, (xb_r h x0 0) = some b4 ∧ xb_k h b4 = 3 ∧ w_StackModule_fail b4 2 (xb_i h x0 4) h bc bs (fun (h6 : xb_H) (bc7 bs7 : Nat) => xb_ext h h6 → w_Reader_count_L32 (w_Reader_count_L4 Qr Qt n9) Qr Qt x0 x1 x2 h6 bc7 bs7) Qt))))

def w_Reader_count (x0 : Nat) (h : xb_H) (bc : Nat) (bs : Nat) (Qr : Int32 → xb_H → Nat → Nat → Prop) (Qt : String → xb_H → Nat → Nat → Prop) : Prop :=
    (∃ n8 : Nat, w_Reader_count_L4 Qr Qt n8 x0 0 0 h bc bs)


def w_Reader_limitTo_L29 (Qr : xb_H → Nat → Nat → Prop) (Qt : String → xb_H → Nat → Nat → Prop) (x0 : Nat) (x1 : Int32) (h : xb_H) (bc : Nat) (bs : Nat) : Prop :=
    xb_k h x0 = 4 ∧ ∀ h2 : xb_H, h2 = xb_I h x0 4 ((xb_i h x0 3) + x1) → Qr h2 bc bs

def w_Reader_limitTo_L17 (Qr : xb_H → Nat → Nat → Prop) (Qt : String → xb_H → Nat → Nat → Prop) (x0 : Nat) (x1 : Int32) (h : xb_H) (bc : Nat) (bs : Nat) : Prop :=
    xb_k h x0 = 4 ∧ ∃ b2 : Nat, (xb_r h x0 0) = some b2 ∧ xb_k h b2 = 3 ∧ w_StackModule_fail b2 2 (xb_i h x0 4) h bc bs (fun (h4 : xb_H) (bc5 bs5 : Nat) => xb_ext h h4 → w_Reader_limitTo_L29 Qr Qt x0 x1 h4 bc5 bs5) Qt

def w_Reader_limitTo (x0 : Nat) (x1 : Int32) (h : xb_H) (bc : Nat) (bs : Nat) (Qr : xb_H → Nat → Nat → Prop) (Qt : String → xb_H → Nat → Nat → Prop) : Prop :=
    ((x1 < (0 : Int32) → w_Reader_limitTo_L17 Qr Qt x0 x1 h bc bs) ∧ (¬ x1 < (0 : Int32) → xb_k h x0 = 4 ∧ ((x1 ≤ ((xb_i h x0 4) - (xb_i h x0 3)) → w_Reader_limitTo_L29 Qr Qt x0 x1 h bc bs) ∧ (¬ x1 ≤ ((xb_i h x0 4) - (xb_i h x0 3)) → w_Reader_limitTo_L17 Qr Qt x0 x1 h bc bs))))


def w_Reader_nextByte_L23 (Qr : Int32 → xb_H → Nat → Nat → Prop) (Qt : String → xb_H → Nat → Nat → Prop) (x0 : Nat) (h : xb_H) (bc : Nat) (bs : Nat) : Prop :=
    xb_k h x0 = 4 ∧ ∀ h2 : xb_H, h2 = xb_I h x0 3 ((xb_i h x0 3) + 1) → ∃ b3 : Nat, (xb_r h2 x0 1) = some b3 ∧ xb_k h2 b3 = 100 ∧ vp_in ((xb_i h2 x0 3) - 1) (xb_n h2 b3) ∧ Qr ((xb_i h2 b3 (Int32.toNatClampNeg ((xb_i h2 x0 3) - 1))) &&& 255) h2 bc bs

def w_Reader_nextByte (x0 : Nat) (h : xb_H) (bc : Nat) (bs : Nat) (Qr : Int32 → xb_H → Nat → Nat → Prop) (Qt : String → xb_H → Nat → Nat → Prop) : Prop :=
    xb_k h x0 = 4 ∧ (((xb_i h x0 3) < (xb_i h x0 4) → w_Reader_nextByte_L23 Qr Qt x0 h bc bs) ∧ (¬ (xb_i h x0 3) < (xb_i h x0 4) → ∃ b3 : Nat, (xb_r h x0 0) = some b3 ∧ xb_k h b3 = 3 ∧ w_StackModule_fail b3 2 (xb_i h x0 4) h bc bs (fun (h5 : xb_H) (bc6 bs6 : Nat) => xb_ext h h5 → w_Reader_nextByte_L23 Qr Qt x0 h5 bc6 bs6) Qt))


def w_Reader_plainBytes_L30 (Qr : Int64 → xb_H → Nat → Nat → Prop) (Qt : String → xb_H → Nat → Nat → Prop) : Nat → Nat → Int32 → Int64 → Int32 → xb_H → Nat → Nat → Prop
  | 0, _, _, _, _, _, _, _ => False
  | n9 + 1, x0, x1, x2, x4, h, bc, bs =>
    ((x1 ≤ x4 → xb_k h x0 = 4 ∧ ∀ h3 : xb_H, h3 = xb_I h x0 3 ((xb_i h x0 3) + x1) → Qr x2 h3 bc bs) ∧ (¬ x1 ≤ x4 → xb_k h x0 = 4 ∧ ∃ b5 : Nat, (xb_r h x0 1) = some b5 ∧ xb_k h b5 = 100 ∧ vp_in ((xb_i h x0 3) + x4) (xb_n h b5) ∧ ∀ v8 : Int64, v8 = (x2 ||| (xb_lshl ((Int32.toInt64 (xb_i h b5 (Int32.toNatClampNeg ((xb_i h x0 3) + x4)))) &&& 255) (8 * x4))) → w_Reader_plainBytes_L30 Qr Qt n9 x0 x1 v8 (x4 + 1) h bc bs))

def w_Reader_plainBytes_L25 (Qr : Int64 → xb_H → Nat → Nat → Prop) (Qt : String → xb_H → Nat → Nat → Prop) (x0 : Nat) (x1 : Int32) (h : xb_H) (bc : Nat) (bs : Nat) : Prop :=
    (∃ n8 : Nat, w_Reader_plainBytes_L30 Qr Qt n8 x0 x1 0 0 h bc bs)

def w_Reader_plainBytes (x0 : Nat) (x1 : Int32) (h : xb_H) (bc : Nat) (bs : Nat) (Qr : Int64 → xb_H → Nat → Nat → Prop) (Qt : String → xb_H → Nat → Nat → Prop) : Prop :=
    xb_k h x0 = 4 ∧ ((x1 ≤ ((xb_i h x0 4) - (xb_i h x0 3)) → w_Reader_plainBytes_L25 Qr Qt x0 x1 h bc bs) ∧ (¬ x1 ≤ ((xb_i h x0 4) - (xb_i h x0 3)) → ∃ b3 : Nat, (xb_r h x0 0) = some b3 ∧ xb_k h b3 = 3 ∧ w_StackModule_fail b3 2 (xb_i h x0 4) h bc bs (fun (h5 : xb_H) (bc6 bs6 : Nat) => xb_ext h h5 → w_Reader_plainBytes_L25 Qr Qt x0 x1 h5 bc6 bs6) Qt))


def w_Reader_readMark_L48 (Qr : xb_H → Nat → Nat → Prop) (Qt : String → xb_H → Nat → Nat → Prop) (x0 : Nat) (h : xb_H) (bc : Nat) (bs : Nat) : Prop :=
    xb_k h x0 = 4 ∧ ∀ h2 : xb_H, h2 = xb_I h x0 3 ((xb_i h x0 3) + 1) → Qr h2 bc bs

def w_Reader_readMark_L23 (Qr : xb_H → Nat → Nat → Prop) (Qt : String → xb_H → Nat → Nat → Prop) (x0 : Nat) (x1 : Int32) (h : xb_H) (bc : Nat) (bs : Nat) : Prop :=
    xb_k h x0 = 4 ∧ ∃ b2 : Nat, (xb_r h x0 1) = some b2 ∧ xb_k h b2 = 100 ∧ vp_in (xb_i h x0 3) (xb_n h b2) ∧ (((xb_i h b2 (Int32.toNatClampNeg (xb_i h x0 3))) = x1 → w_Reader_readMark_L48 Qr Qt x0 h bc bs) ∧ (¬ (xb_i h b2 (Int32.toNatClampNeg (xb_i h x0 3))) = x1 → ∃ b6 : Nat, (xb_r h x0 0) = some b6 ∧ xb_k h b6 = 3 ∧ w_StackModule_fail b6 5 (xb_i h x0 3) h bc bs (fun (h8 : xb_H) (bc9 bs9 : Nat) => xb_ext h h8 → w_Reader_readMark_L48 Qr Qt x0 h8 bc9 bs9) Qt))

def w_Reader_readMark (x0 : Nat) (x1 : Int32) (h : xb_H) (bc : Nat) (bs : Nat) (Qr : xb_H → Nat → Nat → Prop) (Qt : String → xb_H → Nat → Nat → Prop) : Prop :=
    xb_k h x0 = 4 ∧ (((xb_i h x0 3) < (xb_i h x0 4) → w_Reader_readMark_L23 Qr Qt x0 x1 h bc bs) ∧ (¬ (xb_i h x0 3) < (xb_i h x0 4) → ∃ b3 : Nat, (xb_r h x0 0) = some b3 ∧ xb_k h b3 = 3 ∧ w_StackModule_fail b3 2 (xb_i h x0 4) h bc bs (fun (h5 : xb_H) (bc6 bs6 : Nat) => xb_ext h h5 → w_Reader_readMark_L23 Qr Qt x0 x1 h5 bc6 bs6) Qt))


def w_Reader_signed_L132 (Qr : Int64 → xb_H → Nat → Nat → Prop) (Qt : String → xb_H → Nat → Nat → Prop) (x2 : Int64) (x4 : Int32) (h : xb_H) (bc : Nat) (bs : Nat) : Prop :=
    ∀ v1 : Int32, v1 = (if 0 < (64 - x4) then (64 - x4) else 0) → Qr (xb_lshr (xb_lshl x2 v1) v1) h bc bs

def w_Reader_signed_L81 (K8 : Nat → Int32 → Int64 → Int32 → Int32 → xb_H → Nat → Nat → Prop) (Qr : Int64 → xb_H → Nat → Nat → Prop) (Qt : String → xb_H → Nat → Nat → Prop) (x0 : Nat) (x1 : Int32) (x2 : Int64) (x5 : Int32) (x6 : Int32) (h : xb_H) (bc : Nat) (bs : Nat) : Prop :=
    xb_k h x0 = 4 ∧ ∀ h2 : xb_H, h2 = xb_I h x0 3 ((xb_i h x0 3) + 1) → ∀ v3 : Int64, v3 = (x2 ||| (xb_lshl (Int32.toInt64 (x6 &&& 127)) (7 * x5))) → ∀ v4 : Int32, v4 = (7 * (x5 + 1)) → (((128 : Int32) ≤ x6 → K8 x0 x1 v3 v4 (x5 + 1) h2 bc bs) ∧ (¬ (128 : Int32) ≤ x6 → w_Reader_signed_L132 Qr Qt v3 v4 h2 bc bs))

def w_Reader_signed_L37 (K8 : Nat → Int32 → Int64 → Int32 → Int32 → xb_H → Nat → Nat → Prop) (Qr : Int64 → xb_H → Nat → Nat → Prop) (Qt : String → xb_H → Nat → Nat → Prop) (x0 : Nat) (x1 : Int32) (x2 : Int64) (x5 : Int32) (h : xb_H) (bc : Nat) (bs : Nat) : Prop :=
    xb_k h x0 = 4 ∧ ∃ b2 : Nat, (xb_r h x0 1) = some b2 ∧ xb_k h b2 = 100 ∧ vp_in (xb_i h x0 3) (xb_n h b2) ∧ ∀ v5 : Int32, v5 = ((xb_i h b2 (Int32.toNatClampNeg (xb_i h x0 3))) &&& 255) → ((¬ x5 = (x1 - 1) → w_Reader_signed_L81 K8 Qr Qt x0 x1 x2 x5 v5 h bc bs) ∧ (x5 = (x1 - 1) → w_Reader_endsSigned v5 x1 h (fun (r8 : Int32) (h7 : xb_H) => xb_ext h h7 → ((¬ r8 = (0 : Int32) → w_Reader_signed_L81 K8 Qr Qt x0 x1 x2 x5 v5 h7 bc bs) ∧ (r8 = (0 : Int32) → ∃ b10 : Nat, (xb_r h7 x0 0) = some b10 ∧ xb_k h7 b10 = 3 ∧ w_StackModule_fail b10 3 (xb_i h7 x0 3) h7 bc bs (fun (h12 : xb_H) (bc13 bs13 : Nat) => xb_ext h7 h12 → w_Reader_signed_L81 K8 Qr Qt x0 x1 x2 x5 v5 h12 bc13 bs13) Qt)))))

def w_Reader_signed_L8 (Qr : Int64 → xb_H → Nat → Nat → Prop) (Qt : String → xb_H → Nat → Nat → Prop) : Nat → Nat → Int32 → Int64 → Int32 → Int32 → xb_H → Nat → Nat → Prop
  | 0, _, _, _, _, _, _, _, _ => False
  | n9 + 1, x0, x1, x2, x4, x5, h, bc, bs =>
    ((x1 ≤ x5 → w_Reader_signed_L132 Qr Qt x2 x4 h bc bs) ∧ (¬ x1 ≤ x5 → xb_k h x0 = 4 ∧ (((xb_i h x0 3) < (xb_i h x0 4) → w_Reader_signed_L37 (w_Reader_signed_L8 Qr Qt n9) Qr Qt x0 x1 x2 x5 h bc bs) ∧ (¬ (xb_i h x0 3) < (xb_i h x0 4) → ∃ b4 : Nat, (xb_r h x0 0) = some b4 ∧ xb_k h b4 = 3 ∧ w_StackModule_fail b4 2 (xb_i h x0 4) h bc bs (fun (h6 : xb_H) (bc7 bs7 : Nat) => xb_ext h h6 → w_Reader_signed_L37 (w_Reader_signed_L8 Qr Qt n9) Qr Qt x0 x1 x2 x5 h6 bc7 bs7) Qt))))

def w_Reader_signed (x0 : Nat) (x1 : Int32) (h : xb_H) (bc : Nat) (bs : Nat) (Qr : Int64 → xb_H → Nat → Nat → Prop) (Qt : String → xb_H → Nat → Nat → Prop) : Prop :=
    (∃ n8 : Nat, w_Reader_signed_L8 Qr Qt n8 x0 x1 0 0 0 h bc bs)


def w_Row_makeRoom_L31 (Qr : xb_H → Nat → Nat → Prop) (h : xb_H) (bc : Nat) (bs : Nat) : Prop :=
    Qr h bc bs

def w_Row_makeRoom (x0 : Nat) (x1 : Int32) (h : xb_H) (bc : Nat) (bs : Nat) (Qr : xb_H → Nat → Nat → Prop) : Prop :=
    xb_k h x0 = 2 ∧ ∃ b2 : Nat, (xb_r h x0 0) = some b2 ∧ xb_k h b2 = 103 ∧ ((x1 ≤ (nI (xb_n h b2)) → w_Row_makeRoom_L31 Qr h bc bs) ∧ (¬ x1 ≤ (nI (xb_n h b2)) → ∃ b5 : Nat, (xb_r h x0 0) = some b5 ∧ ∃ b6 : Nat, (xb_r h x0 0) = some b6 ∧ xb_k h b6 = 103 ∧ w_Arrays_copyOf1 b5 (if x1 < (2 * (nI (xb_n h b6))) then (2 * (nI (xb_n h b6))) else x1) h bc bs (fun (r9 : Nat) (h8 : xb_H) (bc9 bs9 : Nat) => xb_ext h h8 → ∀ h10 : xb_H, h10 = xb_P h8 x0 0 (some r9) → w_Row_makeRoom_L31 Qr h10 bc9 bs9)))


set_option maxRecDepth 100000 in
def w_StackModule_init (x0 : Nat) (x1 : Nat) (h : xb_H) (bc : Nat) (bs : Nat) (Qr : xb_H → Nat → Nat → Prop) : Prop :=
    1 ≤ bc ∧ 3 ≤ bs ∧ ∀ q1 : Nat, xb_k h q1 = 0 → ∀ h2 : xb_H, h2 = xb_new h q1 2 0 → w_Row_init q1 5 h2 (bc - 1) (bs - 3) (fun (h4 : xb_H) (bc5 bs5 : Nat) => xb_ext h2 h4 → xb_k h4 x0 = 3 ∧ ∀ h7 : xb_H, h7 = xb_P h4 x0 2 (some q1) → 1 ≤ bc5 ∧ 3 ≤ bs5 ∧ ∀ q8 : Nat, xb_k h7 q8 = 0 → ∀ h9 : xb_H, h9 = xb_new h7 q8 2 0 → w_Row_init q8 7 h9 (bc5 - 1) (bs5 - 3) (fun (h11 : xb_H) (bc12 bs12 : Nat) => xb_ext h9 h11 → ∀ h13 : xb_H, h13 = xb_P h11 x0 3 (some q8) → 1 ≤ bc12 ∧ 3 ≤ bs12 ∧ ∀ q14 : Nat, xb_k h13 q14 = 0 → ∀ h15 : xb_H, h15 = xb_new h13 q14 2 0 → w_Row_init q14 2 h15 (bc12 - 1) (bs12 - 3) (fun (h17 : xb_H) (bc18 bs18 : Nat) => xb_ext h15 h17 → ∀ h19 : xb_H, h19 = xb_P h17 x0 4 (some q14) → 1 ≤ bc18 ∧ 3 ≤ bs18 ∧ ∀ q20 : Nat, xb_k h19 q20 = 0 → ∀ h21 : xb_H, h21 = xb_new h19 q20 2 0 → w_Row_init q20 3 h21 (bc18 - 1) (bs18 - 3) (fun (h23 : xb_H) (bc24 bs24 : Nat) => xb_ext h21 h23 → ∀ h25 : xb_H, h25 = xb_P h23 x0 5 (some q20) → 1 ≤ bc24 ∧ 3 ≤ bs24 ∧ ∀ q26 : Nat, xb_k h25 q26 = 0 → ∀ h27 : xb_H, h27 = xb_new h25 q26 2 0 → w_Row_init q26 3 h27 (bc24 - 1) (bs24 - 3) (fun (h29 : xb_H) (bc30 bs30 : Nat) => xb_ext h27 h29 → ∀ h31 : xb_H, h31 = xb_P h29 x0 6 (some q26) → 1 ≤ bc30 ∧ 3 ≤ bs30 ∧ ∀ q32 : Nat, xb_k h31 q32 = 0 → ∀ h33 : xb_H, h33 = xb_new h31 q32 2 0 → w_Row_init q32 4 h33 (bc30 - 1) (bs30 - 3) (fun (h35 : xb_H) (bc36 bs36 : Nat) => xb_ext h33 h35 → ∀ h37 : xb_H, h37 = xb_P h35 x0 7 (some q32) → 1 ≤ bc36 ∧ 3 ≤ bs36 ∧ ∀ q38 : Nat, xb_k h37 q38 = 0 → ∀ h39 : xb_H, h39 = xb_new h37 q38 2 0 → w_Row_init q38 5 h39 (bc36 - 1) (bs36 - 3) (fun (h41 : xb_H) (bc42 bs42 : Nat) => xb_ext h39 h41 → ∀ h43 : xb_H, h43 = xb_P h41 x0 8 (some q38) → 1 ≤ bc42 ∧ 3 ≤ bs42 ∧ ∀ q44 : Nat, xb_k h43 q44 = 0 → ∀ h45 : xb_H, h45 = xb_new h43 q44 2 0 → w_Row_init q44 5 h45 (bc42 - 1) (bs42 - 3) (fun (h47 : xb_H) (bc48 bs48 : Nat) => xb_ext h45 h47 → ∀ h49 : xb_H, h49 = xb_P h47 x0 9 (some q44) → 1 ≤ bc48 ∧ 3 ≤ bs48 ∧ ∀ q50 : Nat, xb_k h49 q50 = 0 → ∀ h51 : xb_H, h51 = xb_new h49 q50 2 0 → w_Row_init q50 2 h51 (bc48 - 1) (bs48 - 3) (fun (h53 : xb_H) (bc54 bs54 : Nat) => xb_ext h51 h53 → ∀ h55 : xb_H, h55 = xb_P h53 x0 10 (some q50) → 1 ≤ bc54 ∧ 3 ≤ bs54 ∧ ∀ q56 : Nat, xb_k h55 q56 = 0 → ∀ h57 : xb_H, h57 = xb_new h55 q56 2 0 → w_Row_init q56 5 h57 (bc54 - 1) (bs54 - 3) (fun (h59 : xb_H) (bc60 bs60 : Nat) => xb_ext h57 h59 → ∀ h61 : xb_H, h61 = xb_P h59 x0 11 (some q56) → 1 ≤ bc60 ∧ 3 ≤ bs60 ∧ ∀ q62 : Nat, xb_k h61 q62 = 0 → ∀ h63 : xb_H, h63 = xb_new h61 q62 2 0 → w_Row_init q62 2 h63 (bc60 - 1) (bs60 - 3) (fun (h65 : xb_H) (bc66 bs66 : Nat) => xb_ext h63 h65 → ∀ h67 : xb_H, h67 = xb_P h65 x0 12 (some q62) → 1 ≤ bc66 ∧ 3 ≤ bs66 ∧ ∀ q68 : Nat, xb_k h67 q68 = 0 → ∀ h69 : xb_H, h69 = xb_new h67 q68 2 0 → w_Row_init q68 5 h69 (bc66 - 1) (bs66 - 3) (fun (h71 : xb_H) (bc72 bs72 : Nat) => xb_ext h69 h71 → ∀ h73 : xb_H, h73 = xb_P h71 x0 13 (some q68) → 1 ≤ bc72 ∧ 4 ≤ bs72 ∧ ∀ q74 : Nat, xb_k h73 q74 = 0 → ∀ h75 : xb_H, h75 = xb_new h73 q74 102 4 → ∀ h77 : xb_H, h77 = xb_P h75 x0 14 (some q74) → ∀ h78 : xb_H, h78 = xb_I h77 x0 15 (-1) → ∀ h79 : xb_H, h79 = xb_I h78 x0 16 (-1) → ∀ h80 : xb_H, h80 = xb_P h79 x0 0 (some x1) → xb_k h80 x1 = 100 ∧ ¬ (nI (xb_n h80 x1)) < 0 ∧ (Int32.toNatClampNeg (nI (xb_n h80 x1))) * 4 ≤ 536870912 ∧ 1 ≤ (bc72 - 1) ∧ (Int32.toNatClampNeg (nI (xb_n h80 x1))) ≤ (bs72 - 4) ∧ ∀ q82 : Nat, xb_k h80 q82 = 0 → ∀ h83 : xb_H, h83 = xb_new h80 q82 102 (Int32.toNatClampNeg (nI (xb_n h80 x1))) → ∀ h85 : xb_H, h85 = xb_P h83 x0 1 (some q82) → Qr h85 ((bc72 - 1) - 1) ((bs72 - 4) - (Int32.toNatClampNeg (nI (xb_n h80 x1))))))))))))))))


def w_StackModule_exportNamedBelow_L51 (K3 : Nat → Int32 → Nat → Int32 → Int32 → Int32 → xb_H → Prop) (Qr : Int32 → xb_H → Prop) (x0 : Nat) (x1 : Int32) (x2 : Nat) (x3 : Int32) (x4 : Int32) (x5 : Int32) (h : xb_H) : Prop :=
    K3 x0 x1 x2 x3 x4 (x5 + 1) h

def w_StackModule_exportNamedBelow_L3 (Qr : Int32 → xb_H → Prop) : Nat → Nat → Int32 → Nat → Int32 → Int32 → Int32 → xb_H → Prop
  | 0, _, _, _, _, _, _, _ => False
  | n9 + 1, x0, x1, x2, x3, x4, x5, h =>
    ((x1 ≤ x5 → Qr (-1) h) ∧ (¬ x1 ≤ x5 → xb_k h x0 = 3 ∧ ∃ b3 : Nat, (xb_r h x0 8) = some b3 ∧ xb_k h b3 = 2 ∧ w_Row_at b3 x5 4 h (fun (r6 : Int32) (h5 : xb_H) => xb_ext h h5 → ((¬ r6 = x4 → w_StackModule_exportNamedBelow_L51 (w_StackModule_exportNamedBelow_L3 Qr n9) Qr x0 x1 x2 x3 x4 x5 h5) ∧ (r6 = x4 → ∃ b8 : Nat, (xb_r h5 x0 0) = some b8 ∧ ∃ b9 : Nat, (xb_r h5 x0 8) = some b9 ∧ xb_k h5 b9 = 2 ∧ w_Row_at b9 x5 3 h5 (fun (r12 : Int32) (h11 : xb_H) => xb_ext h5 h11 → w_StackModule_sameBytes b8 r12 x2 x3 x4 h11 (fun (r14 : Int32) (h13 : xb_H) => xb_ext h11 h13 → ((r14 = (0 : Int32) → w_StackModule_exportNamedBelow_L51 (w_StackModule_exportNamedBelow_L3 Qr n9) Qr x0 x1 x2 x3 x4 x5 h13) ∧ (¬ r14 = (0 : Int32) → Qr x5 h13)))))))))

def w_StackModule_exportNamedBelow (x0 : Nat) (x1 : Int32) (x2 : Nat) (x3 : Int32) (x4 : Int32) (h : xb_H) (Qr : Int32 → xb_H → Prop) : Prop :=
    (∃ n8 : Nat, w_StackModule_exportNamedBelow_L3 Qr n8 x0 x1 x2 x3 x4 0 h)


def w_StackModule_hasResult_L19 (Qr : Int32 → xb_H → Prop) (y0 : Int32) (h : xb_H) : Prop :=
    (y0 = 0 ∨ y0 = 1) ∧ Qr y0 h

def w_StackModule_hasResult (x0 : Nat) (x1 : Int32) (h : xb_H) (Qr : Int32 → xb_H → Prop) : Prop :=
    xb_k h x0 = 3 ∧ ∃ b2 : Nat, (xb_r h x0 2) = some b2 ∧ xb_k h b2 = 2 ∧ w_Row_at b2 x1 4 h (fun (r5 : Int32) (h4 : xb_H) => xb_ext h h4 → ((r5 = (64 : Int32) → w_StackModule_hasResult_L19 Qr 0 h4) ∧ (¬ r5 = (64 : Int32) → w_StackModule_hasResult_L19 Qr 1 h4)))


def w_StackModule_nextPlace_L44 (Qr : Int32 → xb_H → Prop) (x1 : Int32) (h : xb_H) : Prop :=
    Qr (x1 + 1) h

def w_StackModule_nextPlace (x0 : Nat) (x1 : Int32) (h : xb_H) (Qr : Int32 → xb_H → Prop) : Prop :=
    xb_k h x0 = 3 ∧ ∃ b2 : Nat, (xb_r h x0 0) = some b2 ∧ xb_k h b2 = 100 ∧ vp_in x1 (xb_n h b2) ∧ w_Reader_shapeOf ((xb_i h b2 (Int32.toNatClampNeg x1)) &&& 255) h (fun (r6 : Int32) (h5 : xb_H) => xb_ext h h5 → ((r6 = 0 → w_StackModule_nextPlace_L44 Qr x1 h5) ∧ (r6 = 1 → Qr (x1 + 2) h5) ∧ (r6 = 2 → w_StackModule_nextPlace_L44 Qr x1 h5) ∧ (r6 = 3 → w_StackModule_nextPlace_L44 Qr x1 h5) ∧ (¬ r6 = 0 → ¬ r6 = 1 → ¬ r6 = 2 → ¬ r6 = 3 → ∃ b11 : Nat, (xb_r h5 x0 1) = some b11 ∧ xb_k h5 b11 = 102 ∧ vp_in x1 (xb_n h5 b11) ∧ Qr (xb_i h5 b11 (Int32.toNatClampNeg x1)) h5)))


def w_StackModule_parameterType (x0 : Nat) (x1 : Int32) (x2 : Int32) (h : xb_H) (Qr : Int32 → xb_H → Prop) : Prop :=
    xb_k h x0 = 3 ∧ ∃ b2 : Nat, (xb_r h x0 0) = some b2 ∧ ∃ b3 : Nat, (xb_r h x0 2) = some b3 ∧ xb_k h b3 = 2 ∧ w_Row_at b3 x1 1 h (fun (r6 : Int32) (h5 : xb_H) => xb_ext h h5 → xb_k h5 b2 = 100 ∧ vp_in (r6 + x2) (xb_n h5 b2) ∧ Qr (xb_i h5 b2 (Int32.toNatClampNeg (r6 + x2))) h5)


def w_StackModule_parameters (x0 : Nat) (x1 : Int32) (h : xb_H) (Qr : Int32 → xb_H → Prop) : Prop :=
    xb_k h x0 = 3 ∧ ∃ b2 : Nat, (xb_r h x0 2) = some b2 ∧ xb_k h b2 = 2 ∧ w_Row_at b2 x1 2 h (fun (r5 : Int32) (h4 : xb_H) => xb_ext h h4 → Qr r5 h4)


def w_StackModule_resultType (x0 : Nat) (x1 : Int32) (h : xb_H) (Qr : Int32 → xb_H → Prop) : Prop :=
    xb_k h x0 = 3 ∧ ∃ b2 : Nat, (xb_r h x0 2) = some b2 ∧ xb_k h b2 = 2 ∧ w_Row_at b2 x1 4 h (fun (r5 : Int32) (h4 : xb_H) => xb_ext h h4 → Qr r5 h4)


def w_StackModule_sameType_L46 (Qr : Int32 → xb_H → Prop) (h : xb_H) : Prop :=
    Qr 0 h

def w_StackModule_sameType (x0 : Nat) (x1 : Int32) (x2 : Nat) (x3 : Int32) (h : xb_H) (Qr : Int32 → xb_H → Prop) : Prop :=
    xb_k h x0 = 3 ∧ ∃ b2 : Nat, (xb_r h x0 2) = some b2 ∧ xb_k h b2 = 2 ∧ w_Row_at b2 x1 2 h (fun (r5 : Int32) (h4 : xb_H) => xb_ext h h4 → xb_k h4 x2 = 3 ∧ ∃ b7 : Nat, (xb_r h4 x2 2) = some b7 ∧ xb_k h4 b7 = 2 ∧ w_Row_at b7 x3 2 h4 (fun (r10 : Int32) (h9 : xb_H) => xb_ext h4 h9 → ((¬ r5 = r10 → w_StackModule_sameType_L46 Qr h9) ∧ (r5 = r10 → ∃ b12 : Nat, (xb_r h9 x0 2) = some b12 ∧ xb_k h9 b12 = 2 ∧ w_Row_at b12 x1 4 h9 (fun (r15 : Int32) (h14 : xb_H) => xb_ext h9 h14 → ∃ b16 : Nat, (xb_r h14 x2 2) = some b16 ∧ xb_k h14 b16 = 2 ∧ w_Row_at b16 x3 4 h14 (fun (r19 : Int32) (h18 : xb_H) => xb_ext h14 h18 → ((r15 = r19 → ∃ b21 : Nat, (xb_r h18 x0 2) = some b21 ∧ xb_k h18 b21 = 2 ∧ w_Row_at b21 x1 1 h18 (fun (r24 : Int32) (h23 : xb_H) => xb_ext h18 h23 → ∃ b25 : Nat, (xb_r h23 x0 0) = some b25 ∧ ∃ b26 : Nat, (xb_r h23 x2 0) = some b26 ∧ ∃ b27 : Nat, (xb_r h23 x2 2) = some b27 ∧ xb_k h23 b27 = 2 ∧ w_Row_at b27 x3 1 h23 (fun (r30 : Int32) (h29 : xb_H) => xb_ext h23 h29 → w_StackModule_sameBytes b25 r24 b26 r30 r5 h29 (fun (r32 : Int32) (h31 : xb_H) => xb_ext h29 h31 → (r32 = 0 ∨ r32 = 1) ∧ Qr r32 h31)))) ∧ (¬ r15 = r19 → w_StackModule_sameType_L46 Qr h18))))))))


def w_StackModule_typeOf (x0 : Nat) (x1 : Int32) (h : xb_H) (Qr : Int32 → xb_H → Prop) : Prop :=
    xb_k h x0 = 3 ∧ ∃ b2 : Nat, (xb_r h x0 4) = some b2 ∧ xb_k h b2 = 2 ∧ w_Row_at b2 x1 1 h (fun (r5 : Int32) (h4 : xb_H) => xb_ext h h4 → Qr r5 h4)


def w_Whole_countLong (x0 : Int32) (x1 : Int64) (h : xb_H) (Qr : Int32 → xb_H → Prop) : Prop :=
    ((x0 = 0 → w_Whole_zerosAbove x1 h (fun (r3 : Int32) (h2 : xb_H) => xb_ext h h2 → Qr r3 h2)) ∧ (x0 = 1 → w_Long_bitCount ((x1 ^^^ (-1)) &&& (x1 - 1)) h (fun (r6 : Int32) (h5 : xb_H) => xb_ext h h5 → Qr r6 h5)) ∧ (¬ x0 = 0 → ¬ x0 = 1 → w_Long_bitCount x1 h (fun (r8 : Int32) (h7 : xb_H) => xb_ext h h7 → Qr r8 h7)))


def w_Whole_countShort (x0 : Int32) (x1 : Int32) (h : xb_H) (Qr : Int32 → xb_H → Prop) : Prop :=
    ((x0 = 0 → w_Whole_zerosAbove ((Int32.toInt64 x1) &&& 4294967295) h (fun (r3 : Int32) (h2 : xb_H) => xb_ext h h2 → Qr (r3 - 32) h2)) ∧ (x0 = 1 → w_Integer_bitCount ((x1 ^^^ (-1)) &&& (x1 - 1)) h (fun (r6 : Int32) (h5 : xb_H) => xb_ext h h5 → Qr r6 h5)) ∧ (¬ x0 = 0 → ¬ x0 = 1 → w_Integer_bitCount x1 h (fun (r8 : Int32) (h7 : xb_H) => xb_ext h h7 → Qr r8 h7)))


def w_Whole_divideLong (x0 : Int32) (x1 : Int64) (x3 : Int64) (h : xb_H) (Qr : Int64 → xb_H → Prop) : Prop :=
    ((x0 = 3 → ¬ x3 = 0 ∧ Qr (x1 / x3) h) ∧ (x0 = 4 → w_Whole_quotient x1 x3 h (fun (r5 : Int64) (h4 : xb_H) => xb_ext h h4 → Qr r5 h4)) ∧ (x0 = 5 → ¬ x3 = 0 ∧ Qr (x1 - x1 / x3 * x3) h) ∧ (¬ x0 = 3 → ¬ x0 = 4 → ¬ x0 = 5 → w_Whole_quotient x1 x3 h (fun (r9 : Int64) (h8 : xb_H) => xb_ext h h8 → Qr (x1 - (r9 * x3)) h8)))


def w_Whole_holds_L163 (Qr : Int32 → xb_H → Prop) (y0 : Int32) (h : xb_H) : Prop :=
    (y0 = 0 ∨ y0 = 1) ∧ Qr y0 h

def w_Whole_holds_L149 (Qr : Int32 → xb_H → Prop) (y0 : Int32) (h : xb_H) : Prop :=
    (y0 = 0 ∨ y0 = 1) ∧ Qr y0 h

def w_Whole_holds_L137 (Qr : Int32 → xb_H → Prop) (y0 : Int32) (h : xb_H) : Prop :=
    (y0 = 0 ∨ y0 = 1) ∧ Qr y0 h

def w_Whole_holds_L123 (Qr : Int32 → xb_H → Prop) (y0 : Int32) (h : xb_H) : Prop :=
    (y0 = 0 ∨ y0 = 1) ∧ Qr y0 h

def w_Whole_holds_L105 (Qr : Int32 → xb_H → Prop) (y0 : Int32) (h : xb_H) : Prop :=
    (y0 = 0 ∨ y0 = 1) ∧ Qr y0 h

def w_Whole_holds_L87 (Qr : Int32 → xb_H → Prop) (y0 : Int32) (h : xb_H) : Prop :=
    (y0 = 0 ∨ y0 = 1) ∧ Qr y0 h

def w_Whole_holds_L75 (Qr : Int32 → xb_H → Prop) (y0 : Int32) (h : xb_H) : Prop :=
    (y0 = 0 ∨ y0 = 1) ∧ Qr y0 h

def w_Whole_holds_L63 (Qr : Int32 → xb_H → Prop) (y0 : Int32) (h : xb_H) : Prop :=
    (y0 = 0 ∨ y0 = 1) ∧ Qr y0 h

def w_Whole_holds (x0 : Int32) (x1 : Int64) (x3 : Int64) (h : xb_H) (Qr : Int32 → xb_H → Prop) : Prop :=
    ((x0 = 0 → ((¬ x1 = x3 → w_Whole_holds_L63 Qr 0 h) ∧ (x1 = x3 → w_Whole_holds_L63 Qr 1 h))) ∧ (x0 = 1 → ((x1 = x3 → w_Whole_holds_L75 Qr 0 h) ∧ (¬ x1 = x3 → w_Whole_holds_L75 Qr 1 h))) ∧ (x0 = 2 → ((x3 ≤ x1 → w_Whole_holds_L87 Qr 0 h) ∧ (¬ x3 ≤ x1 → w_Whole_holds_L87 Qr 1 h))) ∧ (x0 = 3 → w_Whole_isBelow x1 x3 h (fun (r9 : Int32) (h8 : xb_H) => xb_ext h h8 → (r9 = 0 ∨ r9 = 1) ∧ Qr r9 h8)) ∧ (x0 = 4 → ((x1 ≤ x3 → w_Whole_holds_L105 Qr 0 h) ∧ (¬ x1 ≤ x3 → w_Whole_holds_L105 Qr 1 h))) ∧ (x0 = 5 → w_Whole_isBelow x3 x1 h (fun (r14 : Int32) (h13 : xb_H) => xb_ext h h13 → (r14 = 0 ∨ r14 = 1) ∧ Qr r14 h13)) ∧ (x0 = 6 → ((x3 < x1 → w_Whole_holds_L123 Qr 0 h) ∧ (¬ x3 < x1 → w_Whole_holds_L123 Qr 1 h))) ∧ (x0 = 7 → w_Whole_isBelow x3 x1 h (fun (r19 : Int32) (h18 : xb_H) => xb_ext h h18 → ((¬ r19 = (0 : Int32) → w_Whole_holds_L137 Qr 0 h18) ∧ (r19 = (0 : Int32) → w_Whole_holds_L137 Qr 1 h18)))) ∧ (x0 = 8 → ((x1 < x3 → w_Whole_holds_L149 Qr 0 h) ∧ (¬ x1 < x3 → w_Whole_holds_L149 Qr 1 h))) ∧ (¬ x0 = 0 → ¬ x0 = 1 → ¬ x0 = 2 → ¬ x0 = 3 → ¬ x0 = 4 → ¬ x0 = 5 → ¬ x0 = 6 → ¬ x0 = 7 → ¬ x0 = 8 → w_Whole_isBelow x1 x3 h (fun (r24 : Int32) (h23 : xb_H) => xb_ext h h23 → ((¬ r24 = (0 : Int32) → w_Whole_holds_L163 Qr 0 h23) ∧ (r24 = (0 : Int32) → w_Whole_holds_L163 Qr 1 h23)))))


def w_Whole_reckonShort_L98 (Qr : Int32 → xb_H → Prop) (y0 : Int32) (h : xb_H) : Prop :=
    Qr y0 h

def w_Whole_reckonShort_L84 (Qr : Int32 → xb_H → Prop) (x0 : Int32) (x1 : Int32) (x2 : Int32) (h : xb_H) : Prop :=
    ((¬ x2 = (0 : Int32) → w_Whole_divideShort x0 x1 x2 h (fun (r3 : Int32) (h2 : xb_H) => xb_ext h h2 → w_Whole_reckonShort_L98 Qr r3 h2)) ∧ (x2 = (0 : Int32) → w_Whole_reckonShort_L98 Qr 0 h))

def w_Whole_reckonShort (x0 : Int32) (x1 : Int32) (x2 : Int32) (h : xb_H) (Qr : Int32 → xb_H → Prop) : Prop :=
    ((x0 = 0 → Qr (x1 + x2) h) ∧ (x0 = 1 → Qr (x1 - x2) h) ∧ (x0 = 2 → Qr (x1 * x2) h) ∧ (x0 = 3 → w_Whole_reckonShort_L84 Qr x0 x1 x2 h) ∧ (x0 = 4 → w_Whole_reckonShort_L84 Qr x0 x1 x2 h) ∧ (x0 = 5 → w_Whole_reckonShort_L84 Qr x0 x1 x2 h) ∧ (x0 = 6 → w_Whole_reckonShort_L84 Qr x0 x1 x2 h) ∧ (x0 = 7 → Qr (x1 &&& x2) h) ∧ (x0 = 8 → Qr (x1 ||| x2) h) ∧ (x0 = 9 → Qr (x1 ^^^ x2) h) ∧ (x0 = 10 → Qr (x1 <<< (x2 &&& 31)) h) ∧ (x0 = 11 → Qr (x1 >>> (x2 &&& 31)) h) ∧ (x0 = 12 → Qr (xb_ushr x1 x2) h) ∧ (x0 = 13 → Qr ((x1 <<< (x2 &&& 31)) ||| (xb_ushr x1 (-x2))) h) ∧ (¬ x0 = 0 → ¬ x0 = 1 → ¬ x0 = 2 → ¬ x0 = 3 → ¬ x0 = 4 → ¬ x0 = 5 → ¬ x0 = 6 → ¬ x0 = 7 → ¬ x0 = 8 → ¬ x0 = 9 → ¬ x0 = 10 → ¬ x0 = 11 → ¬ x0 = 12 → ¬ x0 = 13 → Qr ((xb_ushr x1 x2) ||| (x1 <<< ((-x2) &&& 31))) h))


def w_World_init (x0 : Nat) (h : xb_H) (bc : Nat) (bs : Nat) (Qr : xb_H → Nat → Nat → Prop) : Prop :=
    1 ≤ bc ∧ 24 ≤ bs ∧ ∀ q1 : Nat, xb_k h q1 = 0 → ∀ h2 : xb_H, h2 = xb_new h q1 105 24 → xb_k h2 x0 = 7 ∧ ∀ h5 : xb_H, h5 = xb_P h2 x0 0 (some q1) → 1 ≤ (bc - 1) ∧ 3 ≤ (bs - 24) ∧ ∀ q6 : Nat, xb_k h5 q6 = 0 → ∀ h7 : xb_H, h7 = xb_new h5 q6 2 0 → w_Row_init q6 1 h7 ((bc - 1) - 1) ((bs - 24) - 3) (fun (h9 : xb_H) (bc10 bs10 : Nat) => xb_ext h7 h9 → ∀ h11 : xb_H, h11 = xb_P h9 x0 2 (some q6) → 1 ≤ bc10 ∧ 3 ≤ bs10 ∧ ∀ q12 : Nat, xb_k h11 q12 = 0 → ∀ h13 : xb_H, h13 = xb_new h11 q12 2 0 → w_Row_init q12 1 h13 (bc10 - 1) (bs10 - 3) (fun (h15 : xb_H) (bc16 bs16 : Nat) => xb_ext h13 h15 → ∀ h17 : xb_H, h17 = xb_P h15 x0 3 (some q12) → 1 ≤ bc16 ∧ 3 ≤ bs16 ∧ ∀ q18 : Nat, xb_k h17 q18 = 0 → ∀ h19 : xb_H, h19 = xb_new h17 q18 2 0 → w_Row_init q18 1 h19 (bc16 - 1) (bs16 - 3) (fun (h21 : xb_H) (bc22 bs22 : Nat) => xb_ext h19 h21 → ∀ h23 : xb_H, h23 = xb_P h21 x0 4 (some q18) → 1 ≤ bc22 ∧ 3 ≤ bs22 ∧ ∀ q24 : Nat, xb_k h23 q24 = 0 → ∀ h25 : xb_H, h25 = xb_new h23 q24 2 0 → w_Row_init q24 1 h25 (bc22 - 1) (bs22 - 3) (fun (h27 : xb_H) (bc28 bs28 : Nat) => xb_ext h25 h27 → ∀ h29 : xb_H, h29 = xb_P h27 x0 5 (some q24) → 1 ≤ bc28 ∧ 3 ≤ bs28 ∧ ∀ q30 : Nat, xb_k h29 q30 = 0 → ∀ h31 : xb_H, h31 = xb_new h29 q30 2 0 → w_Row_init q30 1 h31 (bc28 - 1) (bs28 - 3) (fun (h33 : xb_H) (bc34 bs34 : Nat) => xb_ext h31 h33 → ∀ h35 : xb_H, h35 = xb_P h33 x0 6 (some q30) → 1 ≤ bc34 ∧ 3 ≤ bs34 ∧ ∀ q36 : Nat, xb_k h35 q36 = 0 → ∀ h37 : xb_H, h37 = xb_new h35 q36 2 0 → w_Row_init q36 3 h37 (bc34 - 1) (bs34 - 3) (fun (h39 : xb_H) (bc40 bs40 : Nat) => xb_ext h37 h39 → ∀ h41 : xb_H, h41 = xb_P h39 x0 9 (some q36) → 1 ≤ bc40 ∧ 16 ≤ bs40 ∧ ∀ q42 : Nat, xb_k h41 q42 = 0 → ∀ h43 : xb_H, h43 = xb_new h41 q42 100 16 → ∀ h45 : xb_H, h45 = xb_P h43 x0 10 (some q42) → 1 ≤ (bc40 - 1) ∧ 3 ≤ (bs40 - 16) ∧ ∀ q46 : Nat, xb_k h45 q46 = 0 → ∀ h47 : xb_H, h47 = xb_new h45 q46 2 0 → w_Row_init q46 1 h47 ((bc40 - 1) - 1) ((bs40 - 16) - 3) (fun (h49 : xb_H) (bc50 bs50 : Nat) => xb_ext h47 h49 → ∀ h51 : xb_H, h51 = xb_P h49 x0 12 (some q46) → 1 ≤ bc50 ∧ 3 ≤ bs50 ∧ ∀ q52 : Nat, xb_k h51 q52 = 0 → ∀ h53 : xb_H, h53 = xb_new h51 q52 2 0 → w_Row_init q52 1 h53 (bc50 - 1) (bs50 - 3) (fun (h55 : xb_H) (bc56 bs56 : Nat) => xb_ext h53 h55 → ∀ h57 : xb_H, h57 = xb_P h55 x0 13 (some q52) → Qr h57 bc56 bs56))))))))


def w_World_instanceNamed_L64 (K11 : Nat → Nat → Int32 → Int32 → Int32 → xb_H → Prop) (Qr : Int32 → xb_H → Prop) (x0 : Nat) (x1 : Nat) (x2 : Int32) (x3 : Int32) (x4 : Int32) (h : xb_H) : Prop :=
    K11 x0 x1 x2 x3 (x4 + (-1)) h

def w_World_instanceNamed_L11 (Qr : Int32 → xb_H → Prop) : Nat → Nat → Nat → Int32 → Int32 → Int32 → xb_H → Prop
  | 0, _, _, _, _, _, _ => False
  | n9 + 1, x0, x1, x2, x3, x4, h =>
    ((x4 < (0 : Int32) → Qr (-1) h) ∧ (¬ x4 < (0 : Int32) → xb_k h x0 = 7 ∧ ∃ b3 : Nat, (xb_r h x0 9) = some b3 ∧ xb_k h b3 = 2 ∧ w_Row_at b3 x4 1 h (fun (r6 : Int32) (h5 : xb_H) => xb_ext h h5 → ((¬ r6 = x3 → w_World_instanceNamed_L64 (w_World_instanceNamed_L11 Qr n9) Qr x0 x1 x2 x3 x4 h5) ∧ (r6 = x3 → ∃ b8 : Nat, (xb_r h5 x0 10) = some b8 ∧ ∃ b9 : Nat, (xb_r h5 x0 9) = some b9 ∧ xb_k h5 b9 = 2 ∧ w_Row_at b9 x4 0 h5 (fun (r12 : Int32) (h11 : xb_H) => xb_ext h5 h11 → w_StackModule_sameBytes b8 r12 x1 x2 x3 h11 (fun (r14 : Int32) (h13 : xb_H) => xb_ext h11 h13 → ((r14 = (0 : Int32) → w_World_instanceNamed_L64 (w_World_instanceNamed_L11 Qr n9) Qr x0 x1 x2 x3 x4 h13) ∧ (¬ r14 = (0 : Int32) → ∃ b16 : Nat, (xb_r h13 x0 9) = some b16 ∧ xb_k h13 b16 = 2 ∧ w_Row_at b16 x4 2 h13 (fun (r19 : Int32) (h18 : xb_H) => xb_ext h13 h18 → Qr r19 h18))))))))))

def w_World_instanceNamed (x0 : Nat) (x1 : Nat) (x2 : Int32) (x3 : Int32) (h : xb_H) (Qr : Int32 → xb_H → Prop) : Prop :=
    xb_k h x0 = 7 ∧ ∃ b2 : Nat, (xb_r h x0 9) = some b2 ∧ xb_k h b2 = 2 ∧ w_Row_lines b2 h (fun (r5 : Int32) (h4 : xb_H) => xb_ext h h4 → ∀ v6 : Int32, v6 = (r5 - 1) → (∃ n8 : Nat, w_World_instanceNamed_L11 Qr n8 x0 x1 x2 x3 v6 h4))


def w_World_isWithin_L49 (Qr : Int32 → xb_H → Prop) (y0 : Int32) (h : xb_H) : Prop :=
    (y0 = 0 ∨ y0 = 1) ∧ Qr y0 h

def w_World_isWithin_L48 (Qr : Int32 → xb_H → Prop) (h : xb_H) : Prop :=
    w_World_isWithin_L49 Qr 0 h

def w_World_isWithin_L44 (Qr : Int32 → xb_H → Prop) (h : xb_H) : Prop :=
    w_World_isWithin_L49 Qr 1 h

def w_World_isWithin (x0 : Nat) (x1 : Int32) (x2 : Int32) (x3 : Int64) (h : xb_H) (Qr : Int32 → xb_H → Prop) : Prop :=
    xb_k h x0 = 2 ∧ w_Row_longAt x0 x1 2 h (fun (r3 : Int64) (h2 : xb_H) => xb_ext h h2 → w_Row_longAt x0 x1 1 h2 (fun (r5 : Int64) (h4 : xb_H) => xb_ext h2 h4 → (((Int32.toInt64 x2) < r5 → w_World_isWithin_L48 Qr h4) ∧ (¬ (Int32.toInt64 x2) < r5 → ((r3 = ((-1) : Int64) → w_World_isWithin_L44 Qr h4) ∧ (¬ r3 = ((-1) : Int64) → ((x3 = ((-1) : Int64) → w_World_isWithin_L48 Qr h4) ∧ (¬ x3 = ((-1) : Int64) → ((r3 < x3 → w_World_isWithin_L48 Qr h4) ∧ (¬ r3 < x3 → w_World_isWithin_L44 Qr h4))))))))))


def w_World_ownLeast_L28 (Qr : Int64 → xb_H → Prop) (y0 : Int64) (h : xb_H) : Prop :=
    Qr y0 h

def w_World_ownLeast (x0 : Nat) (x1 : Nat) (x2 : Int32) (h : xb_H) (Qr : Int64 → xb_H → Prop) : Prop :=
    xb_k h x1 = 2 ∧ w_Row_lines x1 h (fun (r3 : Int32) (h2 : xb_H) => xb_ext h h2 → xb_k h2 x0 = 3 ∧ ∃ b5 : Nat, (xb_r h2 x0 14) = some b5 ∧ xb_k h2 b5 = 102 ∧ vp_in x2 (xb_n h2 b5) ∧ ((r3 ≤ (xb_i h2 b5 (Int32.toNatClampNeg x2)) → w_World_ownLeast_L28 Qr 0 h2) ∧ (¬ r3 ≤ (xb_i h2 b5 (Int32.toNatClampNeg x2)) → ∃ b9 : Nat, (xb_r h2 x0 14) = some b9 ∧ xb_k h2 b9 = 102 ∧ vp_in x2 (xb_n h2 b9) ∧ w_Row_longAt x1 (xb_i h2 b9 (Int32.toNatClampNeg x2)) 1 h2 (fun (r13 : Int64) (h12 : xb_H) => xb_ext h2 h12 → w_World_ownLeast_L28 Qr r13 h12))))


def w_World_ownerOf (x0 : Nat) (x1 : Int32) (h : xb_H) (Qr : Nat → xb_H → Prop) : Prop :=
    xb_k h x0 = 7 ∧ ∃ b2 : Nat, (xb_r h x0 0) = some b2 ∧ ∃ b3 : Nat, (xb_r h x0 2) = some b3 ∧ xb_k h b3 = 2 ∧ w_Row_at b3 x1 0 h (fun (r6 : Int32) (h5 : xb_H) => xb_ext h h5 → xb_k h5 b2 = 105 ∧ vp_in r6 (xb_n h5 b2) ∧ ∃ b9 : Nat, (xb_r h5 b2 (Int32.toNatClampNeg r6)) = some b9 ∧ Qr b9 h5)


def w_World_sameVariable_L47 (Qr : Int32 → xb_H → Prop) (y0 : Int32) (h : xb_H) : Prop :=
    (y0 = 0 ∨ y0 = 1) ∧ Qr y0 h

def w_World_sameVariable_L46 (Qr : Int32 → xb_H → Prop) (h : xb_H) : Prop :=
    w_World_sameVariable_L47 Qr 0 h

def w_World_sameVariable (x0 : Nat) (x1 : Int32) (x2 : Nat) (x3 : Int32) (h : xb_H) (Qr : Int32 → xb_H → Prop) : Prop :=
    xb_k h x0 = 3 ∧ ∃ b2 : Nat, (xb_r h x0 7) = some b2 ∧ xb_k h b2 = 2 ∧ w_Row_at b2 x1 1 h (fun (r5 : Int32) (h4 : xb_H) => xb_ext h h4 → xb_k h4 x2 = 3 ∧ ∃ b7 : Nat, (xb_r h4 x2 7) = some b7 ∧ xb_k h4 b7 = 2 ∧ w_Row_at b7 x3 1 h4 (fun (r10 : Int32) (h9 : xb_H) => xb_ext h4 h9 → ((¬ r5 = r10 → w_World_sameVariable_L46 Qr h9) ∧ (r5 = r10 → ∃ b12 : Nat, (xb_r h9 x0 7) = some b12 ∧ xb_k h9 b12 = 2 ∧ w_Row_at b12 x1 2 h9 (fun (r15 : Int32) (h14 : xb_H) => xb_ext h9 h14 → ∃ b16 : Nat, (xb_r h14 x2 7) = some b16 ∧ xb_k h14 b16 = 2 ∧ w_Row_at b16 x3 2 h14 (fun (r19 : Int32) (h18 : xb_H) => xb_ext h14 h18 → ((¬ r15 = r19 → w_World_sameVariable_L46 Qr h18) ∧ (r15 = r19 → w_World_sameVariable_L47 Qr 1 h18))))))))


def w_World_valueOf (x0 : Nat) (x1 : Nat) (x2 : Int32) (h : xb_H) (Qr : Int64 → xb_H → Prop) : Prop :=
    xb_k h x1 = 3 ∧ ∃ b2 : Nat, (xb_r h x1 0) = some b2 ∧ xb_k h b2 = 100 ∧ vp_in x2 (xb_n h b2) ∧ ((¬ (xb_i h b2 (Int32.toNatClampNeg x2)) = (35 : Int32) → w_StackModule_constantAt x1 x2 h (fun (r7 : Int64) (h6 : xb_H) => xb_ext h h6 → Qr r7 h6)) ∧ ((xb_i h b2 (Int32.toNatClampNeg x2)) = (35 : Int32) → xb_k h x0 = 7 ∧ ∃ b9 : Nat, (xb_r h x0 3) = some b9 ∧ xb_k h b9 = 2 ∧ ∃ b11 : Nat, (xb_r h b9 0) = some b11 ∧ ∃ b12 : Nat, (xb_r h x0 13) = some b12 ∧ ∃ b13 : Nat, (xb_r h x1 1) = some b13 ∧ xb_k h b13 = 102 ∧ vp_in (x2 + 1) (xb_n h b13) ∧ xb_k h b12 = 2 ∧ w_Row_at b12 (xb_i h b13 (Int32.toNatClampNeg (x2 + 1))) 0 h (fun (r18 : Int32) (h17 : xb_H) => xb_ext h h17 → xb_k h17 b11 = 103 ∧ vp_in r18 (xb_n h17 b11) ∧ Qr (xb_l h17 b11 (Int32.toNatClampNeg r18)) h17)))


def w_Law_end (x0 : Nat) (x1 : Int32) (h : xb_H) (bc : Nat) (bs : Nat) (Qr : Int32 → xb_H → Nat → Nat → Prop) : Prop :=
    xb_k h x0 = 1 ∧ w_H_end x0 x1 h bc bs (fun (h2 : xb_H) (bc3 bs3 : Nat) => xb_ext h h2 → Qr 0 h2 bc3 bs3) (fun (XX : String) (h2 : xb_H) (bc3 bs3 : Nat) => xb_ext h h2 → ∀ ax : Nat, (XX = "java/lang/IllegalArgumentException" ∧ Qr 1 h2 bc3 bs3))


def w_Law_fault (x0 : Nat) (x1 : Int32) (x2 : Nat) (h : xb_H) (bc : Nat) (bs : Nat) (Qr : Int32 → xb_H → Nat → Nat → Prop) : Prop :=
    xb_k h x0 = 1 ∧ w_H_fault x0 x1 h bc bs (fun (r3 : Int32) (h2 : xb_H) (bc3 bs3 : Nat) => xb_ext h h2 → xb_k h2 x2 = 103 ∧ vp_in 0 (xb_n h2 x2) ∧ ∀ h6 : xb_H, h6 = xb_L h2 x2 (Int32.toNatClampNeg 0) (Int32.toInt64 r3) → Qr 0 h6 bc3 bs3) (fun (XX : String) (h2 : xb_H) (bc3 bs3 : Nat) => xb_ext h h2 → ∀ ax : Nat, (XX = "java/lang/IndexOutOfBoundsException" ∧ Qr 1 h2 bc3 bs3))


def w_Law_out (x0 : Nat) (x1 : Int32) (x2 : Nat) (h : xb_H) (bc : Nat) (bs : Nat) (Qr : Int32 → xb_H → Nat → Nat → Prop) : Prop :=
    xb_k h x0 = 1 ∧ w_H_out x0 x1 h bc bs (fun (r3 : Int64) (h2 : xb_H) (bc3 bs3 : Nat) => xb_ext h h2 → xb_k h2 x2 = 103 ∧ vp_in 0 (xb_n h2 x2) ∧ ∀ h6 : xb_H, h6 = xb_L h2 x2 (Int32.toNatClampNeg 0) r3 → Qr 0 h6 bc3 bs3) (fun (XX : String) (h2 : xb_H) (bc3 bs3 : Nat) => xb_ext h h2 → ∀ ax : Nat, (XX = "java/lang/IndexOutOfBoundsException" ∧ Qr 1 h2 bc3 bs3))


def w_Law_trap (x0 : Nat) (x1 : Int32) (x2 : Nat) (h : xb_H) (bc : Nat) (bs : Nat) (Qr : Int32 → xb_H → Nat → Nat → Prop) : Prop :=
    xb_k h x0 = 1 ∧ w_H_trap x0 x1 h bc bs (fun (r3 : Int32) (h2 : xb_H) (bc3 bs3 : Nat) => xb_ext h h2 → xb_k h2 x2 = 103 ∧ vp_in 0 (xb_n h2 x2) ∧ ∀ h6 : xb_H, h6 = xb_L h2 x2 (Int32.toNatClampNeg 0) (Int32.toInt64 r3) → Qr 0 h6 bc3 bs3) (fun (XX : String) (h2 : xb_H) (bc3 bs3 : Nat) => xb_ext h h2 → ∀ ax : Nat, (XX = "java/lang/IndexOutOfBoundsException" ∧ Qr 1 h2 bc3 bs3))


